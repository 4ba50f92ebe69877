/-! FEAST: the orders, and what comes next -/
section ORD
noncomputable def gN (l : List Nat) : Nat → Nat := List.rec (fun _ => 0) (fun x _ ih i => cond (Nat.beq i 0) x (ih (Nat.sub i 1))) l
/-- the last place whose next is greater, plus one; 0: none -/
noncomputable def pvF (f : Nat → Nat) (n : Nat) : Nat := Nat.rec 0 (fun i ih => cond (Nat.blt (f (i + 1)) (f i)) ih (i + 1)) n
/-- the last place that holds no less than x -/
noncomputable def lgF (f : Nat → Nat) (x n : Nat) : Nat := Nat.rec 0 (fun j ih => cond (Nat.blt (f (j + 1)) x) ih (j + 1)) n
def swF (f : Nat → Nat) (i j k : Nat) : Nat := cond (Nat.beq k j) (f i) (cond (Nat.beq k i) (f j) (f k))
/-- b comes next behind a -/
noncomputable def nxB (n : Nat) (a b : Nat → Nat) : Bool := (fun p => cond (Nat.beq p 0) false ((fun j => Nat.rec true (fun k ih => and (Nat.beq (b k) (swF a (p - 1) j (cond (Nat.ble (k + 1) p) k (p - 1 + n - k)))) ih) n) (lgF a (a (p - 1)) (n - 1)))) (pvF a (n - 1))
/-- each order of a list with l before it, then what follows -/
noncomputable def preL (l : Nat) (A B : List (List Nat)) : List (List Nat) := List.rec B (fun r _ ih => (l :: r) :: ih) A
/-- all orders of the loaves in m, least first: u at most -/
noncomputable def ordL (u : Nat) : Nat → List (List Nat) := Nat.rec (fun _ => [[]]) (fun _ ih m => cond (Nat.beq m 0) [[]] (Nat.rec [] (fun i rest => cond (Nat.beq (m / 2 ^ (7 - i) % 2) 1) (preL (7 - i) (ih (m - 2 ^ (7 - i))) rest) rest) 8)) u
noncomputable def chnL (n : Nat) (L : List (List Nat)) : Bool := List.rec false (fun a r ih => List.rec (Nat.beq (pvF (gN a) (n - 1)) 0) (fun b _ _ => and (nxB n (gN a) (gN b)) ih) r) L
def bcN (m : Nat) : Nat := m % 2 + m / 2 % 2 + m / 4 % 2 + m / 8 % 2 + m / 16 % 2 + m / 32 % 2 + m / 64 % 2 + m / 128 % 2
/-- the loaves of m that lie below l, counted; m's i-th loaf -/
def bcB (m l : Nat) : Nat := sumN (fun j => m / 2 ^ j % 2) l
noncomputable def ascB (m : Nat) (a : Nat → Nat) : Bool := Nat.rec true (fun l ih => and ih (cond (Nat.beq (m / 2 ^ l % 2) 1) (Nat.beq (a (bcB m l)) l) true)) 8
noncomputable def hdB (m : Nat) (L : List (List Nat)) : Bool := List.rec false (fun a _ _ => ascB m (gN a)) L
end ORD
