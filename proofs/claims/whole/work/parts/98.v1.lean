/-! JURY and BOUND, alike -/
section JBD
variable {xs : Nat → Int32} {sl d : Nat} {J : hJk} {s x y : hS} {g : hG}
theorem pm_jury (n k a u : Int32) : Same xs sl J s g 28 273 [some (.ref 0), some (.int n), some (.int k), some (.int a), some (.int u), none, none, none, none, none, none] [some (.ref 81), some (.int n), some (.int k), some (.int a), some (.int u), none, none, none, none] := ⟨.long (fJury n k a u), s, s, g, @br_jury _ _ 996 _ 0 n k a u, CK_refl s, @rf_jury _ _ 996 _ 81 n k a u, RK_refl s⟩
theorem pm_bound (n a b : Int32) : Same xs sl J s g 29 278 [some (.ref 0), some (.int n), some (.int a), some (.int b)] [some (.ref 81), some (.int n), some (.int a), some (.int b), none, none, none, none, none, none] := ⟨.int (fBound n a b), s, s, g, @br_bound _ _ 995 _ 0 n a b, CK_refl s, @rf_bound _ _ 996 _ 81 n a b, RK_refl s⟩
end JBD
