/-! WHAT A METHOD RETURNS: a value of its own type -/
section RET
variable {xs : Nat → Int32} {sl d : Nat}
def rOK (t : Option FieldType) (v : Option Value) : Prop := match t with
  | some .int => ∃ k, v = some (.int k)
  | some .boolean => ∃ k, v = some (.int k)
  | some .long => ∃ k, v = some (.long k)
  | _ => True
theorem nr_mgo {pc : Nat} {off : Int} {L : mL} {st : List Value} {H : mH} {v : Option Value} : ¬ mgo pc off L st H = some (.inr (.inl v)) := by
  intro h
  unfold mgo at h
  (repeat' split at h) <;> first | cases h
theorem nr_mldi {L : mL} {i pc : Nat} {st : List Value} {H : mH} {v : Option Value} : ¬ mldi L i pc st H = some (.inr (.inl v)) := by
  intro h
  unfold mldi at h
  (repeat' split at h) <;> first | cases h
theorem nr_mldl {L : mL} {i pc : Nat} {st : List Value} {H : mH} {v : Option Value} : ¬ mldl L i pc st H = some (.inr (.inl v)) := by
  intro h
  unfold mldl at h
  (repeat' split at h) <;> first | cases h
theorem nr_mlda {L : mL} {i pc : Nat} {st : List Value} {H : mH} {v : Option Value} : ¬ mlda L i pc st H = some (.inr (.inl v)) := by
  intro h
  unfold mlda at h
  (repeat' split at h) <;> first | cases h
theorem nr_msti {L : mL} {i pc : Nat} {st : List Value} {H : mH} {v : Option Value} : ¬ msti L i pc st H = some (.inr (.inl v)) := by
  intro h
  unfold msti at h
  (repeat' split at h) <;> first | cases h
theorem nr_mstl {L : mL} {i pc : Nat} {st : List Value} {H : mH} {v : Option Value} : ¬ mstl L i pc st H = some (.inr (.inl v)) := by
  intro h
  unfold mstl at h
  (repeat' split at h) <;> first | cases h
theorem nr_msta {L : mL} {i pc : Nat} {st : List Value} {H : mH} {v : Option Value} : ¬ msta L i pc st H = some (.inr (.inl v)) := by
  intro h
  unfold msta at h
  (repeat' split at h) <;> first | cases h
theorem nr_mincr {L : mL} {k : Nat} {n : Int} {pc : Nat} {st : List Value} {H : mH} {v : Option Value} : ¬ mincr L k n pc st H = some (.inr (.inl v)) := by
  intro h
  unfold mincr at h
  (repeat' split at h) <;> first | cases h
theorem nr_mldcs {M idx pc : Nat} {L : mL} {st : List Value} {H : mH} {v : Option Value} : ¬ mldcs M idx pc L st H = some (.inr (.inl v)) := by
  intro h
  unfold mldcs at h
  (repeat' split at h) <;> first | cases h
theorem nr_mldc {M idx pc : Nat} {L : mL} {st : List Value} {H : mH} {v : Option Value} : ¬ mldc M idx pc L st H = some (.inr (.inl v)) := by
  intro h
  unfold mldc at h
  (repeat' split at h) <;> first | cases h
theorem nr_mldc2 {M idx pc : Nat} {L : mL} {st : List Value} {H : mH} {v : Option Value} : ¬ mldc2 M idx pc L st H = some (.inr (.inl v)) := by
  intro h
  unfold mldc2 at h
  (repeat' split at h) <;> first | cases h
theorem nr_mii {pc : Nat} {L : mL} {st : List Value} {H : mH} {f : Int32 → Int32 → Int32} {v : Option Value} : ¬ mii pc L st H f = some (.inr (.inl v)) := by
  intro h
  unfold mii at h
  (repeat' split at h) <;> first | cases h
theorem nr_mdivi {pc : Nat} {L : mL} {st : List Value} {H : mH} {f : Int32 → Int32 → Int32} {v : Option Value} : ¬ mdivi pc L st H f = some (.inr (.inl v)) := by
  intro h
  unfold mdivi at h
  (repeat' split at h) <;> first | cases h
theorem nr_mun {pc : Nat} {L : mL} {st : List Value} {H : mH} {f : Int32 → Value} {v : Option Value} : ¬ mun pc L st H f = some (.inr (.inl v)) := by
  intro h
  unfold mun at h
  (repeat' split at h) <;> first | cases h
theorem nr_mll {pc : Nat} {L : mL} {st : List Value} {H : mH} {f : Int64 → Int64 → Int64} {v : Option Value} : ¬ mll pc L st H f = some (.inr (.inl v)) := by
  intro h
  unfold mll at h
  (repeat' split at h) <;> first | cases h
theorem nr_mdivl {pc : Nat} {L : mL} {st : List Value} {H : mH} {f : Int64 → Int64 → Int64} {v : Option Value} : ¬ mdivl pc L st H f = some (.inr (.inl v)) := by
  intro h
  unfold mdivl at h
  (repeat' split at h) <;> first | cases h
theorem nr_mlcmp {pc : Nat} {L : mL} {st : List Value} {H : mH} {v : Option Value} : ¬ mlcmp pc L st H = some (.inr (.inl v)) := by
  intro h
  unfold mlcmp at h
  (repeat' split at h) <;> first | cases h
theorem nr_mdup {pc : Nat} {L : mL} {st : List Value} {H : mH} {v : Option Value} : ¬ mdup pc L st H = some (.inr (.inl v)) := by
  intro h
  unfold mdup at h
  (repeat' split at h) <;> first | cases h
theorem nr_mpop1 {pc : Nat} {L : mL} {st : List Value} {H : mH} {v : Option Value} : ¬ mpop1 pc L st H = some (.inr (.inl v)) := by
  intro h
  unfold mpop1 at h
  (repeat' split at h) <;> first | cases h
theorem nr_mdup2 {pc : Nat} {L : mL} {st : List Value} {H : mH} {v : Option Value} : ¬ mdup2 pc L st H = some (.inr (.inl v)) := by
  intro h
  unfold mdup2 at h
  (repeat' split at h) <;> first | cases h
theorem nr_mbr {b : Bool} {pc : Nat} {off : Int} {L : mL} {st : List Value} {H : mH} {v : Option Value} : ¬ mbr b pc off L st H = some (.inr (.inl v)) := by
  intro h
  unfold mbr at h
  (repeat' split at h) <;> first | cases h
theorem nr_micmp {c : ClassFile.Cond} {off : Int} {pc : Nat} {L : mL} {st : List Value} {H : mH} {v : Option Value} : ¬ micmp c off pc L st H = some (.inr (.inl v)) := by
  intro h
  unfold micmp at h
  (repeat' split at h) <;> first | cases h | exact absurd h nr_mbr
theorem nr_mif0 {c : ClassFile.Cond} {off : Int} {pc : Nat} {L : mL} {st : List Value} {H : mH} {v : Option Value} : ¬ mif0 c off pc L st H = some (.inr (.inl v)) := by
  intro h
  unfold mif0 at h
  (repeat' split at h) <;> first | cases h | exact absurd h nr_mbr
theorem nr_mifn {off : Int} {pc : Nat} {L : mL} {st : List Value} {H : mH} {v : Option Value} : ¬ mifn off pc L st H = some (.inr (.inl v)) := by
  intro h
  unfold mifn at h
  (repeat' split at h) <;> first | cases h | exact absurd h nr_mgo
theorem nr_mifnn {off : Int} {pc : Nat} {L : mL} {st : List Value} {H : mH} {v : Option Value} : ¬ mifnn off pc L st H = some (.inr (.inl v)) := by
  intro h
  unfold mifnn at h
  (repeat' split at h) <;> first | cases h | exact absurd h nr_mgo
theorem nr_mtsw {dflt lo hi : Int} {offs : Array Int} {pc : Nat} {L : mL} {st : List Value} {H : mH} {v : Option Value} : ¬ mtsw dflt lo hi offs pc L st H = some (.inr (.inl v)) := by
  intro h
  unfold mtsw at h
  (repeat' split at h) <;> first | cases h | exact absurd h nr_mgo
theorem nr_mlsw {dflt : Int} {ps : Array (Int × Int)} {pc : Nat} {L : mL} {st : List Value} {H : mH} {v : Option Value} : ¬ mlsw dflt ps pc L st H = some (.inr (.inl v)) := by
  intro h
  unfold mlsw at h
  (repeat' split at h) <;> first | cases h | exact absurd h nr_mgo
theorem nr_mgetf {M pc idx : Nat} {L : mL} {st : List Value} {H : mH} {v : Option Value} : ¬ mgetf M pc idx L st H = some (.inr (.inl v)) := by
  intro h
  unfold mgetf at h
  (repeat' split at h) <;> first | cases h
theorem nr_mputf {M pc idx : Nat} {L : mL} {st : List Value} {H : mH} {v : Option Value} : ¬ mputf M pc idx L st H = some (.inr (.inl v)) := by
  intro h
  unfold mputf at h
  (repeat' split at h) <;> first | cases h
theorem nr_mald {pc t : Nat} {L : mL} {st : List Value} {H : mH} {v : Option Value} : ¬ mald pc t L st H = some (.inr (.inl v)) := by
  intro h
  unfold mald at h
  (repeat' split at h) <;> first | cases h
theorem nr_mialdx {xs : Nat → Int32} {sl M pc : Nat} {L : mL} {st : List Value} {H : mH} {v : Option Value} : ¬ mialdx xs sl M pc L st H = some (.inr (.inl v)) := by
  intro h
  unfold mialdx at h
  (repeat' split at h) <;> first | cases h | exact absurd h nr_mald
theorem nr_mbald {pc : Nat} {L : mL} {st : List Value} {H : mH} {v : Option Value} : ¬ mbald pc L st H = some (.inr (.inl v)) := by
  intro h
  unfold mbald at h
  (repeat' split at h) <;> first | cases h
theorem nr_mlald {pc : Nat} {L : mL} {st : List Value} {H : mH} {v : Option Value} : ¬ mlald pc L st H = some (.inr (.inl v)) := by
  intro h
  unfold mlald at h
  (repeat' split at h) <;> first | cases h
theorem nr_maald {pc : Nat} {L : mL} {st : List Value} {H : mH} {v : Option Value} : ¬ maald pc L st H = some (.inr (.inl v)) := by
  intro h
  unfold maald at h
  (repeat' split at h) <;> first | cases h
theorem nr_miast {pc : Nat} {L : mL} {st : List Value} {H : mH} {v : Option Value} : ¬ miast pc L st H = some (.inr (.inl v)) := by
  intro h
  unfold miast at h
  (repeat' split at h) <;> first | cases h
theorem nr_mbast {pc : Nat} {L : mL} {st : List Value} {H : mH} {v : Option Value} : ¬ mbast pc L st H = some (.inr (.inl v)) := by
  intro h
  unfold mbast at h
  (repeat' split at h) <;> first | cases h
theorem nr_mlast {pc : Nat} {L : mL} {st : List Value} {H : mH} {v : Option Value} : ¬ mlast pc L st H = some (.inr (.inl v)) := by
  intro h
  unfold mlast at h
  (repeat' split at h) <;> first | cases h
theorem nr_maast {pc : Nat} {L : mL} {st : List Value} {H : mH} {v : Option Value} : ¬ maast pc L st H = some (.inr (.inl v)) := by
  intro h
  unfold maast at h
  (repeat' split at h) <;> first | cases h
theorem nr_malen {sl M pc : Nat} {L : mL} {st : List Value} {H : mH} {v : Option Value} : ¬ malen sl M pc L st H = some (.inr (.inl v)) := by
  intro h
  unfold malen at h
  (repeat' split at h) <;> first | cases h
theorem nr_mnewo {M idx pc : Nat} {L : mL} {st : List Value} {H : mH} {v : Option Value} : ¬ mnewo M idx pc L st H = some (.inr (.inl v)) := by
  intro h
  unfold mnewo at h
  (repeat' split at h) <;> first | cases h
theorem nr_mnewa {ty : ArrayType} {pc : Nat} {L : mL} {st : List Value} {H : mH} {v : Option Value} : ¬ mnewa ty pc L st H = some (.inr (.inl v)) := by
  intro h
  unfold mnewa at h
  (repeat' split at h) <;> first | cases h
theorem nr_manew {M pc idx : Nat} {L : mL} {st : List Value} {H : mH} {v : Option Value} : ¬ manew M pc idx L st H = some (.inr (.inl v)) := by
  intro h
  unfold manew at h
  (repeat' split at h) <;> first | cases h
theorem nr_mcopy {d pc : Nat} {L : mL} {st : List Value} {H : mH} {v : Option Value} : ¬ mcopy d pc L st H = some (.inr (.inl v)) := by
  intro h
  unfold mcopy at h
  (repeat' split at h) <;> first | cases h
theorem nr_mmath {k d pc : Nat} {L : mL} {st : List Value} {H : mH} {v : Option Value} : ¬ mmath k d pc L st H = some (.inr (.inl v)) := by
  intro h
  unfold mmath at h
  (repeat' split at h) <;> first | cases h
theorem nr_mstr {want d M pc idx : Nat} {L : mL} {st : List Value} {H : mH} {v : Option Value} : ¬ mstr want d M pc idx L st H = some (.inr (.inl v)) := by
  intro h
  unfold mstr at h
  (repeat' split at h) <;> first | cases h
theorem nr_minv {want d M pc idx : Nat} {L : mL} {st : List Value} {H : mH} {v : Option Value} : ¬ minv want d M pc idx L st H = some (.inr (.inl v)) := by
  intro h
  unfold minv at h
  (repeat' split at h) <;> first | cases h | exact absurd h nr_mcopy | exact absurd h nr_mmath | exact absurd h nr_mstr
theorem ret_v {M : Nat} {st : List Value} {v : Option Value} (h : mretv M st = some (.inr (.inl v))) : rOK (mret M) v := by
  unfold mretv at h
  (repeat' split at h) <;> first | (cases h; done) | (cases h; simp [rOK, *]; done)
theorem ret_l {M : Nat} {st : List Value} {v : Option Value} (h : mretl M st = some (.inr (.inl v))) : rOK (mret M) v := by
  unfold mretl at h
  (repeat' split at h) <;> first | (cases h; done) | (cases h; simp [rOK, *]; done)
theorem ret_a {M : Nat} {st : List Value} {v : Option Value} (h : mreta M st = some (.inr (.inl v))) : rOK (mret M) v := by
  unfold mreta at h
  (repeat' split at h) <;> first | (cases h; done) | (cases h; simp [rOK, *]; done)
theorem ret_n {M : Nat} {st : List Value} {v : Option Value} (h : mretn M st = some (.inr (.inl v))) : rOK (mret M) v := by
  unfold mretn at h
  (repeat' split at h) <;> first | (cases h; done) | (cases h; simp [rOK, *]; done)
theorem st_ret {M pc : Nat} {i : Instr} {L : mL} {st : List Value} {H : mH} {v : Option Value} (h : mstep xs sl d M i pc L st H = some (.inr (.inl v))) : rOK (mret M) v := by
  unfold mstep at h
  split at h <;> first
    | cases h
    | exact absurd h nr_mldi | exact absurd h nr_mldl | exact absurd h nr_mlda | exact absurd h nr_msti | exact absurd h nr_mstl | exact absurd h nr_msta
    | exact absurd h nr_mincr | exact absurd h nr_mldcs | exact absurd h nr_mldc | exact absurd h nr_mldc2 | exact absurd h nr_mii | exact absurd h nr_mdivi
    | exact absurd h nr_mun | exact absurd h nr_mll | exact absurd h nr_mdivl | exact absurd h nr_mlcmp | exact absurd h nr_mdup | exact absurd h nr_mpop1
    | exact absurd h nr_mdup2 | exact absurd h nr_micmp | exact absurd h nr_mif0 | exact absurd h nr_mifn | exact absurd h nr_mifnn | exact absurd h nr_mgo
    | exact absurd h nr_mtsw | exact absurd h nr_mlsw | exact absurd h nr_mgetf | exact absurd h nr_mputf | exact absurd h nr_mialdx | exact absurd h nr_mbald
    | exact absurd h nr_mlald | exact absurd h nr_maald | exact absurd h nr_miast | exact absurd h nr_mbast | exact absurd h nr_mlast | exact absurd h nr_maast
    | exact absurd h nr_malen | exact absurd h nr_mnewo | exact absurd h nr_mnewa | exact absurd h nr_manew | exact absurd h nr_minv
    | exact ret_v h | exact ret_l h | exact ret_a h | exact ret_n h
theorem go_ret : ∀ {n d M pc : Nat} {L : mL} {st : List Value} {H H' : mH} {v : Option Value}, go xs sl n d M pc L st H = some (v, H') → rOK (mret M) v := by
  intro n
  induction n with
  | zero => intro d M pc L st H H' v h; cases h
  | succ n ih =>
    intro d M pc L st H H' v h
    rw [go] at h
    cases hi : mop M pc with
    | none => rw [hi] at h; cases h
    | some i =>
      rw [hi] at h
      dsimp only at h
      cases hs : mstep xs sl d M i pc L st H with
      | none => rw [hs] at h; cases h
      | some q =>
        rw [hs] at h
        obtain ⟨pc1, L1, st1, H1⟩ | w | ⟨M1, as, r1⟩ := q
        · exact ih h
        · have e : (w, H) = (v, H') := Option.some.inj h
          have e2 : w = v := congrArg (fun q => q.1) e
          rw [← e2]
          exact st_ret hs
        · cases d with
          | zero => cases h
          | succ d1 =>
            dsimp only at h
            cases h1 : go xs sl n d1 M1 0 (ment M1 as) [] H with
            | none => rw [h1] at h; cases h
            | some w =>
              rw [h1] at h
              obtain ⟨v1, H1⟩ := w
              exact ih h
theorem Runs.int {M pc : Nat} {L : mL} {st : List Value} {H H' : mH} {v : Value} (h : Runs xs sl d M pc L st H (some v, H')) (hM : mret M = some .int ∨ mret M = some .boolean) : ∃ k, v = .int k := by
  obtain ⟨n, h⟩ := h
  have q := go_ret h
  rcases hM with e | e
  · rw [e] at q
    obtain ⟨k, e2⟩ := q
    exact ⟨k, Option.some.inj e2⟩
  · rw [e] at q
    obtain ⟨k, e2⟩ := q
    exact ⟨k, Option.some.inj e2⟩
theorem Runs.lng {M pc : Nat} {L : mL} {st : List Value} {H H' : mH} {v : Value} (h : Runs xs sl d M pc L st H (some v, H')) (hM : mret M = some .long) : ∃ k, v = .long k := by
  obtain ⟨n, h⟩ := h
  have q := go_ret h
  rw [hM] at q
  obtain ⟨k, e2⟩ := q
  exact ⟨k, Option.some.inj e2⟩
end RET
