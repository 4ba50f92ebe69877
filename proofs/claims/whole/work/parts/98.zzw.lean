/-! THE LAW: one call of each kind, compared -/
section LWC
variable {xs : Nat → Int32} {sl d : Nat}
def lwB (x : Int32) : Int32 := if x = 0 then 0 else 1
theorem lwB_or (x : Int32) : lwB x = 0 ∨ lwB x = 1 := by
  unfold lwB
  by_cases h : x = 0
  · exact Or.inl (if_pos h)
  · exact Or.inr (if_neg h)
theorem lw_at {i n : Nat} (hi : i + 6 ≤ sl) (hl : sl ≤ 3072) (hn : n < 6) : ¬ (nI (i + n) < 0 ∨ sl ≤ (nI (i + n)).toNatClampNeg) ∧ (nI (i + n)).toNatClampNeg = i + n := by
  have e : (nI (i + n)).toNatClampNeg = i + n := nI_clamp (by omega)
  refine ⟨?_, e⟩
  rintro (h | h)
  · exact nI_pos (by omega) h
  · rw [e] at h
    omega
theorem lg_self (n : Int64) : lg_cmp n n = 0 := by
  unfold lg_cmp
  rw [if_neg (Int64.lt_irrefl), if_pos rfl]
theorem and31 (v : Int32) : ∃ w, w < 32 ∧ v &&& 31 = nI w := by
  refine ⟨(v &&& 31).toBitVec.toNat, ?_, ?_⟩
  · rw [Int32.toBitVec_and, BitVec.toNat_and]
    exact Nat.lt_of_le_of_lt Nat.and_le_right (by decide)
  · apply Int32.toBitVec_inj.mp
    show _ = BitVec.ofNat 32 _
    rw [BitVec.ofNat_toNat]
    simp
abbrev lwL (i : Nat) : mL := [some (.retAddr 99), some (.ref 0), some (.ref 81), some (.int (nI i))]
/-- a call done and compared -/
def lwD (xs : Nat → Int32) (sl i k : Nat) (H : mH) (K : Nat) : Prop := ∃ H2, (∃ (J : hJk) (s : hS) (g : hG), H2 = hp J s g ∧ LI J s K) ∧ ∀ r, Runs xs sl 1000 0 1458 (lwL i) [] H2 r → Runs xs sl 1000 0 33 (lwL i) [.int (nI k)] H r
theorem lw_c0 {i K : Nat} {H : mH} (hi : i + 6 ≤ sl) (hl : sl ≤ 3072) (hS' : StepI xs sl H 2 170 [some (.ref 0), some (.int (xs (i + 1))), some (.int (xs (i + 2))), some (.int (xs (i + 3))), some (.int (xs (i + 4))), some (.int (xs (i + 5)))] [some (.ref 81), some (.int (xs (i + 1))), some (.int (xs (i + 2))), some (.int (xs (i + 3))), some (.int (xs (i + 4))), some (.int (xs (i + 5))), none, none] K) : lwD xs sl i 0 H K := by
  obtain ⟨v, H1, H2, c1, c2, q1, q2, hE⟩ := hS'
  obtain ⟨n, rfl⟩ := q1.int (Or.inl mrt_2)
  obtain ⟨b1, e1⟩ := lw_at (n := 1) hi hl (by decide)
  obtain ⟨b2, e2⟩ := lw_at (n := 2) hi hl (by decide)
  obtain ⟨b3, e3⟩ := lw_at (n := 3) hi hl (by decide)
  obtain ⟨b4, e4⟩ := lw_at (n := 4) hi hl (by decide)
  obtain ⟨b5, e5⟩ := lw_at (n := 5) hi hl (by decide)
  refine ⟨H2, hE, fun r hr => ?_⟩
  refine r0_33_c0.mpr ?_
  simp (disch := assumption) only [r0_168, r0_168n, r0_169, r0_170, r0_171, r0_172, r0_173, r0_174, r0_175, r0_176, r0_177, r0_178, r0_179, r0_180, r0_181, r0_182, r0_183, r0_184, r0_185, r0_186, r0_187, r0_188, r0_189, r0_190, r0_191, r0_192, r0_193, nI_addL, e1, e2, e3, e4, e5]
  rw [r0_194 c1]
  refine q1.on ?_
  simp (disch := assumption) only [Option.toList, List.singleton_append, List.append_nil, List.cons_append, List.nil_append, r0_197, r0_197n, r0_198, r0_199, r0_200, r0_201, r0_202, r0_203, r0_204, r0_205, r0_206, r0_207, r0_208, r0_209, r0_210, r0_211, r0_212, r0_213, r0_214, r0_215, r0_216, r0_217, r0_218, r0_219, r0_220, r0_221, r0_222, nI_addL, e1, e2, e3, e4, e5]
  rw [r0_223 c2]
  refine q2.on ?_
  simp only [Option.toList, List.singleton_append, List.append_nil, List.cons_append, List.nil_append, r0_226, ↓reduceIte]
  exact hr
theorem lw_c1 {i K : Nat} {H : mH} (hi : i + 6 ≤ sl) (hl : sl ≤ 3072) (hS' : StepI xs sl H 3 171 [some (.ref 0), some (.int (xs (i + 1)))] [some (.ref 81), some (.int (xs (i + 1)))] K) : lwD xs sl i 1 H K := by
  obtain ⟨v, H1, H2, c1, c2, q1, q2, hE⟩ := hS'
  obtain ⟨n, rfl⟩ := q1.int (Or.inl mrt_3)
  obtain ⟨b1, e1⟩ := lw_at (n := 1) hi hl (by decide)
  refine ⟨H2, hE, fun r hr => ?_⟩
  refine r0_33_c1.mpr ?_
  simp (disch := assumption) only [r0_231, r0_231n, r0_232, r0_233, r0_234, r0_235, r0_236, nI_addL, e1]
  rw [r0_237 c1]
  refine q1.on ?_
  simp (disch := assumption) only [Option.toList, List.singleton_append, List.append_nil, List.cons_append, List.nil_append, r0_240, r0_240n, r0_241, r0_242, r0_243, r0_244, r0_245, nI_addL, e1]
  rw [r0_246 c2]
  refine q2.on ?_
  simp only [Option.toList, List.singleton_append, List.append_nil, List.cons_append, List.nil_append, r0_249, ↓reduceIte]
  exact hr
theorem lw_c2 {i K : Nat} {H : mH} (hi : i + 6 ≤ sl) (hl : sl ≤ 3072) (hS' : StepI xs sl H 4 172 [some (.ref 0), some (.int (xs (i + 1))), some (.int (xs (i + 2))), none, none, none, none] [some (.ref 81), some (.int (xs (i + 1))), some (.int (xs (i + 2))), none, none] K) : lwD xs sl i 2 H K := by
  obtain ⟨v, H1, H2, c1, c2, q1, q2, hE⟩ := hS'
  obtain ⟨n, rfl⟩ := q1.int (Or.inl mrt_4)
  obtain ⟨b1, e1⟩ := lw_at (n := 1) hi hl (by decide)
  obtain ⟨b2, e2⟩ := lw_at (n := 2) hi hl (by decide)
  refine ⟨H2, hE, fun r hr => ?_⟩
  refine r0_33_c2.mpr ?_
  simp (disch := assumption) only [r0_254, r0_254n, r0_255, r0_256, r0_257, r0_258, r0_259, r0_260, r0_261, r0_262, r0_263, r0_264, nI_addL, e1, e2]
  rw [r0_265 c1]
  refine q1.on ?_
  simp (disch := assumption) only [Option.toList, List.singleton_append, List.append_nil, List.cons_append, List.nil_append, r0_268, r0_268n, r0_269, r0_270, r0_271, r0_272, r0_273, r0_274, r0_275, r0_276, r0_277, r0_278, nI_addL, e1, e2]
  rw [r0_279 c2]
  refine q2.on ?_
  simp only [Option.toList, List.singleton_append, List.append_nil, List.cons_append, List.nil_append, r0_282, ↓reduceIte]
  exact hr
theorem lw_c3 {i K : Nat} {H : mH} (hi : i + 6 ≤ sl) (hl : sl ≤ 3072) (hS' : StepI xs sl H 6 202 [some (.ref 0), some (.int (xs (i + 1)))] [some (.ref 81), some (.int (xs (i + 1)))] K) : lwD xs sl i 3 H K := by
  obtain ⟨v, H1, H2, c1, c2, q1, q2, hE⟩ := hS'
  obtain ⟨n, rfl⟩ := q1.int (Or.inl mrt_6)
  obtain ⟨b1, e1⟩ := lw_at (n := 1) hi hl (by decide)
  refine ⟨H2, hE, fun r hr => ?_⟩
  refine r0_33_c3.mpr ?_
  simp (disch := assumption) only [r0_287, r0_287n, r0_288, r0_289, r0_290, r0_291, r0_292, nI_addL, e1]
  rw [r0_293 c1]
  refine q1.on ?_
  simp (disch := assumption) only [Option.toList, List.singleton_append, List.append_nil, List.cons_append, List.nil_append, r0_296, r0_296n, r0_297, r0_298, r0_299, r0_300, r0_301, nI_addL, e1]
  rw [r0_302 c2]
  refine q2.on ?_
  simp only [Option.toList, List.singleton_append, List.append_nil, List.cons_append, List.nil_append, r0_305, ↓reduceIte]
  exact hr
theorem lw_c4 {i K : Nat} {H : mH} (hi : i + 6 ≤ sl) (hl : sl ≤ 3072) (hS' : StepI xs sl H 7 203 [some (.ref 0), some (.int (xs (i + 1))), some (.int (xs (i + 2))), none, none, none] [some (.ref 81), some (.int (xs (i + 1))), some (.int (xs (i + 2))), none] K) : lwD xs sl i 4 H K := by
  obtain ⟨v, H1, H2, c1, c2, q1, q2, hE⟩ := hS'
  obtain ⟨n, rfl⟩ := q1.int (Or.inl mrt_7)
  obtain ⟨b1, e1⟩ := lw_at (n := 1) hi hl (by decide)
  obtain ⟨b2, e2⟩ := lw_at (n := 2) hi hl (by decide)
  refine ⟨H2, hE, fun r hr => ?_⟩
  refine r0_33_c4.mpr ?_
  simp (disch := assumption) only [r0_310, r0_310n, r0_311, r0_312, r0_313, r0_314, r0_315, r0_316, r0_317, r0_318, r0_319, r0_320, nI_addL, e1, e2]
  rw [r0_321 c1]
  refine q1.on ?_
  simp (disch := assumption) only [Option.toList, List.singleton_append, List.append_nil, List.cons_append, List.nil_append, r0_324, r0_324n, r0_325, r0_326, r0_327, r0_328, r0_329, r0_330, r0_331, r0_332, r0_333, r0_334, nI_addL, e1, e2]
  rw [r0_335 c2]
  refine q2.on ?_
  simp only [Option.toList, List.singleton_append, List.append_nil, List.cons_append, List.nil_append, r0_338, ↓reduceIte]
  exact hr
theorem lw_c5 {i K : Nat} {H : mH} (hi : i + 6 ≤ sl) (hl : sl ≤ 3072) (hS' : StepI xs sl H 9 206 [some (.ref 0), some (.int (xs (i + 1))), some (.int (xs (i + 2))), some (.int (xs (i + 3))), none] [some (.ref 81), some (.int (xs (i + 1))), some (.int (xs (i + 2))), some (.int (xs (i + 3)))] K) : lwD xs sl i 5 H K := by
  obtain ⟨v, H1, H2, c1, c2, q1, q2, hE⟩ := hS'
  obtain ⟨n, rfl⟩ := q1.int (Or.inl mrt_9)
  obtain ⟨b1, e1⟩ := lw_at (n := 1) hi hl (by decide)
  obtain ⟨b2, e2⟩ := lw_at (n := 2) hi hl (by decide)
  obtain ⟨b3, e3⟩ := lw_at (n := 3) hi hl (by decide)
  refine ⟨H2, hE, fun r hr => ?_⟩
  refine r0_33_c5.mpr ?_
  simp (disch := assumption) only [r0_343, r0_343n, r0_344, r0_345, r0_346, r0_347, r0_348, r0_349, r0_350, r0_351, r0_352, r0_353, r0_354, r0_355, r0_356, r0_357, r0_358, nI_addL, e1, e2, e3]
  rw [r0_359 c1]
  refine q1.on ?_
  simp (disch := assumption) only [Option.toList, List.singleton_append, List.append_nil, List.cons_append, List.nil_append, r0_362, r0_362n, r0_363, r0_364, r0_365, r0_366, r0_367, r0_368, r0_369, r0_370, r0_371, r0_372, r0_373, r0_374, r0_375, r0_376, r0_377, nI_addL, e1, e2, e3]
  rw [r0_378 c2]
  refine q2.on ?_
  simp only [Option.toList, List.singleton_append, List.append_nil, List.cons_append, List.nil_append, r0_381, ↓reduceIte]
  exact hr
theorem lw_c6 {i K : Nat} {H : mH} (hi : i + 6 ≤ sl) (hl : sl ≤ 3072) (hS' : StepI xs sl H 10 208 [some (.ref 0), some (.int (xs (i + 1))), some (.int (xs (i + 2))), some (.int (xs (i + 3))), none] [some (.ref 81), some (.int (xs (i + 1))), some (.int (xs (i + 2))), some (.int (xs (i + 3)))] K) : lwD xs sl i 6 H K := by
  obtain ⟨v, H1, H2, c1, c2, q1, q2, hE⟩ := hS'
  obtain ⟨n, rfl⟩ := q1.int (Or.inl mrt_10)
  obtain ⟨b1, e1⟩ := lw_at (n := 1) hi hl (by decide)
  obtain ⟨b2, e2⟩ := lw_at (n := 2) hi hl (by decide)
  obtain ⟨b3, e3⟩ := lw_at (n := 3) hi hl (by decide)
  refine ⟨H2, hE, fun r hr => ?_⟩
  refine r0_33_c6.mpr ?_
  simp (disch := assumption) only [r0_386, r0_386n, r0_387, r0_388, r0_389, r0_390, r0_391, r0_392, r0_393, r0_394, r0_395, r0_396, r0_397, r0_398, r0_399, r0_400, r0_401, nI_addL, e1, e2, e3]
  rw [r0_402 c1]
  refine q1.on ?_
  simp (disch := assumption) only [Option.toList, List.singleton_append, List.append_nil, List.cons_append, List.nil_append, r0_405, r0_405n, r0_406, r0_407, r0_408, r0_409, r0_410, r0_411, r0_412, r0_413, r0_414, r0_415, r0_416, r0_417, r0_418, r0_419, r0_420, nI_addL, e1, e2, e3]
  rw [r0_421 c2]
  refine q2.on ?_
  simp only [Option.toList, List.singleton_append, List.append_nil, List.cons_append, List.nil_append, r0_424, ↓reduceIte]
  exact hr
theorem lw_c7 {i K : Nat} {H : mH} (hi : i + 6 ≤ sl) (hl : sl ≤ 3072) (hS' : StepI xs sl H 11 209 [some (.ref 0), some (.int (xs (i + 1))), some (.int (xs (i + 2))), some (.int (xs (i + 3))), none] [some (.ref 81), some (.int (xs (i + 1))), some (.int (xs (i + 2))), some (.int (xs (i + 3)))] K) : lwD xs sl i 7 H K := by
  obtain ⟨v, H1, H2, c1, c2, q1, q2, hE⟩ := hS'
  obtain ⟨n, rfl⟩ := q1.int (Or.inl mrt_11)
  obtain ⟨b1, e1⟩ := lw_at (n := 1) hi hl (by decide)
  obtain ⟨b2, e2⟩ := lw_at (n := 2) hi hl (by decide)
  obtain ⟨b3, e3⟩ := lw_at (n := 3) hi hl (by decide)
  refine ⟨H2, hE, fun r hr => ?_⟩
  refine r0_33_c7.mpr ?_
  simp (disch := assumption) only [r0_429, r0_429n, r0_430, r0_431, r0_432, r0_433, r0_434, r0_435, r0_436, r0_437, r0_438, r0_439, r0_440, r0_441, r0_442, r0_443, r0_444, nI_addL, e1, e2, e3]
  rw [r0_445 c1]
  refine q1.on ?_
  simp (disch := assumption) only [Option.toList, List.singleton_append, List.append_nil, List.cons_append, List.nil_append, r0_448, r0_448n, r0_449, r0_450, r0_451, r0_452, r0_453, r0_454, r0_455, r0_456, r0_457, r0_458, r0_459, r0_460, r0_461, r0_462, r0_463, nI_addL, e1, e2, e3]
  rw [r0_464 c2]
  refine q2.on ?_
  simp only [Option.toList, List.singleton_append, List.append_nil, List.cons_append, List.nil_append, r0_467, ↓reduceIte]
  exact hr
theorem lw_c8 {i K : Nat} {H : mH} (hi : i + 6 ≤ sl) (hl : sl ≤ 3072) (hS' : StepI xs sl H 13 212 [some (.ref 0), some (.int (xs (i + 1))), some (.int (xs (i + 2))), none, none] [some (.ref 81), some (.int (xs (i + 1))), some (.int (xs (i + 2)))] K) : lwD xs sl i 8 H K := by
  obtain ⟨v, H1, H2, c1, c2, q1, q2, hE⟩ := hS'
  obtain ⟨n, rfl⟩ := q1.int (Or.inl mrt_13)
  obtain ⟨b1, e1⟩ := lw_at (n := 1) hi hl (by decide)
  obtain ⟨b2, e2⟩ := lw_at (n := 2) hi hl (by decide)
  refine ⟨H2, hE, fun r hr => ?_⟩
  refine r0_33_c8.mpr ?_
  simp (disch := assumption) only [r0_472, r0_472n, r0_473, r0_474, r0_475, r0_476, r0_477, r0_478, r0_479, r0_480, r0_481, r0_482, nI_addL, e1, e2]
  rw [r0_483 c1]
  refine q1.on ?_
  simp (disch := assumption) only [Option.toList, List.singleton_append, List.append_nil, List.cons_append, List.nil_append, r0_486, r0_486n, r0_487, r0_488, r0_489, r0_490, r0_491, r0_492, r0_493, r0_494, r0_495, r0_496, nI_addL, e1, e2]
  rw [r0_497 c2]
  refine q2.on ?_
  simp only [Option.toList, List.singleton_append, List.append_nil, List.cons_append, List.nil_append, r0_500, ↓reduceIte]
  exact hr
theorem lw_c9 {i K : Nat} {H : mH} (hi : i + 6 ≤ sl) (hl : sl ≤ 3072) (hS' : StepI xs sl H 15 227 [some (.ref 0), some (.int (xs (i + 1))), some (.int (xs (i + 2))), some (.int (xs (i + 3))), some (.int (xs (i + 4))), none, none] [some (.ref 81), some (.int (xs (i + 1))), some (.int (xs (i + 2))), some (.int (xs (i + 3))), some (.int (xs (i + 4)))] K) : lwD xs sl i 9 H K := by
  obtain ⟨v, H1, H2, c1, c2, q1, q2, hE⟩ := hS'
  obtain ⟨n, rfl⟩ := q1.int (Or.inl mrt_15)
  obtain ⟨b1, e1⟩ := lw_at (n := 1) hi hl (by decide)
  obtain ⟨b2, e2⟩ := lw_at (n := 2) hi hl (by decide)
  obtain ⟨b3, e3⟩ := lw_at (n := 3) hi hl (by decide)
  obtain ⟨b4, e4⟩ := lw_at (n := 4) hi hl (by decide)
  refine ⟨H2, hE, fun r hr => ?_⟩
  refine r0_33_c9.mpr ?_
  simp (disch := assumption) only [r0_505, r0_505n, r0_506, r0_507, r0_508, r0_509, r0_510, r0_511, r0_512, r0_513, r0_514, r0_515, r0_516, r0_517, r0_518, r0_519, r0_520, r0_521, r0_522, r0_523, r0_524, r0_525, nI_addL, e1, e2, e3, e4]
  rw [r0_526 c1]
  refine q1.on ?_
  simp (disch := assumption) only [Option.toList, List.singleton_append, List.append_nil, List.cons_append, List.nil_append, r0_529, r0_529n, r0_530, r0_531, r0_532, r0_533, r0_534, r0_535, r0_536, r0_537, r0_538, r0_539, r0_540, r0_541, r0_542, r0_543, r0_544, r0_545, r0_546, r0_547, r0_548, r0_549, nI_addL, e1, e2, e3, e4]
  rw [r0_550 c2]
  refine q2.on ?_
  simp only [Option.toList, List.singleton_append, List.append_nil, List.cons_append, List.nil_append, r0_553, ↓reduceIte]
  exact hr
theorem lw_c10 {i K : Nat} {H : mH} (hi : i + 6 ≤ sl) (hl : sl ≤ 3072) (hS' : StepI xs sl H 16 233 [some (.ref 0), some (.int (xs (i + 1))), some (.int (xs (i + 2))), some (.int (xs (i + 3))), none, none] [some (.ref 81), some (.int (xs (i + 1))), some (.int (xs (i + 2))), some (.int (xs (i + 3))), none, none, none] K) : lwD xs sl i 10 H K := by
  obtain ⟨v, H1, H2, c1, c2, q1, q2, hE⟩ := hS'
  obtain ⟨n, rfl⟩ := q1.int (Or.inl mrt_16)
  obtain ⟨b1, e1⟩ := lw_at (n := 1) hi hl (by decide)
  obtain ⟨b2, e2⟩ := lw_at (n := 2) hi hl (by decide)
  obtain ⟨b3, e3⟩ := lw_at (n := 3) hi hl (by decide)
  refine ⟨H2, hE, fun r hr => ?_⟩
  refine r0_33_c10.mpr ?_
  simp (disch := assumption) only [r0_558, r0_558n, r0_559, r0_560, r0_561, r0_562, r0_563, r0_564, r0_565, r0_566, r0_567, r0_568, r0_569, r0_570, r0_571, r0_572, r0_573, nI_addL, e1, e2, e3]
  rw [r0_574 c1]
  refine q1.on ?_
  simp (disch := assumption) only [Option.toList, List.singleton_append, List.append_nil, List.cons_append, List.nil_append, r0_577, r0_577n, r0_578, r0_579, r0_580, r0_581, r0_582, r0_583, r0_584, r0_585, r0_586, r0_587, r0_588, r0_589, r0_590, r0_591, r0_592, nI_addL, e1, e2, e3]
  rw [r0_593 c2]
  refine q2.on ?_
  simp only [Option.toList, List.singleton_append, List.append_nil, List.cons_append, List.nil_append, r0_596, ↓reduceIte]
  exact hr
theorem lw_c11 {i K : Nat} {H : mH} (hi : i + 6 ≤ sl) (hl : sl ≤ 3072) (hS' : StepI xs sl H 17 237 [some (.ref 0), some (.int (xs (i + 1))), some (.int (xs (i + 2))), some (.int (xs (i + 3))), some (.int (xs (i + 4))), some (.int (xs (i + 5))), none] [some (.ref 81), some (.int (xs (i + 1))), some (.int (xs (i + 2))), some (.int (xs (i + 3))), some (.int (xs (i + 4))), some (.int (xs (i + 5))), none, none, none, none, none, none] K) : lwD xs sl i 11 H K := by
  obtain ⟨v, H1, H2, c1, c2, q1, q2, hE⟩ := hS'
  obtain ⟨n, rfl⟩ := q1.int (Or.inl mrt_17)
  obtain ⟨b1, e1⟩ := lw_at (n := 1) hi hl (by decide)
  obtain ⟨b2, e2⟩ := lw_at (n := 2) hi hl (by decide)
  obtain ⟨b3, e3⟩ := lw_at (n := 3) hi hl (by decide)
  obtain ⟨b4, e4⟩ := lw_at (n := 4) hi hl (by decide)
  obtain ⟨b5, e5⟩ := lw_at (n := 5) hi hl (by decide)
  refine ⟨H2, hE, fun r hr => ?_⟩
  refine r0_33_c11.mpr ?_
  simp (disch := assumption) only [r0_601, r0_601n, r0_602, r0_603, r0_604, r0_605, r0_606, r0_607, r0_608, r0_609, r0_610, r0_611, r0_612, r0_613, r0_614, r0_615, r0_616, r0_617, r0_618, r0_619, r0_620, r0_621, r0_622, r0_623, r0_624, r0_625, r0_626, nI_addL, e1, e2, e3, e4, e5]
  rw [r0_627 c1]
  refine q1.on ?_
  simp (disch := assumption) only [Option.toList, List.singleton_append, List.append_nil, List.cons_append, List.nil_append, r0_630, r0_630n, r0_631, r0_632, r0_633, r0_634, r0_635, r0_636, r0_637, r0_638, r0_639, r0_640, r0_641, r0_642, r0_643, r0_644, r0_645, r0_646, r0_647, r0_648, r0_649, r0_650, r0_651, r0_652, r0_653, r0_654, r0_655, nI_addL, e1, e2, e3, e4, e5]
  rw [r0_656 c2]
  refine q2.on ?_
  simp only [Option.toList, List.singleton_append, List.append_nil, List.cons_append, List.nil_append, r0_659, ↓reduceIte]
  exact hr
theorem lw_c12 {i K : Nat} {H : mH} (hi : i + 6 ≤ sl) (hl : sl ≤ 3072) (hS' : StepI xs sl H 18 250 [some (.ref 0), some (.int (xs (i + 1))), some (.int (xs (i + 2))), none] [some (.ref 81), some (.int (xs (i + 1))), some (.int (xs (i + 2))), none, none, none, none] K) : lwD xs sl i 12 H K := by
  obtain ⟨v, H1, H2, c1, c2, q1, q2, hE⟩ := hS'
  obtain ⟨n, rfl⟩ := q1.int (Or.inl mrt_18)
  obtain ⟨b1, e1⟩ := lw_at (n := 1) hi hl (by decide)
  obtain ⟨b2, e2⟩ := lw_at (n := 2) hi hl (by decide)
  refine ⟨H2, hE, fun r hr => ?_⟩
  refine r0_33_c12.mpr ?_
  simp (disch := assumption) only [r0_664, r0_664n, r0_665, r0_666, r0_667, r0_668, r0_669, r0_670, r0_671, r0_672, r0_673, r0_674, nI_addL, e1, e2]
  rw [r0_675 c1]
  refine q1.on ?_
  simp (disch := assumption) only [Option.toList, List.singleton_append, List.append_nil, List.cons_append, List.nil_append, r0_678, r0_678n, r0_679, r0_680, r0_681, r0_682, r0_683, r0_684, r0_685, r0_686, r0_687, r0_688, nI_addL, e1, e2]
  rw [r0_689 c2]
  refine q2.on ?_
  simp only [Option.toList, List.singleton_append, List.append_nil, List.cons_append, List.nil_append, r0_692, ↓reduceIte]
  exact hr
theorem lw_c13 {i K : Nat} {H : mH} (hi : i + 6 ≤ sl) (hl : sl ≤ 3072) (hS' : StepI xs sl H 19 253 [some (.ref 0), some (.int (xs (i + 1))), some (.int (xs (i + 2))), some (.int (xs (i + 3))), none] [some (.ref 81), some (.int (xs (i + 1))), some (.int (xs (i + 2))), some (.int (xs (i + 3))), none, none] K) : lwD xs sl i 13 H K := by
  obtain ⟨v, H1, H2, c1, c2, q1, q2, hE⟩ := hS'
  obtain ⟨n, rfl⟩ := q1.int (Or.inl mrt_19)
  obtain ⟨b1, e1⟩ := lw_at (n := 1) hi hl (by decide)
  obtain ⟨b2, e2⟩ := lw_at (n := 2) hi hl (by decide)
  obtain ⟨b3, e3⟩ := lw_at (n := 3) hi hl (by decide)
  refine ⟨H2, hE, fun r hr => ?_⟩
  refine r0_33_c13.mpr ?_
  simp (disch := assumption) only [r0_697, r0_697n, r0_698, r0_699, r0_700, r0_701, r0_702, r0_703, r0_704, r0_705, r0_706, r0_707, r0_708, r0_709, r0_710, r0_711, r0_712, nI_addL, e1, e2, e3]
  rw [r0_713 c1]
  refine q1.on ?_
  simp (disch := assumption) only [Option.toList, List.singleton_append, List.append_nil, List.cons_append, List.nil_append, r0_716, r0_716n, r0_717, r0_718, r0_719, r0_720, r0_721, r0_722, r0_723, r0_724, r0_725, r0_726, r0_727, r0_728, r0_729, r0_730, r0_731, nI_addL, e1, e2, e3]
  rw [r0_732 c2]
  refine q2.on ?_
  simp only [Option.toList, List.singleton_append, List.append_nil, List.cons_append, List.nil_append, r0_735, ↓reduceIte]
  exact hr
theorem lw_c14 {i K : Nat} {H : mH} (hi : i + 6 ≤ sl) (hl : sl ≤ 3072) (hS' : StepI xs sl H 20 254 [some (.ref 0), some (.int (xs (i + 1))), some (.int (xs (i + 2))), some (.int (xs (i + 3))), none] [some (.ref 81), some (.int (xs (i + 1))), some (.int (xs (i + 2))), some (.int (xs (i + 3))), none, none] K) : lwD xs sl i 14 H K := by
  obtain ⟨v, H1, H2, c1, c2, q1, q2, hE⟩ := hS'
  obtain ⟨n, rfl⟩ := q1.int (Or.inl mrt_20)
  obtain ⟨b1, e1⟩ := lw_at (n := 1) hi hl (by decide)
  obtain ⟨b2, e2⟩ := lw_at (n := 2) hi hl (by decide)
  obtain ⟨b3, e3⟩ := lw_at (n := 3) hi hl (by decide)
  refine ⟨H2, hE, fun r hr => ?_⟩
  refine r0_33_c14.mpr ?_
  simp (disch := assumption) only [r0_740, r0_740n, r0_741, r0_742, r0_743, r0_744, r0_745, r0_746, r0_747, r0_748, r0_749, r0_750, r0_751, r0_752, r0_753, r0_754, r0_755, nI_addL, e1, e2, e3]
  rw [r0_756 c1]
  refine q1.on ?_
  simp (disch := assumption) only [Option.toList, List.singleton_append, List.append_nil, List.cons_append, List.nil_append, r0_759, r0_759n, r0_760, r0_761, r0_762, r0_763, r0_764, r0_765, r0_766, r0_767, r0_768, r0_769, r0_770, r0_771, r0_772, r0_773, r0_774, nI_addL, e1, e2, e3]
  rw [r0_775 c2]
  refine q2.on ?_
  simp only [Option.toList, List.singleton_append, List.append_nil, List.cons_append, List.nil_append, r0_778, ↓reduceIte]
  exact hr
theorem lw_c15 {i K : Nat} {H : mH} (hi : i + 6 ≤ sl) (hl : sl ≤ 3072) (hS' : StepI xs sl H 21 259 [some (.ref 0), some (.int (xs (i + 1))), some (.int (xs (i + 2))), some (.int (xs (i + 3))), some (.int (xs (i + 4))), none, none, none] [some (.ref 81), some (.int (xs (i + 1))), some (.int (xs (i + 2))), some (.int (xs (i + 3))), some (.int (xs (i + 4))), none] K) : lwD xs sl i 15 H K := by
  obtain ⟨v, H1, H2, c1, c2, q1, q2, hE⟩ := hS'
  obtain ⟨n, rfl⟩ := q1.int (Or.inl mrt_21)
  obtain ⟨b1, e1⟩ := lw_at (n := 1) hi hl (by decide)
  obtain ⟨b2, e2⟩ := lw_at (n := 2) hi hl (by decide)
  obtain ⟨b3, e3⟩ := lw_at (n := 3) hi hl (by decide)
  obtain ⟨b4, e4⟩ := lw_at (n := 4) hi hl (by decide)
  refine ⟨H2, hE, fun r hr => ?_⟩
  refine r0_33_c15.mpr ?_
  simp (disch := assumption) only [r0_783, r0_783n, r0_784, r0_785, r0_786, r0_787, r0_788, r0_789, r0_790, r0_791, r0_792, r0_793, r0_794, r0_795, r0_796, r0_797, r0_798, r0_799, r0_800, r0_801, r0_802, r0_803, nI_addL, e1, e2, e3, e4]
  rw [r0_804 c1]
  refine q1.on ?_
  simp (disch := assumption) only [Option.toList, List.singleton_append, List.append_nil, List.cons_append, List.nil_append, r0_807, r0_807n, r0_808, r0_809, r0_810, r0_811, r0_812, r0_813, r0_814, r0_815, r0_816, r0_817, r0_818, r0_819, r0_820, r0_821, r0_822, r0_823, r0_824, r0_825, r0_826, r0_827, nI_addL, e1, e2, e3, e4]
  rw [r0_828 c2]
  refine q2.on ?_
  simp only [Option.toList, List.singleton_append, List.append_nil, List.cons_append, List.nil_append, r0_831, ↓reduceIte]
  exact hr
theorem lw_c16 {i K : Nat} {H : mH} (hi : i + 6 ≤ sl) (hl : sl ≤ 3072) (hS' : StepI xs sl H 22 260 [some (.ref 0), some (.int (xs (i + 1))), some (.int (xs (i + 2))), some (.int (xs (i + 3))), some (.int (xs (i + 4))), some (.int (lwB (xs (i + 5)))), none] [some (.ref 81), some (.int (xs (i + 1))), some (.int (xs (i + 2))), some (.int (xs (i + 3))), some (.int (xs (i + 4))), some (.int (lwB (xs (i + 5))))] K) : lwD xs sl i 16 H K := by
  obtain ⟨v, H1, H2, c1, c2, q1, q2, hE⟩ := hS'
  obtain ⟨n, rfl⟩ := q1.int (Or.inl mrt_22)
  obtain ⟨b1, e1⟩ := lw_at (n := 1) hi hl (by decide)
  obtain ⟨b2, e2⟩ := lw_at (n := 2) hi hl (by decide)
  obtain ⟨b3, e3⟩ := lw_at (n := 3) hi hl (by decide)
  obtain ⟨b4, e4⟩ := lw_at (n := 4) hi hl (by decide)
  obtain ⟨b5, e5⟩ := lw_at (n := 5) hi hl (by decide)
  refine ⟨H2, hE, fun r hr => ?_⟩
  by_cases hb : xs (i + 5) = 0
  · have eB : lwB (xs (i + 5)) = 0 := if_pos hb
    rw [eB] at q1 q2
    refine r0_33_c16.mpr ?_
    simp (disch := assumption) only [r0_836, r0_836n, r0_837, r0_838, r0_839, r0_840, r0_841, r0_842, r0_843, r0_844, r0_845, r0_846, r0_847, r0_848, r0_849, r0_850, r0_851, r0_852, r0_853, r0_854, r0_855, r0_856, r0_857, r0_858, r0_859, r0_860, r0_861, r0_862, r0_865, r0_866, r0_869, nI_addL, e1, e2, e3, e4, e5, if_pos hb]
    rw [r0_870 c1]
    refine q1.on ?_
    simp (disch := assumption) only [Option.toList, List.singleton_append, List.append_nil, List.cons_append, List.nil_append, r0_873, r0_873n, r0_874, r0_875, r0_876, r0_877, r0_878, r0_879, r0_880, r0_881, r0_882, r0_883, r0_884, r0_885, r0_886, r0_887, r0_888, r0_889, r0_890, r0_891, r0_892, r0_893, r0_894, r0_895, r0_896, r0_897, r0_898, r0_899, r0_902, r0_903, r0_906, nI_addL, e1, e2, e3, e4, e5, if_pos hb]
    rw [r0_907 c2]
    refine q2.on ?_
    simp only [Option.toList, List.singleton_append, List.append_nil, List.cons_append, List.nil_append, r0_910, ↓reduceIte]
    exact hr
  · have eB : lwB (xs (i + 5)) = 1 := if_neg hb
    rw [eB] at q1 q2
    refine r0_33_c16.mpr ?_
    simp (disch := assumption) only [r0_836, r0_836n, r0_837, r0_838, r0_839, r0_840, r0_841, r0_842, r0_843, r0_844, r0_845, r0_846, r0_847, r0_848, r0_849, r0_850, r0_851, r0_852, r0_853, r0_854, r0_855, r0_856, r0_857, r0_858, r0_859, r0_860, r0_861, r0_862, r0_865, r0_866, r0_869, nI_addL, e1, e2, e3, e4, e5, if_neg hb]
    rw [r0_870 c1]
    refine q1.on ?_
    simp (disch := assumption) only [Option.toList, List.singleton_append, List.append_nil, List.cons_append, List.nil_append, r0_873, r0_873n, r0_874, r0_875, r0_876, r0_877, r0_878, r0_879, r0_880, r0_881, r0_882, r0_883, r0_884, r0_885, r0_886, r0_887, r0_888, r0_889, r0_890, r0_891, r0_892, r0_893, r0_894, r0_895, r0_896, r0_897, r0_898, r0_899, r0_902, r0_903, r0_906, nI_addL, e1, e2, e3, e4, e5, if_neg hb]
    rw [r0_907 c2]
    refine q2.on ?_
    simp only [Option.toList, List.singleton_append, List.append_nil, List.cons_append, List.nil_append, r0_910, ↓reduceIte]
    exact hr
theorem lw_c17 {i K : Nat} {H : mH} (hi : i + 6 ≤ sl) (hl : sl ≤ 3072) (hS' : StepI xs sl H 24 262 [some (.ref 0), some (.int (xs (i + 1))), some (.int (xs (i + 2))), some (.int (xs (i + 3))), none] [some (.ref 81), some (.int (xs (i + 1))), some (.int (xs (i + 2))), some (.int (xs (i + 3))), none, none] K) : lwD xs sl i 17 H K := by
  obtain ⟨v, H1, H2, c1, c2, q1, q2, hE⟩ := hS'
  obtain ⟨n, rfl⟩ := q1.int (Or.inl mrt_24)
  obtain ⟨b1, e1⟩ := lw_at (n := 1) hi hl (by decide)
  obtain ⟨b2, e2⟩ := lw_at (n := 2) hi hl (by decide)
  obtain ⟨b3, e3⟩ := lw_at (n := 3) hi hl (by decide)
  refine ⟨H2, hE, fun r hr => ?_⟩
  refine r0_33_c17.mpr ?_
  simp (disch := assumption) only [r0_915, r0_915n, r0_916, r0_917, r0_918, r0_919, r0_920, r0_921, r0_922, r0_923, r0_924, r0_925, r0_926, r0_927, r0_928, r0_929, r0_930, nI_addL, e1, e2, e3]
  rw [r0_931 c1]
  refine q1.on ?_
  simp (disch := assumption) only [Option.toList, List.singleton_append, List.append_nil, List.cons_append, List.nil_append, r0_934, r0_934n, r0_935, r0_936, r0_937, r0_938, r0_939, r0_940, r0_941, r0_942, r0_943, r0_944, r0_945, r0_946, r0_947, r0_948, r0_949, nI_addL, e1, e2, e3]
  rw [r0_950 c2]
  refine q2.on ?_
  simp only [Option.toList, List.singleton_append, List.append_nil, List.cons_append, List.nil_append, r0_953, ↓reduceIte]
  exact hr
theorem lw_c18 {i K : Nat} {H : mH} (hi : i + 6 ≤ sl) (hl : sl ≤ 3072) (hS' : StepI xs sl H 25 264 [some (.ref 0), some (.int (xs (i + 1))), some (.int (xs (i + 2))), some (.int (xs (i + 3))), none] [some (.ref 81), some (.int (xs (i + 1))), some (.int (xs (i + 2))), some (.int (xs (i + 3)))] K) : lwD xs sl i 18 H K := by
  obtain ⟨v, H1, H2, c1, c2, q1, q2, hE⟩ := hS'
  obtain ⟨n, rfl⟩ := q1.int (Or.inl mrt_25)
  obtain ⟨b1, e1⟩ := lw_at (n := 1) hi hl (by decide)
  obtain ⟨b2, e2⟩ := lw_at (n := 2) hi hl (by decide)
  obtain ⟨b3, e3⟩ := lw_at (n := 3) hi hl (by decide)
  refine ⟨H2, hE, fun r hr => ?_⟩
  refine r0_33_c18.mpr ?_
  simp (disch := assumption) only [r0_958, r0_958n, r0_959, r0_960, r0_961, r0_962, r0_963, r0_964, r0_965, r0_966, r0_967, r0_968, r0_969, r0_970, r0_971, r0_972, r0_973, nI_addL, e1, e2, e3]
  rw [r0_974 c1]
  refine q1.on ?_
  simp (disch := assumption) only [Option.toList, List.singleton_append, List.append_nil, List.cons_append, List.nil_append, r0_977, r0_977n, r0_978, r0_979, r0_980, r0_981, r0_982, r0_983, r0_984, r0_985, r0_986, r0_987, r0_988, r0_989, r0_990, r0_991, r0_992, nI_addL, e1, e2, e3]
  rw [r0_993 c2]
  refine q2.on ?_
  simp only [Option.toList, List.singleton_append, List.append_nil, List.cons_append, List.nil_append, r0_996, ↓reduceIte]
  exact hr
theorem lw_c19 {i K : Nat} {H : mH} (hi : i + 6 ≤ sl) (hl : sl ≤ 3072) (hS' : StepI xs sl H 27 265 [some (.ref 0), some (.int (xs (i + 1))), some (.int (xs (i + 2))), none, none, none] [some (.ref 81), some (.int (xs (i + 1))), some (.int (xs (i + 2))), none, none, none] K) : lwD xs sl i 19 H K := by
  obtain ⟨v, H1, H2, c1, c2, q1, q2, hE⟩ := hS'
  obtain ⟨n, rfl⟩ := q1.lng mrt_27
  obtain ⟨b1, e1⟩ := lw_at (n := 1) hi hl (by decide)
  obtain ⟨b2, e2⟩ := lw_at (n := 2) hi hl (by decide)
  refine ⟨H2, hE, fun r hr => ?_⟩
  refine r0_33_c19.mpr ?_
  simp (disch := assumption) only [r0_1001, r0_1001n, r0_1002, r0_1003, r0_1004, r0_1005, r0_1006, r0_1007, r0_1008, r0_1009, r0_1010, r0_1011, nI_addL, e1, e2]
  rw [r0_1012 c1]
  refine q1.on ?_
  simp (disch := assumption) only [Option.toList, List.singleton_append, List.append_nil, List.cons_append, List.nil_append, r0_1015, r0_1015n, r0_1016, r0_1017, r0_1018, r0_1019, r0_1020, r0_1021, r0_1022, r0_1023, r0_1024, r0_1025, nI_addL, e1, e2]
  rw [r0_1026 c2]
  refine q2.on ?_
  simp only [Option.toList, List.singleton_append, List.append_nil, List.cons_append, List.nil_append, r0_1029, r0_1030, lg_self, ↓reduceIte]
  exact hr
theorem lw_c20 {i K : Nat} {H : mH} (hi : i + 6 ≤ sl) (hl : sl ≤ 3072) (hS' : StepI xs sl H 28 273 [some (.ref 0), some (.int (xs (i + 1))), some (.int (xs (i + 2))), some (.int (xs (i + 3))), some (.int (lwB (xs (i + 4)))), none, none, none, none, none, none] [some (.ref 81), some (.int (xs (i + 1))), some (.int (xs (i + 2))), some (.int (xs (i + 3))), some (.int (lwB (xs (i + 4)))), none, none, none, none] K) : lwD xs sl i 20 H K := by
  obtain ⟨v, H1, H2, c1, c2, q1, q2, hE⟩ := hS'
  obtain ⟨n, rfl⟩ := q1.lng mrt_28
  obtain ⟨b1, e1⟩ := lw_at (n := 1) hi hl (by decide)
  obtain ⟨b2, e2⟩ := lw_at (n := 2) hi hl (by decide)
  obtain ⟨b3, e3⟩ := lw_at (n := 3) hi hl (by decide)
  obtain ⟨b4, e4⟩ := lw_at (n := 4) hi hl (by decide)
  refine ⟨H2, hE, fun r hr => ?_⟩
  by_cases hb : xs (i + 4) = 0
  · have eB : lwB (xs (i + 4)) = 0 := if_pos hb
    rw [eB] at q1 q2
    refine r0_33_c20.mpr ?_
    simp (disch := assumption) only [r0_1035, r0_1035n, r0_1036, r0_1037, r0_1038, r0_1039, r0_1040, r0_1041, r0_1042, r0_1043, r0_1044, r0_1045, r0_1046, r0_1047, r0_1048, r0_1049, r0_1050, r0_1051, r0_1052, r0_1053, r0_1054, r0_1055, r0_1056, r0_1059, r0_1060, r0_1063, nI_addL, e1, e2, e3, e4, if_pos hb]
    rw [r0_1064 c1]
    refine q1.on ?_
    simp (disch := assumption) only [Option.toList, List.singleton_append, List.append_nil, List.cons_append, List.nil_append, r0_1067, r0_1067n, r0_1068, r0_1069, r0_1070, r0_1071, r0_1072, r0_1073, r0_1074, r0_1075, r0_1076, r0_1077, r0_1078, r0_1079, r0_1080, r0_1081, r0_1082, r0_1083, r0_1084, r0_1085, r0_1086, r0_1087, r0_1088, r0_1091, r0_1092, r0_1095, nI_addL, e1, e2, e3, e4, if_pos hb]
    rw [r0_1096 c2]
    refine q2.on ?_
    simp only [Option.toList, List.singleton_append, List.append_nil, List.cons_append, List.nil_append, r0_1099, r0_1100, lg_self, ↓reduceIte]
    exact hr
  · have eB : lwB (xs (i + 4)) = 1 := if_neg hb
    rw [eB] at q1 q2
    refine r0_33_c20.mpr ?_
    simp (disch := assumption) only [r0_1035, r0_1035n, r0_1036, r0_1037, r0_1038, r0_1039, r0_1040, r0_1041, r0_1042, r0_1043, r0_1044, r0_1045, r0_1046, r0_1047, r0_1048, r0_1049, r0_1050, r0_1051, r0_1052, r0_1053, r0_1054, r0_1055, r0_1056, r0_1059, r0_1060, r0_1063, nI_addL, e1, e2, e3, e4, if_neg hb]
    rw [r0_1064 c1]
    refine q1.on ?_
    simp (disch := assumption) only [Option.toList, List.singleton_append, List.append_nil, List.cons_append, List.nil_append, r0_1067, r0_1067n, r0_1068, r0_1069, r0_1070, r0_1071, r0_1072, r0_1073, r0_1074, r0_1075, r0_1076, r0_1077, r0_1078, r0_1079, r0_1080, r0_1081, r0_1082, r0_1083, r0_1084, r0_1085, r0_1086, r0_1087, r0_1088, r0_1091, r0_1092, r0_1095, nI_addL, e1, e2, e3, e4, if_neg hb]
    rw [r0_1096 c2]
    refine q2.on ?_
    simp only [Option.toList, List.singleton_append, List.append_nil, List.cons_append, List.nil_append, r0_1099, r0_1100, lg_self, ↓reduceIte]
    exact hr
theorem lw_c21 {i K : Nat} {H : mH} (hi : i + 6 ≤ sl) (hl : sl ≤ 3072) (hS' : StepI xs sl H 29 278 [some (.ref 0), some (.int (xs (i + 1))), some (.int (xs (i + 2))), some (.int (xs (i + 3)))] [some (.ref 81), some (.int (xs (i + 1))), some (.int (xs (i + 2))), some (.int (xs (i + 3))), none, none, none, none, none, none] K) : lwD xs sl i 21 H K := by
  obtain ⟨v, H1, H2, c1, c2, q1, q2, hE⟩ := hS'
  obtain ⟨n, rfl⟩ := q1.int (Or.inl mrt_29)
  obtain ⟨b1, e1⟩ := lw_at (n := 1) hi hl (by decide)
  obtain ⟨b2, e2⟩ := lw_at (n := 2) hi hl (by decide)
  obtain ⟨b3, e3⟩ := lw_at (n := 3) hi hl (by decide)
  refine ⟨H2, hE, fun r hr => ?_⟩
  refine r0_33_c21.mpr ?_
  simp (disch := assumption) only [r0_1105, r0_1105n, r0_1106, r0_1107, r0_1108, r0_1109, r0_1110, r0_1111, r0_1112, r0_1113, r0_1114, r0_1115, r0_1116, r0_1117, r0_1118, r0_1119, r0_1120, nI_addL, e1, e2, e3]
  rw [r0_1121 c1]
  refine q1.on ?_
  simp (disch := assumption) only [Option.toList, List.singleton_append, List.append_nil, List.cons_append, List.nil_append, r0_1124, r0_1124n, r0_1125, r0_1126, r0_1127, r0_1128, r0_1129, r0_1130, r0_1131, r0_1132, r0_1133, r0_1134, r0_1135, r0_1136, r0_1137, r0_1138, r0_1139, nI_addL, e1, e2, e3]
  rw [r0_1140 c2]
  refine q2.on ?_
  simp only [Option.toList, List.singleton_append, List.append_nil, List.cons_append, List.nil_append, r0_1143, ↓reduceIte]
  exact hr
theorem lw_c22 {i K : Nat} {H : mH} (hi : i + 6 ≤ sl) (hl : sl ≤ 3072) (hS' : StepI xs sl H 30 279 [some (.ref 0), some (.int (xs (i + 1))), some (.int (xs (i + 2))), some (.int (xs (i + 3))), some (.int (xs (i + 4))), none, none] [some (.ref 81), some (.int (xs (i + 1))), some (.int (xs (i + 2))), some (.int (xs (i + 3))), some (.int (xs (i + 4))), none] K) : lwD xs sl i 22 H K := by
  obtain ⟨v, H1, H2, c1, c2, q1, q2, hE⟩ := hS'
  obtain ⟨n, rfl⟩ := q1.int (Or.inl mrt_30)
  obtain ⟨b1, e1⟩ := lw_at (n := 1) hi hl (by decide)
  obtain ⟨b2, e2⟩ := lw_at (n := 2) hi hl (by decide)
  obtain ⟨b3, e3⟩ := lw_at (n := 3) hi hl (by decide)
  obtain ⟨b4, e4⟩ := lw_at (n := 4) hi hl (by decide)
  refine ⟨H2, hE, fun r hr => ?_⟩
  refine r0_33_c22.mpr ?_
  simp (disch := assumption) only [r0_1148, r0_1148n, r0_1149, r0_1150, r0_1151, r0_1152, r0_1153, r0_1154, r0_1155, r0_1156, r0_1157, r0_1158, r0_1159, r0_1160, r0_1161, r0_1162, r0_1163, r0_1164, r0_1165, r0_1166, r0_1167, r0_1168, nI_addL, e1, e2, e3, e4]
  rw [r0_1169 c1]
  refine q1.on ?_
  simp (disch := assumption) only [Option.toList, List.singleton_append, List.append_nil, List.cons_append, List.nil_append, r0_1172, r0_1172n, r0_1173, r0_1174, r0_1175, r0_1176, r0_1177, r0_1178, r0_1179, r0_1180, r0_1181, r0_1182, r0_1183, r0_1184, r0_1185, r0_1186, r0_1187, r0_1188, r0_1189, r0_1190, r0_1191, r0_1192, nI_addL, e1, e2, e3, e4]
  rw [r0_1193 c2]
  refine q2.on ?_
  simp only [Option.toList, List.singleton_append, List.append_nil, List.cons_append, List.nil_append, r0_1196, ↓reduceIte]
  exact hr
theorem lw_c23 {i K : Nat} {H : mH} (hi : i + 6 ≤ sl) (hl : sl ≤ 3072) (hS' : StepI xs sl H 33 244 [some (.ref 0), some (.int (xs (i + 1))), some (.int (xs (i + 2))), some (.int (xs (i + 3))), none] [some (.ref 81), some (.int (xs (i + 1))), some (.int (xs (i + 2))), some (.int (xs (i + 3)))] K) : lwD xs sl i 23 H K := by
  obtain ⟨v, H1, H2, c1, c2, q1, q2, hE⟩ := hS'
  obtain ⟨n, rfl⟩ := q1.int (Or.inl mrt_33)
  obtain ⟨b1, e1⟩ := lw_at (n := 1) hi hl (by decide)
  obtain ⟨b2, e2⟩ := lw_at (n := 2) hi hl (by decide)
  obtain ⟨b3, e3⟩ := lw_at (n := 3) hi hl (by decide)
  refine ⟨H2, hE, fun r hr => ?_⟩
  refine r0_33_c23.mpr ?_
  simp (disch := assumption) only [r0_1201, r0_1201n, r0_1202, r0_1203, r0_1204, r0_1205, r0_1206, r0_1207, r0_1208, r0_1209, r0_1210, r0_1211, r0_1212, r0_1213, r0_1214, r0_1215, r0_1216, nI_addL, e1, e2, e3]
  rw [r0_1217 c1]
  refine q1.on ?_
  simp (disch := assumption) only [Option.toList, List.singleton_append, List.append_nil, List.cons_append, List.nil_append, r0_1220, r0_1220n, r0_1221, r0_1222, r0_1223, r0_1224, r0_1225, r0_1226, r0_1227, r0_1228, r0_1229, r0_1230, r0_1231, r0_1232, r0_1233, r0_1234, r0_1235, nI_addL, e1, e2, e3]
  rw [r0_1236 c2]
  refine q2.on ?_
  simp only [Option.toList, List.singleton_append, List.append_nil, List.cons_append, List.nil_append, r0_1239, ↓reduceIte]
  exact hr
theorem lw_c24 {i K : Nat} {H : mH} (hi : i + 6 ≤ sl) (hl : sl ≤ 3072) (hS' : StepI xs sl H 34 247 [some (.ref 0), some (.int (xs (i + 1))), some (.int (xs (i + 2))), some (.int (xs (i + 3))), none] [some (.ref 81), some (.int (xs (i + 1))), some (.int (xs (i + 2))), some (.int (xs (i + 3))), none, none, none] K) : lwD xs sl i 24 H K := by
  obtain ⟨v, H1, H2, c1, c2, q1, q2, hE⟩ := hS'
  obtain ⟨n, rfl⟩ := q1.int (Or.inl mrt_34)
  obtain ⟨b1, e1⟩ := lw_at (n := 1) hi hl (by decide)
  obtain ⟨b2, e2⟩ := lw_at (n := 2) hi hl (by decide)
  obtain ⟨b3, e3⟩ := lw_at (n := 3) hi hl (by decide)
  refine ⟨H2, hE, fun r hr => ?_⟩
  refine r0_33_c24.mpr ?_
  simp (disch := assumption) only [r0_1244, r0_1244n, r0_1245, r0_1246, r0_1247, r0_1248, r0_1249, r0_1250, r0_1251, r0_1252, r0_1253, r0_1254, r0_1255, r0_1256, r0_1257, r0_1258, r0_1259, nI_addL, e1, e2, e3]
  rw [r0_1260 c1]
  refine q1.on ?_
  simp (disch := assumption) only [Option.toList, List.singleton_append, List.append_nil, List.cons_append, List.nil_append, r0_1263, r0_1263n, r0_1264, r0_1265, r0_1266, r0_1267, r0_1268, r0_1269, r0_1270, r0_1271, r0_1272, r0_1273, r0_1274, r0_1275, r0_1276, r0_1277, r0_1278, nI_addL, e1, e2, e3]
  rw [r0_1279 c2]
  refine q2.on ?_
  simp only [Option.toList, List.singleton_append, List.append_nil, List.cons_append, List.nil_append, r0_1282, ↓reduceIte]
  exact hr
theorem lw_c25 {i K : Nat} {H : mH} (hi : i + 6 ≤ sl) (hl : sl ≤ 3072) (hS' : StepI xs sl H 35 249 [some (.ref 0), some (.int (xs (i + 1))), some (.int (xs (i + 2))), none] [some (.ref 81), some (.int (xs (i + 1))), some (.int (xs (i + 2))), none, none, none] K) : lwD xs sl i 25 H K := by
  obtain ⟨v, H1, H2, c1, c2, q1, q2, hE⟩ := hS'
  obtain ⟨n, rfl⟩ := q1.int (Or.inl mrt_35)
  obtain ⟨b1, e1⟩ := lw_at (n := 1) hi hl (by decide)
  obtain ⟨b2, e2⟩ := lw_at (n := 2) hi hl (by decide)
  refine ⟨H2, hE, fun r hr => ?_⟩
  refine r0_33_c25.mpr ?_
  simp (disch := assumption) only [r0_1287, r0_1287n, r0_1288, r0_1289, r0_1290, r0_1291, r0_1292, r0_1293, r0_1294, r0_1295, r0_1296, r0_1297, nI_addL, e1, e2]
  rw [r0_1298 c1]
  refine q1.on ?_
  simp (disch := assumption) only [Option.toList, List.singleton_append, List.append_nil, List.cons_append, List.nil_append, r0_1301, r0_1301n, r0_1302, r0_1303, r0_1304, r0_1305, r0_1306, r0_1307, r0_1308, r0_1309, r0_1310, r0_1311, nI_addL, e1, e2]
  rw [r0_1312 c2]
  refine q2.on ?_
  simp only [Option.toList, List.singleton_append, List.append_nil, List.cons_append, List.nil_append, r0_1315, ↓reduceIte]
  exact hr
theorem lw_c26 {i K : Nat} {H : mH} (hi : i + 6 ≤ sl) (hl : sl ≤ 3072) (hS' : StepI xs sl H 36 242 [some (.ref 0), some (.int (xs (i + 1))), some (.int (xs (i + 2))), some (.int (xs (i + 3))), some (.int (lwB (xs (i + 4)))), none, none] [some (.ref 81), some (.int (xs (i + 1))), some (.int (xs (i + 2))), some (.int (xs (i + 3))), some (.int (lwB (xs (i + 4)))), none, none] K) : lwD xs sl i 26 H K := by
  obtain ⟨v, H1, H2, c1, c2, q1, q2, hE⟩ := hS'
  obtain ⟨n, rfl⟩ := q1.int (Or.inl mrt_36)
  obtain ⟨b1, e1⟩ := lw_at (n := 1) hi hl (by decide)
  obtain ⟨b2, e2⟩ := lw_at (n := 2) hi hl (by decide)
  obtain ⟨b3, e3⟩ := lw_at (n := 3) hi hl (by decide)
  obtain ⟨b4, e4⟩ := lw_at (n := 4) hi hl (by decide)
  refine ⟨H2, hE, fun r hr => ?_⟩
  by_cases hb : xs (i + 4) = 0
  · have eB : lwB (xs (i + 4)) = 0 := if_pos hb
    rw [eB] at q1 q2
    refine r0_33_c26.mpr ?_
    simp (disch := assumption) only [r0_1320, r0_1320n, r0_1321, r0_1322, r0_1323, r0_1324, r0_1325, r0_1326, r0_1327, r0_1328, r0_1329, r0_1330, r0_1331, r0_1332, r0_1333, r0_1334, r0_1335, r0_1336, r0_1337, r0_1338, r0_1339, r0_1340, r0_1341, r0_1344, r0_1345, r0_1348, nI_addL, e1, e2, e3, e4, if_pos hb]
    rw [r0_1349 c1]
    refine q1.on ?_
    simp (disch := assumption) only [Option.toList, List.singleton_append, List.append_nil, List.cons_append, List.nil_append, r0_1352, r0_1352n, r0_1353, r0_1354, r0_1355, r0_1356, r0_1357, r0_1358, r0_1359, r0_1360, r0_1361, r0_1362, r0_1363, r0_1364, r0_1365, r0_1366, r0_1367, r0_1368, r0_1369, r0_1370, r0_1371, r0_1372, r0_1373, r0_1376, r0_1377, r0_1380, nI_addL, e1, e2, e3, e4, if_pos hb]
    rw [r0_1381 c2]
    refine q2.on ?_
    simp only [Option.toList, List.singleton_append, List.append_nil, List.cons_append, List.nil_append, r0_1384, ↓reduceIte]
    exact hr
  · have eB : lwB (xs (i + 4)) = 1 := if_neg hb
    rw [eB] at q1 q2
    refine r0_33_c26.mpr ?_
    simp (disch := assumption) only [r0_1320, r0_1320n, r0_1321, r0_1322, r0_1323, r0_1324, r0_1325, r0_1326, r0_1327, r0_1328, r0_1329, r0_1330, r0_1331, r0_1332, r0_1333, r0_1334, r0_1335, r0_1336, r0_1337, r0_1338, r0_1339, r0_1340, r0_1341, r0_1344, r0_1345, r0_1348, nI_addL, e1, e2, e3, e4, if_neg hb]
    rw [r0_1349 c1]
    refine q1.on ?_
    simp (disch := assumption) only [Option.toList, List.singleton_append, List.append_nil, List.cons_append, List.nil_append, r0_1352, r0_1352n, r0_1353, r0_1354, r0_1355, r0_1356, r0_1357, r0_1358, r0_1359, r0_1360, r0_1361, r0_1362, r0_1363, r0_1364, r0_1365, r0_1366, r0_1367, r0_1368, r0_1369, r0_1370, r0_1371, r0_1372, r0_1373, r0_1376, r0_1377, r0_1380, nI_addL, e1, e2, e3, e4, if_neg hb]
    rw [r0_1381 c2]
    refine q2.on ?_
    simp only [Option.toList, List.singleton_append, List.append_nil, List.cons_append, List.nil_append, r0_1384, ↓reduceIte]
    exact hr
theorem lw_c27 {i K : Nat} {H : mH} (hi : i + 6 ≤ sl) (hl : sl ≤ 3072) (hS' : StepI xs sl H 37 283 [some (.ref 0), some (.int (xs (i + 1)))] [some (.ref 81), some (.int (xs (i + 1)))] K) : lwD xs sl i 27 H K := by
  obtain ⟨v, H1, H2, c1, c2, q1, q2, hE⟩ := hS'
  obtain ⟨n, rfl⟩ := q1.int (Or.inl mrt_37)
  obtain ⟨b1, e1⟩ := lw_at (n := 1) hi hl (by decide)
  refine ⟨H2, hE, fun r hr => ?_⟩
  refine r0_33_c27.mpr ?_
  simp (disch := assumption) only [r0_1389, r0_1389n, r0_1390, r0_1391, r0_1392, r0_1393, r0_1394, nI_addL, e1]
  rw [r0_1395 c1]
  refine q1.on ?_
  simp (disch := assumption) only [Option.toList, List.singleton_append, List.append_nil, List.cons_append, List.nil_append, r0_1398, r0_1398n, r0_1399, r0_1400, r0_1401, r0_1402, r0_1403, nI_addL, e1]
  rw [r0_1404 c2]
  refine q2.on ?_
  simp only [Option.toList, List.singleton_append, List.append_nil, List.cons_append, List.nil_append, r0_1407, ↓reduceIte]
  exact hr
theorem lw_c28 {i K : Nat} {H : mH} (hi : i + 6 ≤ sl) (hl : sl ≤ 3072) (hS' : StepI xs sl H 38 284 [some (.ref 0), some (.int (xs (i + 1))), none] [some (.ref 81), some (.int (xs (i + 1))), none] K) : lwD xs sl i 28 H K := by
  obtain ⟨v, H1, H2, c1, c2, q1, q2, hE⟩ := hS'
  obtain ⟨n, rfl⟩ := q1.int (Or.inr mrt_38)
  obtain ⟨b1, e1⟩ := lw_at (n := 1) hi hl (by decide)
  refine ⟨H2, hE, fun r hr => ?_⟩
  refine r0_33_c28.mpr ?_
  simp (disch := assumption) only [r0_1412, r0_1412n, r0_1413, r0_1414, r0_1415, r0_1416, r0_1417, nI_addL, e1]
  rw [r0_1418 c1]
  refine q1.on ?_
  simp (disch := assumption) only [Option.toList, List.singleton_append, List.append_nil, List.cons_append, List.nil_append, r0_1421, r0_1421n, r0_1422, r0_1423, r0_1424, r0_1425, r0_1426, nI_addL, e1]
  rw [r0_1427 c2]
  refine q2.on ?_
  simp only [Option.toList, List.singleton_append, List.append_nil, List.cons_append, List.nil_append, r0_1430, ↓reduceIte]
  exact hr
theorem lw_c29 {i K : Nat} {H : mH} (hi : i + 6 ≤ sl) (hl : sl ≤ 3072) (hS' : StepI xs sl H 39 285 [some (.ref 0), some (.int (xs (i + 1))), none] [some (.ref 81), some (.int (xs (i + 1))), none] K) : lwD xs sl i 29 H K := by
  obtain ⟨v, H1, H2, c1, c2, q1, q2, hE⟩ := hS'
  obtain ⟨n, rfl⟩ := q1.int (Or.inr mrt_39)
  obtain ⟨b1, e1⟩ := lw_at (n := 1) hi hl (by decide)
  refine ⟨H2, hE, fun r hr => ?_⟩
  refine r0_33_c29.mpr ?_
  simp (disch := assumption) only [r0_1435, r0_1435n, r0_1436, r0_1437, r0_1438, r0_1439, r0_1440, nI_addL, e1]
  rw [r0_1441 c1]
  refine q1.on ?_
  simp (disch := assumption) only [Option.toList, List.singleton_append, List.append_nil, List.cons_append, List.nil_append, r0_1444, r0_1444n, r0_1445, r0_1446, r0_1447, r0_1448, r0_1449, nI_addL, e1]
  rw [r0_1450 c2]
  refine q2.on ?_
  simp only [Option.toList, List.singleton_append, List.append_nil, List.cons_append, List.nil_append, r0_1453, ↓reduceIte]
  exact hr
end LWC
