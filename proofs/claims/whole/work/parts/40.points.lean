/-! points of a fact's normal form -/
theorem nI_sub {a b : Nat} (h : b ≤ a) : nI a - nI b = nI (a - b) := by
  have := nI_add (a - b) b
  rw [Nat.sub_add_cancel h] at this
  rw [← this]
  exact Int32.add_sub_cancel _ _
theorem nI_mul (a b : Nat) : nI a * nI b = nI (a * b) := (Int32.ofNat_mul a b).symm
/-- the mask without its lowest bits -/
def bitD (m : Nat) : Nat → Nat
  | 0 => m
  | k + 1 => bitD (m &&& (m - 1)) k
def bitAt (m i : Nat) : Nat := ntzN (bitD m i)
def midAt (m i : Nat) : Nat := if i = 0 then m / 21 else if i = 1 then pr_lo (m % 21) else pr_hi (m % 21)
def pr_first (f : Nat) : Bool := decide (pr_lo (n_less f) * 7 + pr_hi (n_less f) < pr_lo (n_great f) * 7 + pr_hi (n_great f))
def prsAt (f i : Nat) : Nat := let p := if decide (i < 2) = pr_first f then n_less f else n_great f
  if i % 2 = 0 then pr_lo p else pr_hi p
/-- point i of a fact -/
def pt (f i : Nat) : Nat := if f < 128 then bitAt f i else if f < 758 then prsAt f i else if f < 905 then midAt (f - 758) i else if f < 1033 then bitAt (f - 905) i else midAt (f - 1033) i
def kdN (k : Nat) : Nat := if k = 0 ∨ k = 4 ∨ k = 6 then 3 else 4
theorem kdN_le (k : Nat) : kdN k ≤ 4 := by
  unfold kdN
  split <;> omega
theorem kd_lt (f : Nat) : kd f < 7 := by
  unfold kd
  repeat' split
  all_goals omega
theorem kind_n {f : Nat} (hf : f < 1180) : fa_kindOf (nI f) = nI (kd f) := by
  have h : ∀ a b : Nat, a < 1180 → b < 1180 → (nI a ≤ nI b ↔ a ≤ b) := fun a b ha hb => nI_leI (by omega) (by omega)
  unfold fa_kindOf kd
  have e1 := h 128 f (by omega) hf
  have e2 := h 338 f (by omega) hf
  have e3 := h 548 f (by omega) hf
  have e4 := h 758 f (by omega) hf
  have e5 := h 905 f (by omega) hf
  have e6 := h 1033 f (by omega) hf
  show (if ¬ nI 128 ≤ nI f then 0 else if ¬ nI 338 ≤ nI f then 1 else if ¬ nI 548 ≤ nI f then 2 else if ¬ nI 758 ≤ nI f then 3 else if ¬ nI 905 ≤ nI f then 4 else if ¬ nI 1033 ≤ nI f then 5 else 6) = _
  simp only [e1, e2, e3, e4, e5, e6, Nat.not_le]
  repeat' split
  all_goals first | rfl | omega
theorem pointsOf_n {k : Nat} (hk : k < 7) : fa_pointsOf (nI k) = nI (kdN k) := by
  have t : ∀ k, k < 7 → fa_pointsOf (nI k) = nI (kdN k) := by decide +kernel
  exact t k hk
theorem nk6 : (nI 0 = 6) = False ∧ (nI 1 = 6) = False ∧ (nI 2 = 6) = False ∧ (nI 3 = 6) = False ∧ (nI 4 = 6) = False ∧ (nI 5 = 6) = False := by decide
section PT
variable {z : mm_S} {d : Nat} {I : mm_I} {J : mm_J}
theorem c_bitOf_loop {x : Value} {Q : Option Value → mm_I → mm_J → Prop} : ∀ (w k m : Nat), m < 128 → bitsN 7 m > w → k < 8 → k + w < 8 → Q (some (.int (nI (bitAt m w)))) I J → mm_at z (mm_call z (d + 1)) (mm_code 206) Q 4 [some x, some (.int (nI (k + w))), some (.int (nI m)), some (.int (nI k))] [] I J
  | 0, k, m, hm, _, _, _, q => by
    rw [hk_206_4]
    simp only [ce_206, bk_206, mmE, mmE0, mmH, mT, mR, mRf, mAl, mAs, mAz, mAn, Int.reduceToNat, Int32.reduceOfInt, Int64.reduceOfInt, Int.reduceAdd, swE, Nat.reduceDiv, Nat.reduceMod, Nat.reduceAdd, Nat.reduceMul, Nat.reduceEqDiff, Nat.reduceLeDiff, Nat.zero_le, List.length_nil, List.length_cons, Nat.zero_add, true_or, or_true, false_or, or_false, true_and, and_true, and_self, mb_01, mb_t, mb_f, Nat.add_zero, c_ntz hm]
    have : nI k ≤ nI k := Int32.le_refl _
    simp only [this, not_true_eq_false, false_implies, true_implies, and_true]
    exact q
  | w + 1, k, m, hm, hb, hk, hkw, q => by
    rw [hk_206_4]
    have c1 : (nI (k + (w + 1)) ≤ nI k) = False := by
      rw [le_nI (by omega) (by omega)]
      exact eq_false (by omega)
    have hm0 : 0 < m := Nat.pos_of_ne_zero (fun e => by subst e; revert hb; rw [show bitsN 7 0 = 0 from rfl]; omega)
    simp only [ce_206, bk_206, mmE, mmE0, mmH, mT, mR, mRf, mAl, mAs, mAz, mAn, Int.reduceToNat, Int32.reduceOfInt, Int64.reduceOfInt, Int.reduceAdd, swE, Nat.reduceDiv, Nat.reduceMod, Nat.reduceAdd, Nat.reduceMul, Nat.reduceEqDiff, Nat.reduceLeDiff, Nat.zero_le, List.length_nil, List.length_cons, Nat.zero_add, true_or, or_true, false_or, or_false, true_and, and_true, and_self, mb_01, mb_t, mb_f, c1, false_implies, not_false_eq_true, true_implies, true_and, (bit_dec hm hm0).1]
    have hb2 : bitsN 7 (m &&& (m - 1)) > w := by
      have t : ∀ m, m < 128 → m = 0 ∨ bitsN 7 (m &&& (m - 1)) + 1 = bitsN 7 m := by decide +kernel
      rcases t m hm with e | e
      · omega
      · omega
    have := c_bitOf_loop (x := x) w (k + 1) (m &&& (m - 1)) (bit_dec hm hm0).2 hb2 (by omega) (by omega) q
    rw [show k + 1 + w = k + (w + 1) by omega, nI_succ k] at this
    exact this
theorem c_bitOf {m i : Nat} (hm : m < 128) (hi : i < bitsN 7 m) (hi7 : i < 7) (Q : Option Value → mm_I → mm_J → Prop) : mm_call z (d + 2) 206 [.int (nI m), .int (nI i)] I J Q = Q (some (.int (nI (bitAt m i)))) I J := by
  refine mm_ev ?_ Q
  simp only [ce_206, bk_206, mmE, mmE0, mmH, mT, mR, mRf, mAl, mAs, mAz, mAn, Int.reduceToNat, Int32.reduceOfInt, Int64.reduceOfInt, Int.reduceAdd, swE, Nat.reduceDiv, Nat.reduceMod, Nat.reduceAdd, Nat.reduceMul, Nat.reduceEqDiff, Nat.reduceLeDiff, Nat.zero_le, List.length_nil, List.length_cons, Nat.zero_add, true_or, or_true, false_or, or_false, true_and, and_true, and_self, mb_01, mb_t, mb_f]
  have := c_bitOf_loop (z := z) (d := d) (I := I) (J := J) (x := .int (nI m)) (Q := fun v a b => v = some (.int (nI (bitAt m i))) ∧ a = I ∧ b = J) i 0 m hm hi (by omega) (by omega) ⟨rfl, rfl, rfl⟩
  rw [Nat.zero_add] at this
  exact this
theorem c_midAt {m i : Nat} (hm : m < 147) (hi : i < 3) (Q : Option Value → mm_I → mm_J → Prop) : mm_call z (d + 2) 207 [.int (nI m), .int (nI i)] I J Q = Q (some (.int (nI (midAt m i)))) I J := by
  refine mm_ev ?_ Q
  obtain ⟨e1, e2, e3, e4⟩ := div21 hm
  rw [e1] at e2
  simp only [ce_207, bk_207, mmE, mmE0, mmH, mT, mR, mRf, mAl, mAs, mAz, mAn, Int.reduceToNat, Int32.reduceOfInt, Int64.reduceOfInt, Int.reduceAdd, swE, Nat.reduceDiv, Nat.reduceMod, Nat.reduceAdd, Nat.reduceMul, Nat.reduceEqDiff, Nat.reduceLeDiff, Nat.zero_le, List.length_nil, List.length_cons, Nat.zero_add, true_or, or_true, false_or, or_false, true_and, and_true, and_self, mb_01, mb_t, mb_f, c_low, c_high, e1, e2, n21, (lo_n e4).1, (hi_n e4).1]
  unfold midAt
  rcases (show i = 0 ∨ i = 1 ∨ i = 2 by omega) with rfl | rfl | rfl
  all_goals simp [nkE]
theorem c_prsAt {f i : Nat} (h1 : 128 ≤ f) (h2 : f < 758) (hi : i < 4) (Q : Option Value → mm_I → mm_J → Prop) : mm_call z (d + 2) 210 [.int (nI f), .int (nI i)] I J Q = Q (some (.int (nI (prsAt f i)))) I J := by
  refine mm_ev ?_ Q
  obtain ⟨l1, l2, l3⟩ := less_n h1 h2
  have l4 : n_less f < 21 := by omega
  have a1 : nI (pr_lo (n_less f)) * 7 + nI (pr_hi (n_less f)) = nI (pr_lo (n_less f) * 7 + pr_hi (n_less f)) := by
    have t : ∀ p, p < 21 → nI (pr_lo p) * 7 + nI (pr_hi p) = nI (pr_lo p * 7 + pr_hi p) := by decide +kernel
    exact t _ l4
  have a2 : nI (pr_lo (n_great f)) * 7 + nI (pr_hi (n_great f)) = nI (pr_lo (n_great f) * 7 + pr_hi (n_great f)) := by
    have t : ∀ p, p < 21 → nI (pr_lo p) * 7 + nI (pr_hi p) = nI (pr_lo p * 7 + pr_hi p) := by decide +kernel
    exact t _ l2
  have b1 := (lo_n l4).2
  have b2 := (hi_n l4).2
  have b3 := (lo_n l2).2
  have b4 := (hi_n l2).2
  have c1 : (nI (pr_lo (n_great f) * 7 + pr_hi (n_great f)) ≤ nI (pr_lo (n_less f) * 7 + pr_hi (n_less f))) = ¬ (pr_lo (n_less f) * 7 + pr_hi (n_less f) < pr_lo (n_great f) * 7 + pr_hi (n_great f)) := by
    rw [le_nI (by omega) (by omega)]
    exact propext ⟨fun h => by omega, fun h => by omega⟩
  have n2 : (¬ (2 : Int32) = 0) = True := eq_true (by decide)
  have z1 : ((0 : Int32) = 1) = False := eq_false (by decide)
  have z2 : ((1 : Int32) = 0) = False := eq_false (by decide)
  simp only [ce_210, bk_210, mmE, mmE0, mmH, mT, mR, mRf, mAl, mAs, mAz, mAn, Int.reduceToNat, Int32.reduceOfInt, Int64.reduceOfInt, Int.reduceAdd, swE, Nat.reduceDiv, Nat.reduceMod, Nat.reduceAdd, Nat.reduceMul, Nat.reduceEqDiff, Nat.reduceLeDiff, Nat.zero_le, List.length_nil, List.length_cons, Nat.zero_add, true_or, or_true, false_or, or_false, true_and, and_true, and_self, mb_01, mb_t, mb_f, c_greatPair h1 h2, c_lessPair, l1, c_low, c_high, (lo_n l4).1, (hi_n l4).1, (lo_n l2).1, (hi_n l2).1, a1, a2, c1, n2, z1, z2]
  unfold prsAt pr_first
  have d0 : (2 : Int32) ≤ nI 0 ↔ False := by decide
  have d1 : (2 : Int32) ≤ nI 1 ↔ False := by decide
  have d2 : (2 : Int32) ≤ nI 2 ↔ True := by decide
  have d3 : (2 : Int32) ≤ nI 3 ↔ True := by decide
  have m0 : nI 0 - nI 0 / 2 * 2 = 0 := by decide
  have m1 : nI 1 - nI 1 / 2 * 2 = 1 := by decide
  have m2 : nI 2 - nI 2 / 2 * 2 = 0 := by decide
  have m3 : nI 3 - nI 3 / 2 * 2 = 1 := by decide
  by_cases hl : pr_lo (n_less f) * 7 + pr_hi (n_less f) < pr_lo (n_great f) * 7 + pr_hi (n_great f)
  all_goals
    rcases (show i = 0 ∨ i = 1 ∨ i = 2 ∨ i = 3 by omega) with rfl | rfl | rfl | rfl
    all_goals simp [hl, d0, d1, d2, d3, m0, m1, m2, m3]
/-- pointOf, of a fact, in the range of its kind -/
theorem c_pt {f i : Nat} (hf : isF f = true) (hi : i < kdN (kd f)) (Q : Option Value → mm_I → mm_J → Prop) : mm_call z (d + 3) 205 [.int (nI f), .int (nI i)] I J Q = Q (some (.int (nI (pt f i)))) I J := by
  refine mm_ev ?_ Q
  have hlt := isF_lt hf
  have hk := kd_lt f
  have h4 : kdN (kd f) ≤ 4 := by unfold kdN; split <;> omega
  have c0 : (nI i < 0) = False := nneg (by omega)
  have c1 : (nI i < nI (kdN (kd f))) = True := by rw [lt_nI (by omega) (by omega)]; exact eq_true hi
  simp only [ce_205, bk_205, mmE, mmE0, mmH, mT, mR, mRf, mAl, mAs, mAz, mAn, Int.reduceToNat, Int32.reduceOfInt, Int64.reduceOfInt, Int.reduceAdd, swE, Nat.reduceDiv, Nat.reduceMod, Nat.reduceAdd, Nat.reduceMul, Nat.reduceEqDiff, Nat.reduceLeDiff, Nat.zero_le, List.length_nil, List.length_cons, Nat.zero_add, true_or, or_true, false_or, or_false, true_and, and_true, and_self, mb_01, mb_t, mb_f, c_kindOf, c_pointsOf, kind_n hlt, pointsOf_n hk, c0, c1, not_true_eq_false, not_false_eq_true, true_implies, false_implies]
  have sub : ∀ b : Nat, b ≤ f → nI f - nI b = nI (f - b) := fun b hb => nI_sub hb
  unfold isF at hf
  unfold pt
  unfold kd at hi ⊢
  by_cases q1 : f < 128
  · rw [if_pos q1] at hf hi ⊢
    rw [if_pos q1]
    have hb : bitsN 7 f = 3 := by simpa using hf
    have e : nI f - 0 = nI f := by rw [show (0 : Int32) = nI 0 from rfl, sub 0 (by omega)]; rfl
    have hi3 : i < 3 := hi
    simp only [e, c_bitOf q1 (show i < bitsN 7 f by omega) (by omega), nkE, true_implies, not_true_eq_false, false_implies, and_true, and_self, mmE, mmE0, mmH, mT, mR, mRf, mAl, mAs, mAz, mAn, Int.reduceToNat, Int32.reduceOfInt, Int64.reduceOfInt, Int.reduceAdd, swE, Nat.reduceDiv, Nat.reduceMod, Nat.reduceAdd, Nat.reduceMul, Nat.reduceEqDiff, Nat.reduceLeDiff, Nat.zero_le, List.length_nil, List.length_cons, Nat.zero_add, true_or, or_true, false_or, or_false, true_and, and_true, and_self, mb_01, mb_t, mb_f]
  rw [if_neg q1] at hf hi ⊢
  rw [if_neg q1]
  by_cases q2 : f < 758
  · rw [if_pos q2]
    have hi4 : i < 4 := by
      have := kdN_le (if f < 338 then 1 else if f < 548 then 2 else if f < 758 then 3 else if f < 905 then 4 else if f < 1033 then 5 else 6)
      omega
    have hP := c_prsAt (z := z) (d := d) (I := I) (J := J) (show 128 ≤ f by omega) q2 hi4
    by_cases q4 : f < 338
    · rw [if_pos q4]
      simp only [nkE, nk6, hP, if_pos q2, true_implies, not_true_eq_false, not_false_eq_true, false_implies, and_true, true_and, and_self, mmE, mmE0, mmH, mT, mR, mRf, mAl, mAs, mAz, mAn, Int.reduceToNat, Int32.reduceOfInt, Int64.reduceOfInt, Int.reduceAdd, swE, Nat.reduceDiv, Nat.reduceMod, Nat.reduceAdd, Nat.reduceMul, Nat.reduceEqDiff, Nat.reduceLeDiff, Nat.zero_le, List.length_nil, List.length_cons, Nat.zero_add, true_or, or_true, false_or, or_false, true_and, and_true, and_self, mb_01, mb_t, mb_f]
    rw [if_neg q4]
    by_cases q5 : f < 548
    · rw [if_pos q5]
      simp only [nkE, nk6, hP, if_pos q2, true_implies, not_true_eq_false, not_false_eq_true, false_implies, and_true, true_and, and_self, mmE, mmE0, mmH, mT, mR, mRf, mAl, mAs, mAz, mAn, Int.reduceToNat, Int32.reduceOfInt, Int64.reduceOfInt, Int.reduceAdd, swE, Nat.reduceDiv, Nat.reduceMod, Nat.reduceAdd, Nat.reduceMul, Nat.reduceEqDiff, Nat.reduceLeDiff, Nat.zero_le, List.length_nil, List.length_cons, Nat.zero_add, true_or, or_true, false_or, or_false, true_and, and_true, and_self, mb_01, mb_t, mb_f]
    rw [if_neg q5, if_pos q2]
    simp only [nkE, nk6, hP, if_pos q2, true_implies, not_true_eq_false, not_false_eq_true, false_implies, and_true, true_and, and_self, mmE, mmE0, mmH, mT, mR, mRf, mAl, mAs, mAz, mAn, Int.reduceToNat, Int32.reduceOfInt, Int64.reduceOfInt, Int.reduceAdd, swE, Nat.reduceDiv, Nat.reduceMod, Nat.reduceAdd, Nat.reduceMul, Nat.reduceEqDiff, Nat.reduceLeDiff, Nat.zero_le, List.length_nil, List.length_cons, Nat.zero_add, true_or, or_true, false_or, or_false, true_and, and_true, and_self, mb_01, mb_t, mb_f]
  rw [if_neg q2] at hf ⊢
  rw [if_neg (show ¬ f < 338 by omega), if_neg (show ¬ f < 548 by omega), if_neg q2] at hi ⊢
  by_cases q6 : f < 905
  · rw [if_pos q6] at hi ⊢
    rw [if_pos q6]
    have e : nI f - 758 = nI (f - 758) := sub 758 (by omega)
    have hi3 : i < 3 := hi
    simp only [nkE, nk6, e, c_midAt (show f - 758 < 147 by omega) hi3, true_implies, not_true_eq_false, not_false_eq_true, false_implies, and_true, true_and, and_self, mmE, mmE0, mmH, mT, mR, mRf, mAl, mAs, mAz, mAn, Int.reduceToNat, Int32.reduceOfInt, Int64.reduceOfInt, Int.reduceAdd, swE, Nat.reduceDiv, Nat.reduceMod, Nat.reduceAdd, Nat.reduceMul, Nat.reduceEqDiff, Nat.reduceLeDiff, Nat.zero_le, List.length_nil, List.length_cons, Nat.zero_add, true_or, or_true, false_or, or_false, true_and, and_true, and_self, mb_01, mb_t, mb_f]
  rw [if_neg q6] at hf hi ⊢
  rw [if_neg q6]
  by_cases q7 : f < 1033
  · rw [if_pos q7] at hf hi ⊢
    rw [if_pos q7]
    have e : nI f - 905 = nI (f - 905) := sub 905 (by omega)
    have hb : bitsN 7 (f - 905) = 4 := by simpa using hf
    have hi4 : i < 4 := hi
    simp only [nkE, nk6, e, c_bitOf (show f - 905 < 128 by omega) (show i < bitsN 7 (f - 905) by omega) (by omega), true_implies, not_true_eq_false, not_false_eq_true, false_implies, and_true, true_and, and_self, mmE, mmE0, mmH, mT, mR, mRf, mAl, mAs, mAz, mAn, Int.reduceToNat, Int32.reduceOfInt, Int64.reduceOfInt, Int.reduceAdd, swE, Nat.reduceDiv, Nat.reduceMod, Nat.reduceAdd, Nat.reduceMul, Nat.reduceEqDiff, Nat.reduceLeDiff, Nat.zero_le, List.length_nil, List.length_cons, Nat.zero_add, true_or, or_true, false_or, or_false, true_and, and_true, and_self, mb_01, mb_t, mb_f]
  rw [if_neg q7] at hi ⊢
  rw [if_neg q7]
  have e : nI f - 1033 = nI (f - 1033) := sub 1033 (by omega)
  have hi3 : i < 3 := hi
  have k6 : (nI 6 = 0) = False ∧ (nI 6 = 1) = False ∧ (nI 6 = 2) = False ∧ (nI 6 = 3) = False ∧ (nI 6 = 4) = False ∧ (nI 6 = 5) = False ∧ (nI 6 = 6) = True := by decide
  simp only [k6, e, c_midAt (show f - 1033 < 147 by omega) hi3, true_implies, not_true_eq_false, not_false_eq_true, false_implies, and_true, true_and, and_self, mmE, mmE0, mmH, mT, mR, mRf, mAl, mAs, mAz, mAn, Int.reduceToNat, Int32.reduceOfInt, Int64.reduceOfInt, Int.reduceAdd, swE, Nat.reduceDiv, Nat.reduceMod, Nat.reduceAdd, Nat.reduceMul, Nat.reduceEqDiff, Nat.reduceLeDiff, Nat.zero_le, List.length_nil, List.length_cons, Nat.zero_add, true_or, or_true, false_or, or_false, true_and, and_true, and_self, mb_01, mb_t, mb_f]
/-- pointOf beyond a fact's points -/
theorem c_pt_no {f i : Nat} (hf : isF f = true) (hi : kdN (kd f) ≤ i) (hi2 : i < 2 ^ 31) (Q : Option Value → mm_I → mm_J → Prop) : mm_call z (d + 3) 205 [.int (nI f), .int (nI i)] I J Q = Q (some (.int (-5))) I J := by
  refine mm_ev ?_ Q
  have hlt := isF_lt hf
  have hk := kd_lt f
  have h4 : kdN (kd f) ≤ 4 := by unfold kdN; split <;> omega
  have c0 : (nI i < 0) = False := nneg (by omega)
  have c1 : (nI i < nI (kdN (kd f))) = False := by rw [lt_nI (by omega) (by omega)]; exact eq_false (by omega)
  simp only [ce_205, bk_205, mmE, mmE0, mmH, mT, mR, mRf, mAl, mAs, mAz, mAn, Int.reduceToNat, Int32.reduceOfInt, Int64.reduceOfInt, Int.reduceAdd, swE, Nat.reduceDiv, Nat.reduceMod, Nat.reduceAdd, Nat.reduceMul, Nat.reduceEqDiff, Nat.reduceLeDiff, Nat.zero_le, List.length_nil, List.length_cons, Nat.zero_add, true_or, or_true, false_or, or_false, true_and, and_true, and_self, mb_01, mb_t, mb_f, c_kindOf, c_pointsOf, kind_n hlt, pointsOf_n hk, c0, c1, not_true_eq_false, not_false_eq_true, true_implies, false_implies]
end PT
/-! normal form -/
def ex2 (a b : Nat) : Nat × Nat := if b < a then (b, a) else (a, b)
/-- the normal form, by exchanging points -/
def nf3 (a b c : Nat) : Nat × Nat × Nat := let p := ex2 a b; let q := ex2 p.2 c; let r := ex2 p.1 q.1; (r.1, r.2, q.2)
def nf4 (a b c d : Nat) : Nat × Nat × Nat × Nat := let p := nf3 a b c; let q := ex2 p.2.2 d; let r := ex2 p.2.1 q.1; let s := ex2 p.1 r.1; (s.1, s.2, r.2, q.2)
def nfP (a b c d : Nat) : Nat × Nat × Nat × Nat := let p := ex2 a b; let q := ex2 c d; if p.1 * 7 + p.2 < q.1 * 7 + q.2 then (p.1, p.2, q.1, q.2) else (q.1, q.2, p.1, p.2)
def nf (k a b c d : Nat) : Nat × Nat × Nat × Nat := if k = 0 then (let t := nf3 a b c; (t.1, t.2.1, t.2.2, 0)) else if k = 5 then nf4 a b c d else if k = 4 ∨ k = 6 then (let p := ex2 b c; (a, p.1, p.2, 0)) else nfP a b c d
def nf_ok (k a b c d : Nat) : Bool := (n_number k a b c d).all fun f => let t := nf k a b c d
  pt f 0 == t.1 && pt f 1 == t.2.1 && pt f 2 == t.2.2.1 && (kdN k == 3 || pt f 3 == t.2.2.2)
theorem nf_pt {k a b c d f : Nat} (hk : k < 7) (ha : a < 7) (hb : b < 7) (hc : c < 7) (hd : d < 7) (h : n_number k a b c d = some f) : pt f 0 = (nf k a b c d).1 ∧ pt f 1 = (nf k a b c d).2.1 ∧ pt f 2 = (nf k a b c d).2.2.1 ∧ (kdN k = 3 ∨ pt f 3 = (nf k a b c d).2.2.2) := by
  have t : ∀ k, k < 7 → ∀ a, a < 7 → ∀ b, b < 7 → ∀ c, c < 7 → ∀ d, d < 7 → nf_ok k a b c d = true := by decide +kernel
  have t1 := t k hk a ha b hb c hc d hd
  unfold nf_ok at t1
  rw [h] at t1
  simp only [Option.all_some, Bool.and_eq_true, beq_iff_eq, Bool.or_eq_true] at t1
  exact ⟨t1.1.1.1, t1.1.1.2, t1.1.2, t1.2⟩
theorem pt7 {f i : Nat} (hf : isF f = true) (hi : i < kdN (kd f)) : pt f i < 7 := by
  have t : ∀ f, f < 1180 → isF f = false ∨ ((List.range (kdN (kd f))).all fun i => decide (pt f i < 7)) = true := by decide +kernel
  rcases t f (isF_lt hf) with e | e
  · rw [hf] at e; cases e
  · simpa using List.all_eq_true.mp e i (List.mem_range.mpr hi)
/-- a fact is that of its points -/
theorem pt_num {f : Nat} (hf : isF f = true) : n_number (kd f) (pt f 0) (pt f 1) (pt f 2) (if kdN (kd f) = 3 then 0 else pt f 3) = some f := by
  have t : ∀ f, f < 1180 → isF f = false ∨ n_number (kd f) (pt f 0) (pt f 1) (pt f 2) (if kdN (kd f) = 3 then 0 else pt f 3) = some f := by decide +kernel
  rcases t f (isF_lt hf) with e | e
  · rw [hf] at e; cases e
  · exact e
