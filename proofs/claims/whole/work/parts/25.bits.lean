/-! the great pair and the less pair of a fact of two pairs; bits of small masks -/
def gpN (c : Nat) : Nat → Nat → Nat
  | 0, k => k
  | n + 1, k => if k < 20 ∧ k * (k + 1) / 2 ≤ c then gpN c n (k + 1) else k
def n_great (f : Nat) : Nat := gpN ((f - 128) % 210) 20 1
def n_less (f : Nat) : Nat := (f - 128) % 210 - n_great f * (n_great f - 1) / 2
def ntzN (m : Nat) : Nat := if m % 2 = 1 then 0 else if m % 4 = 2 then 1 else if m % 8 = 4 then 2 else if m % 16 = 8 then 3 else if m % 32 = 16 then 4 else if m % 64 = 32 then 5 else if m % 128 = 64 then 6 else 32
def fa_ntz (y : Int32) : Int32 := if 0 < y then (if y ≤ 16 then (if y ≤ 4 then 1 + (y.toUInt32 >>> (Int32.toUInt32 1 &&& Int32.toUInt32 31)).toInt32 else 1 + 2 + ((y.toUInt32 >>> (Int32.toUInt32 2 &&& Int32.toUInt32 31)).toInt32.toUInt32 >>> (Int32.toUInt32 1 &&& Int32.toUInt32 31)).toInt32) else (if (y.toUInt32 >>> (Int32.toUInt32 4 &&& Int32.toUInt32 31)).toInt32 ≤ 4 then 1 + 4 + ((y.toUInt32 >>> (Int32.toUInt32 4 &&& Int32.toUInt32 31)).toInt32.toUInt32 >>> (Int32.toUInt32 1 &&& Int32.toUInt32 31)).toInt32 else 1 + 4 + 2 + (((y.toUInt32 >>> (Int32.toUInt32 4 &&& Int32.toUInt32 31)).toInt32.toUInt32 >>> (Int32.toUInt32 2 &&& Int32.toUInt32 31)).toInt32.toUInt32 >>> (Int32.toUInt32 1 &&& Int32.toUInt32 31)).toInt32)) else y &&& 32
section BT
variable {z : mm_S} {d : Nat} {I : mm_I} {J : mm_J} {Q : Option Value → mm_I → mm_J → Prop}
theorem w_great_loop {c : Nat} {x : Value} (hc : c < 210) : ∀ (m k : Nat), k + m = 21 → 1 ≤ k → Q (some (.int (nI (gpN c m k)))) I J → mm_at z (mm_call z d) (mm_code 211) Q 12 [some x, some (.int (nI c)), some (.int (nI k))] [] I J := by
  intro m
  induction m with
  | zero =>
    intro k hk h1 h
    have e1 : ((20 : Int32) ≤ nI k) = True := eq_true (nI_le (a := 20) (by omega) (by omega))
    rw [hk_211_12]
    simp only [bk_211, e1, true_implies, not_true_eq_false, false_implies, mmE, mmE0, mmH, mT, mR, mRf, mAl, mAs, mAz, mAn, Int.reduceToNat, Int32.reduceOfInt, Int64.reduceOfInt, Int.reduceAdd, swE, Nat.reduceDiv, Nat.reduceMod, Nat.reduceAdd, Nat.reduceMul, Nat.reduceEqDiff, Nat.reduceLeDiff, Nat.zero_le, List.length_nil, List.length_cons, Nat.zero_add, true_or, or_true, false_or, or_false, true_and, and_true, and_self, mb_01, mb_t, mb_f]
    exact h
  | succ m ih =>
    intro k hk h1 h
    have hk20 : k ≤ 20 := by omega
    have e1 : ((20 : Int32) ≤ nI k) = (20 ≤ k) := le_nI (a := 20) (by decide) (by omega)
    have e0 : nI k * (nI k + 1) / 2 = nI (k * (k + 1) / 2) := by
      have t : ∀ k, k ≤ 20 → nI k * (nI k + 1) / 2 = nI (k * (k + 1) / 2) := by decide +kernel
      exact t k hk20
    have hb : k * (k + 1) / 2 ≤ 210 := by
      have t : ∀ k, k ≤ 20 → k * (k + 1) / 2 ≤ 210 := by decide +kernel
      exact t k hk20
    have e2 : (nI c < nI (k * (k + 1) / 2)) = (c < k * (k + 1) / 2) := lt_nI (by omega) (by omega)
    have e3 : nI k + 1 = nI (k + 1) := (nI_succ k).symm
    have ih' := ih (k + 1) (by omega) (by omega)
    rw [← e3] at ih'
    rw [hk_211_12]
    simp only [bk_211, e1, e0, e2, true_implies, not_true_eq_false, false_implies, not_false_eq_true, mmE, mmE0, mmH, mT, mR, mRf, mAl, mAs, mAz, mAn, Int.reduceToNat, Int32.reduceOfInt, Int64.reduceOfInt, Int.reduceAdd, swE, Nat.reduceDiv, Nat.reduceMod, Nat.reduceAdd, Nat.reduceMul, Nat.reduceEqDiff, Nat.reduceLeDiff, Nat.zero_le, List.length_nil, List.length_cons, Nat.zero_add, true_or, or_true, false_or, or_false, true_and, and_true, and_self, mb_01, mb_t, mb_f]
    have h20 : ¬ (2 : Int32) = 0 := by decide
    unfold gpN at h
    refine ⟨fun q => ?_, fun q => ?_⟩
    · rw [if_neg (by omega)] at h
      exact h
    · refine ⟨h20, fun q2 => ?_, fun q2 => ?_⟩
      · rw [if_neg (by omega)] at h
        exact h
      · rw [if_pos ⟨by omega, by omega⟩] at h
        exact ih' h
theorem c_greatPair {f : Nat} (h1 : 128 ≤ f) (h2 : f < 758) (Q : Option Value → mm_I → mm_J → Prop) : mm_call z (d + 1) 211 [.int (nI f)] I J Q = Q (some (.int (nI (n_great f)))) I J := by
  refine mm_ev ?_ Q
  have e1 : nI f - 128 = nI (f - 128) := pk_sub (b := 128) h1
  have e2 : nI (f - 128) - nI (f - 128) / 210 * 210 = nI ((f - 128) % 210) := pk_rem (d := 210) (by omega) (by decide) (by decide)
  have h210 : ¬ (210 : Int32) = 0 := by decide
  simp only [ce_211, bk_211, e1, e2, mmE, mmE0, mmH, mT, mR, mRf, mAl, mAs, mAz, mAn, Int.reduceToNat, Int32.reduceOfInt, Int64.reduceOfInt, Int.reduceAdd, swE, Nat.reduceDiv, Nat.reduceMod, Nat.reduceAdd, Nat.reduceMul, Nat.reduceEqDiff, Nat.reduceLeDiff, Nat.zero_le, List.length_nil, List.length_cons, Nat.zero_add, true_or, or_true, false_or, or_false, true_and, and_true, and_self, mb_01, mb_t, mb_f]
  exact ⟨h210, w_great_loop (Nat.mod_lt _ (by decide)) 20 1 (by decide) (by decide) ⟨rfl, rfl, rfl⟩⟩
theorem less_n {f : Nat} (h1 : 128 ≤ f) (h2 : f < 758) : fa_lessPair (nI f) (nI (n_great f)) = nI (n_less f) ∧ n_great f < 21 ∧ n_less f < n_great f := by
  have t : ∀ f, f < 630 → fa_lessPair (nI (128 + f)) (nI (n_great (128 + f))) = nI (n_less (128 + f)) ∧ n_great (128 + f) < 21 ∧ n_less (128 + f) < n_great (128 + f) := by decide +kernel
  have := t (f - 128) (by omega)
  rw [show 128 + (f - 128) = f by omega] at this
  exact this
theorem c_ntz {m : Nat} (hm : m < 128) (Q : Option Value → mm_I → mm_J → Prop) : mm_call z (d + 1) 219 [.int (nI m)] I J Q = Q (some (.int (nI (ntzN m)))) I J := by
  refine mm_ev ?_ Q
  have t : ∀ m, m < 128 → (nI m ^^^ -1) &&& (nI m - 1) = if m = 0 then -1 else nI (2 ^ ntzN m - 1) := by decide +kernel
  have e1 := t m hm
  by_cases h0 : m = 0
  · subst h0
    rw [if_pos rfl] at e1
    have e2 : ((0 : Int32) < -1) = False := eq_false (by decide)
    simp only [ce_219, bk_219, e1, e2, false_implies, not_false_eq_true, true_implies, mmE, mmE0, mmH, mT, mR, mRf, mAl, mAs, mAz, mAn, Int.reduceToNat, Int32.reduceOfInt, Int64.reduceOfInt, Int.reduceAdd, swE, Nat.reduceDiv, Nat.reduceMod, Nat.reduceAdd, Nat.reduceMul, Nat.reduceEqDiff, Nat.reduceLeDiff, Nat.zero_le, List.length_nil, List.length_cons, Nat.zero_add, true_or, or_true, false_or, or_false, true_and, and_true, and_self, mb_01, mb_t, mb_f]
    decide +kernel
  · rw [if_neg h0] at e1
    have hk : ∀ m, m < 128 → m ≠ 0 → 2 ^ ntzN m - 1 < 64 ∧ fa_ntz (nI (2 ^ ntzN m - 1)) = nI (ntzN m) := by decide +kernel
    obtain ⟨k1, k2⟩ := hk m hm h0
    rw [← k2]
    generalize 2 ^ ntzN m - 1 = k at e1 k1 ⊢
    have e2 : (nI k ≤ 65536) = True := eq_true (nI_le (b := 65536) (by omega) (by decide))
    have e3 : (nI k ≤ 256) = True := eq_true (nI_le (b := 256) (by omega) (by decide))
    simp only [ce_219, bk_219, e1, e2, e3, not_true_eq_false, false_implies, true_implies, mmE, mmE0, mmH, mT, mR, mRf, mAl, mAs, mAz, mAn, Int.reduceToNat, Int32.reduceOfInt, Int64.reduceOfInt, Int.reduceAdd, swE, Nat.reduceDiv, Nat.reduceMod, Nat.reduceAdd, Nat.reduceMul, Nat.reduceEqDiff, Nat.reduceLeDiff, Nat.zero_le, List.length_nil, List.length_cons, Nat.zero_add, true_or, or_true, false_or, or_false, true_and, and_true, and_self, mb_01, mb_t, mb_f]
    generalize nI k = y
    clear e1 e2 e3 k2
    grind [fa_ntz]
theorem c_bitCount {m : Nat} (hm : m < 128) (Q : Option Value → mm_I → mm_J → Prop) : mm_call z (d + 1) 220 [.int (nI m)] I J Q = Q (some (.int (nI (bitsN 7 m)))) I J := by
  refine mm_ev ?_ Q
  simp only [ce_220, bk_220, mmE, mmE0, mmH, mT, mR, mRf, mAl, mAs, mAz, mAn, Int.reduceToNat, Int32.reduceOfInt, Int64.reduceOfInt, Int.reduceAdd, swE, Nat.reduceDiv, Nat.reduceMod, Nat.reduceAdd, Nat.reduceMul, Nat.reduceEqDiff, Nat.reduceLeDiff, Nat.zero_le, List.length_nil, List.length_cons, Nat.zero_add, true_or, or_true, false_or, or_false, true_and, and_true, and_self, mb_01, mb_t, mb_f]
  revert m
  decide +kernel
def maskN (p : Nat) : Nat := 2 ^ pr_lo p + 2 ^ pr_hi p
theorem c_maskOf {p : Nat} (hp : p < 21) (Q : Option Value → mm_I → mm_J → Prop) : mm_call z (d + 2) 42 [.int (nI p)] I J Q = Q (some (.int (nI (maskN p)))) I J := by
  refine mm_ev ?_ Q
  simp only [ce_42, bk_42, c_low, c_high, (lo_n hp).1, (hi_n hp).1, mmE, mmE0, mmH, mT, mR, mRf, mAl, mAs, mAz, mAn, Int.reduceToNat, Int32.reduceOfInt, Int64.reduceOfInt, Int.reduceAdd, swE, Nat.reduceDiv, Nat.reduceMod, Nat.reduceAdd, Nat.reduceMul, Nat.reduceEqDiff, Nat.reduceLeDiff, Nat.zero_le, List.length_nil, List.length_cons, Nat.zero_add, true_or, or_true, false_or, or_false, true_and, and_true, and_self, mb_01, mb_t, mb_f]
  revert p
  decide +kernel
end BT
