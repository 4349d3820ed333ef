def al_none : al_S := (fun _ => 6, fun _ => [])
def al_cnt (S : al_S) (n : Nat) : Nat → Nat → Nat
  | _, 0 => 0
  | f, w + 1 => (if S.1 f = n then 1 else 0) + al_cnt S n (f + 1) w
section LK
variable {z : mm_S} {d : Nat} {I : mm_I} {J : mm_J} {np : Nat} {S : al_S} {Q : Option Value → mm_I → mm_J → Prop}
theorem w_assume {f : Nat} (hf : isF f = true) (h : rl_rep I np S) (k : ∀ I', rl_rep I' np (al_offer S (some f) 0) → rs_fr I I' → Q none I' J) : mm_call z (d + 2) 52 [.ref 113, .int (nI f)] I J Q := by
  have h1 := rl_now h (-1)
  have hfr1 : rs_fr I (mm_wI I 113 5 (-1)) := ⟨fun j hj => by rw [mWI, if_pos rfl, if_neg hj], fun k hk => by funext j; rw [mWI, if_neg (by omega)]⟩
  simp only [ce_52, bk_52, mmE, mmE0, mmH, mT, mR, mRf, mAl, mAs, mAz, mAn, Int.reduceToNat, Int32.reduceOfInt, Int64.reduceOfInt, Int.reduceAdd, swE, Nat.reduceDiv, Nat.reduceMod, Nat.reduceAdd, Nat.reduceMul, Nat.reduceEqDiff, Nat.reduceLeDiff, Nat.zero_le, List.length_nil, List.length_cons, Nat.zero_add, true_or, or_true, false_or, or_false, true_and, and_true, and_self, mb_01, mb_t, mb_f]
  refine w_offer (f := some f) (o := -1) (l := 0) h1 (fun x e => by cases e; exact hf) (by rw [mWI, if_pos rfl, if_pos rfl]; decide) (by decide) (fun I' h2 fr2 => ?_)
  simp only [mmE, mmE0, mmH, mT, mR, mRf, mAl, mAs, mAz, mAn, Int.reduceToNat, Int32.reduceOfInt, Int64.reduceOfInt, Int.reduceAdd, swE, Nat.reduceDiv, Nat.reduceMod, Nat.reduceAdd, Nat.reduceMul, Nat.reduceEqDiff, Nat.reduceLeDiff, Nat.zero_le, List.length_nil, List.length_cons, Nat.zero_add, true_or, or_true, false_or, or_false, true_and, and_true, and_self, mb_01, mb_t, mb_f]
  exact k I' h2 (rs_fr_tr hfr1 (rl_rs fr2))
theorem w_clear1 {n : Int32} : ∀ (w i : Nat) (I : mm_I), i + w = 1180 → (∀ I', (∀ j, j < i → I' 114 j = I 114 j) → (∀ j, i ≤ j → j < 1180 → I' 114 j = 6) → (∀ k, k ≠ 114 → I' k = I k) → mm_at z (mm_call z d) (mm_code 31) Q 39 [some (.ref 113), some (.int n), some (.int 1180)] [] I' J) →
    mm_at z (mm_call z d) (mm_code 31) Q 18 [some (.ref 113), some (.int n), some (.int (nI i))] [] I J := by
  intro w
  induction w with
  | zero =>
    intro i I hi k
    obtain rfl : i = 1180 := by omega
    have hk := k I (fun _ _ => rfl) (fun j h1 h2 => by omega) (fun _ _ => rfl)
    have e1 : ((1180 : Int32) ≤ nI 1180) = True := eq_true (by decide)
    rw [hk_31_18]
    simp only [e1, true_implies, not_true_eq_false, false_implies, mmE, mmE0, mmH, mT, mR, mRf, mAl, mAs, mAz, mAn, Int.reduceToNat, Int32.reduceOfInt, Int64.reduceOfInt, Int.reduceAdd, swE, Nat.reduceDiv, Nat.reduceMod, Nat.reduceAdd, Nat.reduceMul, Nat.reduceEqDiff, Nat.reduceLeDiff, Nat.zero_le, List.length_nil, List.length_cons, Nat.zero_add, true_or, or_true, false_or, or_false, true_and, and_true, and_self, mb_01, mb_t, mb_f]
    exact hk
  | succ w ih =>
    intro i I hi k
    have e1 : ((1180 : Int32) ≤ nI i) = False := eq_false (nI_ge (b := 1180) (by omega) (by decide))
    have t5 : (nI i).toNatClampNeg = i := nI_clamp (by omega)
    have t6 : vp_in (nI i) 1180 = True := eq_true (vp_in_nI (by omega) (by decide))
    have e3 : nI i + 1 = nI (i + 1) := (nI_succ i).symm
    rw [hk_31_18]
    simp only [e1, e3, t5, t6, true_implies, not_true_eq_false, false_implies, not_false_eq_true, mmE, mmE0, mmH, mT, mR, mRf, mAl, mAs, mAz, mAn, Int.reduceToNat, Int32.reduceOfInt, Int64.reduceOfInt, Int.reduceAdd, swE, Nat.reduceDiv, Nat.reduceMod, Nat.reduceAdd, Nat.reduceMul, Nat.reduceEqDiff, Nat.reduceLeDiff, Nat.zero_le, List.length_nil, List.length_cons, Nat.zero_add, true_or, or_true, false_or, or_false, true_and, and_true, and_self, mb_01, mb_t, mb_f]
    refine ih (i + 1) _ (by omega) (fun I' h1 h2 h3 => k I' (fun j hj => ?_) (fun j hj hj2 => ?_) (fun q hq => ?_))
    · rw [h1 j (by omega), mWI, if_pos rfl, if_neg (by omega)]
    · by_cases e : j = i
      · subst e
        rw [h1 j (by omega), mWI, if_pos rfl, if_pos rfl]
      · exact h2 j (by omega) hj2
    · rw [h3 q hq]
      funext j
      rw [mWI, if_neg hq]
theorem w_clear2 {n : Int32} : ∀ (w i : Nat) (I : mm_I), i + w = 5 → (∀ I', (∀ j, j < i → I' 121 j = I 121 j) → (∀ j, i ≤ j → j < 5 → I' 121 j = 0) → (∀ k, k ≠ 121 → I' k = I k) → Q none I' J) →
    mm_at z (mm_call z d) (mm_code 31) Q 41 [some (.ref 113), some (.int n), some (.int (nI i))] [] I J := by
  intro w
  induction w with
  | zero =>
    intro i I hi k
    obtain rfl : i = 5 := by omega
    have hk := k I (fun _ _ => rfl) (fun j h1 h2 => by omega) (fun _ _ => rfl)
    have e1 : ((5 : Int32) ≤ nI 5) = True := eq_true (by decide)
    rw [hk_31_41]
    simp only [bk_31, e1, true_implies, not_true_eq_false, false_implies, mmE, mmE0, mmH, mT, mR, mRf, mAl, mAs, mAz, mAn, Int.reduceToNat, Int32.reduceOfInt, Int64.reduceOfInt, Int.reduceAdd, swE, Nat.reduceDiv, Nat.reduceMod, Nat.reduceAdd, Nat.reduceMul, Nat.reduceEqDiff, Nat.reduceLeDiff, Nat.zero_le, List.length_nil, List.length_cons, Nat.zero_add, true_or, or_true, false_or, or_false, true_and, and_true, and_self, mb_01, mb_t, mb_f]
    exact hk
  | succ w ih =>
    intro i I hi k
    have e1 : ((5 : Int32) ≤ nI i) = False := eq_false (nI_ge (b := 5) (by omega) (by decide))
    have t5 : (nI i).toNatClampNeg = i := nI_clamp (by omega)
    have t6 : vp_in (nI i) 5 = True := eq_true (vp_in_nI (by omega) (by decide))
    have e3 : nI i + 1 = nI (i + 1) := (nI_succ i).symm
    rw [hk_31_41]
    simp only [e1, e3, t5, t6, true_implies, not_true_eq_false, false_implies, not_false_eq_true, mmE, mmE0, mmH, mT, mR, mRf, mAl, mAs, mAz, mAn, Int.reduceToNat, Int32.reduceOfInt, Int64.reduceOfInt, Int.reduceAdd, swE, Nat.reduceDiv, Nat.reduceMod, Nat.reduceAdd, Nat.reduceMul, Nat.reduceEqDiff, Nat.reduceLeDiff, Nat.zero_le, List.length_nil, List.length_cons, Nat.zero_add, true_or, or_true, false_or, or_false, true_and, and_true, and_self, mb_01, mb_t, mb_f]
    refine ih (i + 1) _ (by omega) (fun I' h1 h2 h3 => k I' (fun j hj => ?_) (fun j hj hj2 => ?_) (fun q hq => ?_))
    · rw [h1 j (by omega), mWI, if_pos rfl, if_neg (by omega)]
    · by_cases e : j = i
      · subst e
        rw [h1 j (by omega), mWI, if_pos rfl, if_pos rfl]
      · exact h2 j (by omega) hj2
    · rw [h3 q hq]
      funext j
      rw [mWI, if_neg hq]
/-- what clear may change -/
def rc_fr (I I' : mm_I) : Prop := ∀ k, k < 113 ∨ 121 < k → I' k = I k
theorem w_clear (hnp : np ≤ 7) (k : ∀ I', rl_rep I' np al_none → rc_fr I I' → Q none I' J) : mm_call z (d + 1) 31 [.ref 113, .int (nI np)] I J Q := by
  have ep : nI np * (nI np - 1) / 2 = nI (np * (np - 1) / 2) := by
    have t : ∀ n, n ≤ 7 → nI n * (nI n - 1) / 2 = nI (n * (n - 1) / 2) := by decide +kernel
    exact t np hnp
  have e2 : (¬ (2 : Int32) = 0) = True := eq_true (by decide)
  have el : (0 : Int32) = nI 0 := rfl
  simp only [ce_31, bk_31.1, ep, e2, mmE, mmE0, mmH, mT, mR, mRf, mAl, mAs, mAz, mAn, Int.reduceToNat, Int32.reduceOfInt, Int64.reduceOfInt, Int.reduceAdd, swE, Nat.reduceDiv, Nat.reduceMod, Nat.reduceAdd, Nat.reduceMul, Nat.reduceEqDiff, Nat.reduceLeDiff, Nat.zero_le, List.length_nil, List.length_cons, Nat.zero_add, true_or, or_true, false_or, or_false, true_and, and_true, and_self, mb_01, mb_t, mb_f]
  rw [el]
  refine w_clear1 1180 0 _ (by omega) (fun I1 h1 h2 h3 => ?_)
  simp only [bk_31.2.1, mmE, mmE0, mmH, mT, mR, mRf, mAl, mAs, mAz, mAn, Int.reduceToNat, Int32.reduceOfInt, Int64.reduceOfInt, Int.reduceAdd, swE, Nat.reduceDiv, Nat.reduceMod, Nat.reduceAdd, Nat.reduceMul, Nat.reduceEqDiff, Nat.reduceLeDiff, Nat.zero_le, List.length_nil, List.length_cons, Nat.zero_add, true_or, or_true, false_or, or_false, true_and, and_true, and_self, mb_01, mb_t, mb_f]
  rw [el]
  refine w_clear2 5 0 _ (by omega) (fun I2 g1 g2 g3 => k I2 ?_ ?_)
  · refine ⟨?_, ?_, hnp, fun f hf => ?_, fun l hl => ?_⟩
    · rw [g3 _ (by decide), h3 _ (by decide), mWI, if_pos rfl, if_neg (by decide), mWI, if_pos rfl, if_pos rfl]
    · rw [g3 _ (by decide), h3 _ (by decide), mWI, if_pos rfl, if_pos rfl]
    · rw [g3 _ (by decide), h2 f (by omega) hf]
      exact ⟨rfl, Nat.le_refl _⟩
    · refine ⟨g2 l (by omega) hl, by simp [al_none], fun f hf => (by cases hf), fun i f hi => (by simp [al_none] at hi)⟩
  · intro q hq
    rw [g3 q (by omega), h3 q (by omega)]
    funext j
    rw [mWI, if_neg (by omega), mWI, if_neg (by omega)]
theorem w_count_loop {n : Nat} (hn : n ≤ 5) (h : rl_rep I np S) : ∀ (w i c : Nat), i + w = 1180 → c ≤ i → Q (some (.int (nI (c + al_cnt S n i w)))) I J → mm_at z (mm_call z d) (mm_code 53) Q 4 [some (.ref 113), some (.int (nI n)), some (.int (nI c)), some (.int (nI i))] [] I J := by
  intro w
  induction w with
  | zero =>
    intro i c hi hc k
    obtain rfl : i = 1180 := by omega
    have e1 : ((1180 : Int32) ≤ nI 1180) = True := eq_true (by decide)
    rw [hk_53_4]
    simp only [bk_53, e1, true_implies, not_true_eq_false, false_implies, mmE, mmE0, mmH, mT, mR, mRf, mAl, mAs, mAz, mAn, Int.reduceToNat, Int32.reduceOfInt, Int64.reduceOfInt, Int.reduceAdd, swE, Nat.reduceDiv, Nat.reduceMod, Nat.reduceAdd, Nat.reduceMul, Nat.reduceEqDiff, Nat.reduceLeDiff, Nat.zero_le, List.length_nil, List.length_cons, Nat.zero_add, true_or, or_true, false_or, or_false, true_and, and_true, and_self, mb_01, mb_t, mb_f]
    exact k
  | succ w ih =>
    intro i c hi hc k
    have e1 : ((1180 : Int32) ≤ nI i) = False := eq_false (nI_ge (b := 1180) (by omega) (by decide))
    have t5 : (nI i).toNatClampNeg = i := nI_clamp (by omega)
    have t6 : vp_in (nI i) 1180 = True := eq_true (vp_in_nI (by omega) (by decide))
    have e3 : nI i + 1 = nI (i + 1) := (nI_succ i).symm
    have e4 : nI c + 1 = nI (c + 1) := (nI_succ c).symm
    obtain ⟨h1, h2⟩ := h.2.2.2.1 i (by omega)
    have e5 : (nI (S.1 i) = nI n) = (S.1 i = n) := eq_nI (by omega) (by omega)
    rw [hk_53_4]
    simp only [bk_53, e1, e3, e4, e5, h1, t5, t6, true_implies, not_true_eq_false, false_implies, not_false_eq_true, mmE, mmE0, mmH, mT, mR, mRf, mAl, mAs, mAz, mAn, Int.reduceToNat, Int32.reduceOfInt, Int64.reduceOfInt, Int.reduceAdd, swE, Nat.reduceDiv, Nat.reduceMod, Nat.reduceAdd, Nat.reduceMul, Nat.reduceEqDiff, Nat.reduceLeDiff, Nat.zero_le, List.length_nil, List.length_cons, Nat.zero_add, true_or, or_true, false_or, or_false, true_and, and_true, and_self, mb_01, mb_t, mb_f]
    unfold al_cnt at k
    refine ⟨fun q => ?_, fun q => ?_⟩
    · rw [if_neg q, Nat.zero_add] at k
      exact ih (i + 1) c (by omega) (by omega) k
    · rw [if_pos q, ← Nat.add_assoc] at k
      exact ih (i + 1) (c + 1) (by omega) (by omega) k
theorem w_count {n : Nat} (hn : n ≤ 5) (h : rl_rep I np S) (k : Q (some (.int (nI (al_cnt S n 0 1180)))) I J) : mm_call z (d + 1) 53 [.ref 113, .int (nI n)] I J Q := by
  simp only [ce_53, bk_53, mmE, mmE0, mmH, mT, mR, mRf, mAl, mAs, mAz, mAn, Int.reduceToNat, Int32.reduceOfInt, Int64.reduceOfInt, Int.reduceAdd, swE, Nat.reduceDiv, Nat.reduceMod, Nat.reduceAdd, Nat.reduceMul, Nat.reduceEqDiff, Nat.reduceLeDiff, Nat.zero_le, List.length_nil, List.length_cons, Nat.zero_add, true_or, or_true, false_or, or_false, true_and, and_true, and_self, mb_01, mb_t, mb_f]
  exact w_count_loop hn h 1180 0 0 (by omega) (by omega) (by rw [Nat.zero_add]; exact k)
end LK
