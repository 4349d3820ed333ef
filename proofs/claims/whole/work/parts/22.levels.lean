section LW
variable {z : mm_S} {d : Nat} {I : mm_I} {J : mm_J} {np : Nat} {S : al_S} {Q : Option Value → mm_I → mm_J → Prop}
theorem eI_none : eI none = -1 := rfl
theorem eI_some (n : Nat) : eI (some n) = nI n := rfl
theorem lt_nI {a b : Nat} (ha : a < 2 ^ 31) (hb : b < 2 ^ 31) : (nI a < nI b) = (a < b) := propext (nI_ltI ha hb)
theorem le_nI {a b : Nat} (ha : a < 2 ^ 31) (hb : b < 2 ^ 31) : (nI a ≤ nI b) = (a ≤ b) := propext (nI_leI ha hb)
theorem eq_nI {a b : Nat} (ha : a < 2 ^ 31) (hb : b < 2 ^ 31) : (nI a = nI b) = (a = b) := propext (nI_eq ha hb)
theorem nneg {a : Nat} (ha : a < 2 ^ 31) : (nI a < 0) = False := by
  exact eq_false (nI_pos ha)
/-- at, of a fact or of none -/
theorem c_at {f : Option Nat} (h : rl_rep I np S) (hf : ∀ x, f = some x → x < 1180) (Q : Option Value → mm_I → mm_J → Prop) : mm_call z (d + 1) 32 [.ref 113, .int (eI f)] I J Q = Q (some (.int (nI (al_at S f)))) I J := by
  refine mm_ev ?_ Q
  simp only [ce_32, bk_32, mmE, mmE0, mmH, mT, mR, mRf, mAl, mAs, mAz, mAn, Int.reduceToNat, Int32.reduceOfInt, Int64.reduceOfInt, Int.reduceAdd, swE, Nat.reduceDiv, Nat.reduceMod, Nat.reduceAdd, Nat.reduceMul, Nat.reduceEqDiff, Nat.reduceLeDiff, Nat.zero_le, List.length_nil, List.length_cons, Nat.zero_add, true_or, or_true, false_or, or_false, true_and, and_true, and_self, mb_01, mb_t, mb_f]
  cases f with
  | none =>
    refine ⟨fun _ => rfl, fun h => absurd (by decide) h⟩
  | some x =>
    have hx := hf x rfl
    have h1 : ¬ nI x < 0 := nI_pos (by omega)
    have h2 : nI x < 1180 := nI_lt (b := 1180) hx (by decide)
    have h3 : ¬ 1180 ≤ nI x := nI_ge (b := 1180) hx (by decide)
    have h4 : vp_in (nI x) 1180 := vp_in_nI hx (by decide)
    have h5 : (nI x).toNatClampNeg = x := nI_clamp (by omega)
    rw [eI_some]
    simp only [h1, h2, h3, h4, h5, (h.2.2.2.1 x hx).1, al_at]
    simp
theorem w_offer {f : Option Nat} {o : Int32} {l : Nat} (h : rl_rep I np S) (hf : ∀ x, f = some x → isF x = true) (hl : 1 + (if o ≤ I 113 5 then I 113 5 else o) = nI l) (hl6 : l ≤ 6)
    (k : ∀ I', rl_rep I' np (al_offer S f l) → rl_fr I I' → Q none I' J) : mm_call z (d + 1) 37 [.ref 113, .int (eI f), .int o] I J Q := by
  cases f with
  | none =>
    have hk := k I h rl_fr_rf
    rw [eI_none]
    simp only [ce_37, bk_37, mmE, mmE0, mmH, mT, mR, mRf, mAl, mAs, mAz, mAn, Int.reduceToNat, Int32.reduceOfInt, Int64.reduceOfInt, Int.reduceAdd, swE, Nat.reduceDiv, Nat.reduceMod, Nat.reduceAdd, Nat.reduceMul, Nat.reduceEqDiff, Nat.reduceLeDiff, Nat.zero_le, List.length_nil, List.length_cons, Nat.zero_add, true_or, or_true, false_or, or_false, true_and, and_true, and_self, mb_01, mb_t, mb_f]
    have h0 : (-1 : Int32) < 0 := by decide
    simp [h0, hk]
  | some x =>
    have hx := isF_lt (hf x rfl)
    have h1 : (nI x < 0) = False := nneg (by omega)
    have h3 : (1180 ≤ nI x) = False := eq_false (nI_ge (b := 1180) hx (by decide))
    have h4 : vp_in (nI x) 1180 = True := eq_true (vp_in_nI hx (by decide))
    have h5 : (nI x).toNatClampNeg = x := nI_clamp (by omega)
    obtain ⟨h6, h7⟩ := h.2.2.2.1 x hx
    have c1 : (nI l < nI (S.1 x)) = (l < S.1 x) := lt_nI (by omega) (by omega)
    have c2 : (nI l < 0) = False := nneg (by omega)
    have c3 : (nI l < 5) = (l < 5) := lt_nI (b := 5) (by omega) (by decide)
    have c5 : (nI l).toNatClampNeg = l := nI_clamp (by omega)
    rw [eI_some]
    simp only [ce_37, bk_37, mmE, mmE0, mmH, mT, mR, mRf, mAl, mAs, mAz, mAn, Int.reduceToNat, Int32.reduceOfInt, Int64.reduceOfInt, Int.reduceAdd, swE, Nat.reduceDiv, Nat.reduceMod, Nat.reduceAdd, Nat.reduceMul, Nat.reduceEqDiff, Nat.reduceLeDiff, Nat.zero_le, List.length_nil, List.length_cons, Nat.zero_add, true_or, or_true, false_or, or_false, true_and, and_true, and_self, mb_01, mb_t, mb_f]
    refine ⟨fun ho => ?_, fun ho => ?_⟩
    all_goals
      first | rw [if_pos ho] at hl | rw [if_neg ho] at hl
      simp only [hl, h1, h3, h4, h5, h6, c1, c2, c3, c5, false_implies, true_implies, not_false_eq_true, true_and, and_true]
      by_cases hlt : l < S.1 x
      · simp only [hlt, true_implies, not_true_eq_false, false_implies, and_true]
        by_cases h5l : l < 5
        · obtain ⟨g1, g2, g3, g4⟩ := h.2.2.2.2 l h5l
          have hcap := rl_cap h h5l (hf x rfl) hlt
          have hw : mm_wI I 114 x (nI l) 121 l = nI (S.2 l).length := by
            rw [mWI, if_neg (by decide)]
            exact g1
          have c6 : vp_in (nI l) 5 = True := eq_true (vp_in_nI h5l (by decide))
          have c7 : (nI (S.2 l).length < 0) = False := nneg (by omega)
          have c8 : (nI (S.2 l).length < 910) = True := eq_true (nI_lt (b := 910) hcap (by decide))
          have c9 : vp_in (nI (S.2 l).length) 910 = True := eq_true (vp_in_nI hcap (by decide))
          have c10 : (nI (S.2 l).length).toNatClampNeg = (S.2 l).length := nI_clamp (by omega)
          simp only [h5l, hw, c6, c7, c8, c9, c10, c5, (mTq l h5l).1, (mTq l h5l).2, mRf, true_implies, not_true_eq_false, not_false_eq_true, false_implies, and_true, true_and, mmE, mmE0, mmH, mT, mR, mRf, mAl, mAs, mAz, mAn, Int.reduceToNat, Int32.reduceOfInt, Int64.reduceOfInt, Int.reduceAdd, swE, Nat.reduceDiv, Nat.reduceMod, Nat.reduceAdd, Nat.reduceMul, Nat.reduceEqDiff, Nat.reduceLeDiff, Nat.zero_le, List.length_nil, List.length_cons, Nat.zero_add, true_or, or_true, false_or, or_false, true_and, and_true, and_self, mb_01, mb_t, mb_f]
          refine k _ (rl_off h (hf x rfl) hlt _ ?_ ?_ ?_ ?_) ⟨?_, ?_⟩
          · funext j
            simp only [mWI]
            grind
          · intro j
            simp only [mWI]
            grind
          · intro q hq
            simp only [mWI, nI_succ]
            grind
          · intro q j hq
            simp only [mWI]
            grind
          · funext j
            simp only [mWI]
            grind
          · intro q hq
            funext j
            simp only [mWI]
            grind
        · simp only [h5l, false_implies, not_false_eq_true, true_implies, true_and]
          refine k _ (rl_off h (hf x rfl) hlt _ ?_ ?_ ?_ ?_) ⟨?_, ?_⟩
          · funext j
            simp only [mWI]
            grind
          · intro j
            simp only [mWI]
            grind
          · intro q hq
            simp only [mWI, nI_succ]
            grind
          · intro q j hq
            simp only [mWI]
            grind
          · funext j
            simp only [mWI]
            grind
          · intro q hq
            funext j
            simp only [mWI]
            grind
      · simp only [hlt, false_implies, not_false_eq_true, true_implies, true_and]
        refine k I ?_ rl_fr_rf
        have e : al_offer S (some x) l = S := by
          show (if l < S.1 x then _ else _) = _
          rw [if_neg hlt]
        rw [e]
        exact h
end LW
