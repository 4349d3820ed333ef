/-! calls about figures -/
section OB
variable {z : mm_S} {d : Nat} {I : mm_I} {J : mm_J} {s : st_T}
theorem n0E {n : Nat} (h : n < 2 ^ 31) : (nI n = 0) = (n = 0) := eq_nI (b := 0) h (by decide)
theorem pC_figure (hv : va s) (h : repC I J s) : mm_call z (d + 1) 97 [.ref 0] I J (okC I J (o_figure s)) := by
  obtain ⟨⟨a1, a2, a3, a4⟩, _⟩ := id h
  obtain ⟨⟨v1, v2, v3, v4⟩, _⟩ := id hv
  have c1 : (nI (sNf s) < 6) = (sNf s < 6) := lt_nI (b := 6) (by omega) (by omega)
  have w1 : mm_wI I 112 3 0 1 1 = nI (sNf s) := by rw [mWI, if_neg (by decide)]; exact a2
  have w2 : ∀ x, mm_wI (mm_wI I 112 3 0) 1 1 x 1 1 = x := fun x => by rw [mWI, if_pos rfl, if_pos rfl]
  simp only [ce_97, bk_97, mmE, mmE0, mmH, mT, mR, mRf, mAl, mAs, mAz, mAn, Int.reduceToNat, Int32.reduceOfInt, Int64.reduceOfInt, Int.reduceAdd, swE, Nat.reduceDiv, Nat.reduceMod, Nat.reduceAdd, Nat.reduceMul, Nat.reduceEqDiff, Nat.reduceLeDiff, Nat.zero_le, List.length_nil, List.length_cons, Nat.zero_add, true_or, or_true, false_or, or_false, true_and, and_true, and_self, mb_01, mb_t, mb_f, a1, a2, n0E (show sNp s < 2 ^ 31 by omega), c1, w1, w2, z01]
  unfold o_figure
  by_cases q0 : sNp s = 0
  · simp only [q0, true_implies, not_true_eq_false, not_false_eq_true, false_implies, and_true, true_and, if_true]
    exact ⟨rfl, h, frC_rf⟩
  · simp only [q0, true_implies, not_true_eq_false, not_false_eq_true, false_implies, and_true, true_and, if_false]
    by_cases q6 : sNf s = 6
    · have c2 : ¬ sNf s < 6 := by omega
      simp only [c2, eq_true q6, true_implies, not_true_eq_false, not_false_eq_true, false_implies, and_true, true_and, if_true]
      exact ⟨rfl, h, frC_rf⟩
    · have c2 : sNf s < 6 := by omega
      simp only [c2, q6, true_implies, not_true_eq_false, not_false_eq_true, false_implies, and_true, true_and, if_false]
      rw [← nI_succ, pd1]
      refine ⟨rfl, repC_g0 hv h (fun k k1 k2 => ?_) ⟨?_, ?_, ?_, ?_⟩ rfl rfl rfl rfl rfl rfl rfl (Nat.le_refl _) rfl ?_, frC_tr (frC_w (by decide)) (frC_w (by decide))⟩
      · funext q
        rw [mWI, if_neg k1, mWI, if_neg k2]
      · rw [mWI, if_pos rfl, if_neg (by decide), mWI, if_neg (by decide)]; exact a1
      · rw [mWI, if_pos rfl, if_pos rfl]
      · rw [mWI, if_pos rfl, if_neg (by decide), mWI, if_neg (by decide)]; exact a3
      · rw [mWI, if_pos rfl, if_neg (by decide), mWI, if_neg (by decide)]; exact a4
      · rw [mWI, if_neg (by decide), mWI, if_pos rfl, if_pos rfl]
theorem pM_figure (hv : va s) (h : repM I J s) : mm_call z (d + 1) 126 [.ref 127] I J (okM I J (o_figure s)) := by
  obtain ⟨⟨a1, a2, a3, a4⟩, _⟩ := id h
  obtain ⟨⟨v1, v2, v3, v4⟩, _⟩ := id hv
  have c1 : (nI (sNf s) = 6) = (sNf s = 6) := eq_nI (b := 6) (by omega) (by omega)
  have w2 : ∀ x y, mm_wI (mm_wI I 127 1 x) 127 37 y 127 1 = x := fun x y => by rw [mWI, if_pos rfl, if_neg (by decide), mWI, if_pos rfl, if_pos rfl]
  simp only [ce_126, bk_126, mmE, mmE0, mmH, mT, mR, mRf, mAl, mAs, mAz, mAn, Int.reduceToNat, Int32.reduceOfInt, Int64.reduceOfInt, Int.reduceAdd, swE, Nat.reduceDiv, Nat.reduceMod, Nat.reduceAdd, Nat.reduceMul, Nat.reduceEqDiff, Nat.reduceLeDiff, Nat.zero_le, List.length_nil, List.length_cons, Nat.zero_add, true_or, or_true, false_or, or_false, true_and, and_true, and_self, mb_01, mb_t, mb_f, a1, a2, n0E (show sNp s < 2 ^ 31 by omega), c1, w2, z01]
  unfold o_figure
  by_cases q0 : sNp s = 0
  · simp only [q0, true_implies, not_true_eq_false, not_false_eq_true, false_implies, and_true, true_and, if_true]
    exact ⟨rfl, h, frM_rf⟩
  · simp only [q0, true_implies, not_true_eq_false, not_false_eq_true, false_implies, and_true, true_and, if_false]
    by_cases q6 : sNf s = 6
    · simp only [q6, true_implies, not_true_eq_false, not_false_eq_true, false_implies, and_true, true_and, if_true]
      exact ⟨rfl, h, frM_rf⟩
    · simp only [q6, true_implies, not_true_eq_false, not_false_eq_true, false_implies, and_true, true_and, if_false]
      rw [← nI_succ, pd1]
      refine ⟨rfl, repM_g0 h (fun k k1 => ?_) (fun j j1 j2 j3 j4 => ?_) ⟨?_, ?_, ?_⟩ rfl rfl rfl rfl rfl rfl rfl (Nat.le_refl _) rfl ?_, frM_tr (frM_w (by decide)) (frM_w (by decide))⟩
      · funext q
        rw [mWI, if_neg k1, mWI, if_neg k1]
      · rw [mWI, if_pos rfl, if_neg j4, mWI, if_pos rfl, if_neg j2]
      · rw [mWI, if_pos rfl, if_neg (by decide), mWI, if_pos rfl, if_neg (by decide)]; exact a1
      · rw [mWI, if_pos rfl, if_neg (by decide), mWI, if_pos rfl, if_pos rfl]
      · rw [mWI, if_pos rfl, if_neg (by decide), mWI, if_pos rfl, if_neg (by decide)]; exact a3
      · rw [mWI, if_pos rfl, if_pos rfl]
theorem c_isFigure {x : Int32} (hv : va s) (h : repM I J s) (Q : Option Value → mm_I → mm_J → Prop) : mm_call z (d + 2) 128 [.ref 127, .int x] I J Q = Q (some (.int (mb (inN (sNf s) x)))) I J := by
  refine mm_ev ?_ Q
  have v2 := hv.1.2.1
  simp only [ce_128, bk_128, mmE, mmE0, mmH, mT, mR, mRf, mAl, mAs, mAz, mAn, Int.reduceToNat, Int32.reduceOfInt, Int64.reduceOfInt, Int.reduceAdd, swE, Nat.reduceDiv, Nat.reduceMod, Nat.reduceAdd, Nat.reduceMul, Nat.reduceEqDiff, Nat.reduceLeDiff, Nat.zero_le, List.length_nil, List.length_cons, Nat.zero_add, true_or, or_true, false_or, or_false, true_and, and_true, and_self, mb_01, mb_t, mb_f, Option.toList_some, Option.toList_none, List.cons_append, List.nil_append, h.1.2.1, c_in, in_np (show sNf s ≤ 10000 by omega), mb_01]
theorem pC_placed {f p i : Int32} (hv : va s) (h : repC I J s) : mm_call z (d + 2) 99 [.ref 0, .int f, .int p, .int i] I J (okC I J (o_placed s f p i)) := by
  obtain ⟨⟨a1, a2, a3, a4⟩, hf, _⟩ := id h
  obtain ⟨⟨v1, v2, v3, v4⟩, _⟩ := id hv
  unfold o_placed
  simp only [ce_99, bk_99.1, mmE, mmE0, mmH, mT, mR, mRf, mAl, mAs, mAz, mAn, Int.reduceToNat, Int32.reduceOfInt, Int64.reduceOfInt, Int.reduceAdd, swE, Nat.reduceDiv, Nat.reduceMod, Nat.reduceAdd, Nat.reduceMul, Nat.reduceEqDiff, Nat.reduceLeDiff, Nat.zero_le, List.length_nil, List.length_cons, Nat.zero_add, true_or, or_true, false_or, or_false, true_and, and_true, and_self, mb_01, mb_t, mb_f]
  cases ef : inN (sNf s) f with
  | false =>
    simp only [c_figAt_no v2 a2 ef, ce_99, bk_99, mmE, mmE0, mmH, mT, mR, mRf, mAl, mAs, mAz, mAn, Int.reduceToNat, Int32.reduceOfInt, Int64.reduceOfInt, Int.reduceAdd, swE, Nat.reduceDiv, Nat.reduceMod, Nat.reduceAdd, Nat.reduceMul, Nat.reduceEqDiff, Nat.reduceLeDiff, Nat.zero_le, List.length_nil, List.length_cons, Nat.zero_add, true_or, or_true, false_or, or_false, true_and, and_true, and_self, mb_01, mb_t, mb_f, Option.toList_some, Option.toList_none, List.cons_append, List.nil_append, true_implies, not_true_eq_false, not_false_eq_true, false_implies, and_true, true_and, Bool.false_and, if_false, Bool.false_eq_true]
    exact ⟨rfl, h, frC_rf⟩
  | true =>
    obtain ⟨f, hfn, rfl⟩ := inN_t ef
    obtain ⟨t1, t2, t3, t4, t5, t6⟩ := mTf f (by omega)
    simp only [c_figAt v2 a2 hfn, bk_99.2.1, bk_99.2.2.1, bk_99.2.2.2.1, bk_99.2.2.2.2.1, mmE, mmE0, mmH, mT, mR, mRf, mAl, mAs, mAz, mAn, Int.reduceToNat, Int32.reduceOfInt, Int64.reduceOfInt, Int.reduceAdd, swE, Nat.reduceDiv, Nat.reduceMod, Nat.reduceAdd, Nat.reduceMul, Nat.reduceEqDiff, Nat.reduceLeDiff, Nat.zero_le, List.length_nil, List.length_cons, Nat.zero_add, true_or, or_true, false_or, or_false, true_and, and_true, and_self, mb_01, mb_t, mb_f, Option.toList_some, Option.toList_none, List.cons_append, List.nil_append, true_implies, not_true_eq_false, not_false_eq_true, false_implies, and_true, true_and, c_hasPoint v1 a1, mb_0, Bool.true_and]
    cases ep : inN (sNp s) p with
    | false =>
      simp only [true_implies, not_true_eq_false, not_false_eq_true, false_implies, and_true, true_and, if_false, Bool.false_eq_true]
      exact ⟨rfl, h, frC_rf⟩
    | true =>
      obtain ⟨p, hpn, rfl⟩ := inN_t ep
      simp only [true_implies, not_true_eq_false, not_false_eq_true, false_implies, and_true, true_and, if_true, Bool.true_eq_false]
      rw [nI_clamp (show f < 2 ^ 31 by omega), nI_clamp (show p < 2 ^ 31 by omega)]
      have hF := hf f (by omega)
      simp only [t1, mmE, mmE0, mmH, mT, mR, mRf, mAl, mAs, mAz, mAn, Int.reduceToNat, Int32.reduceOfInt, Int64.reduceOfInt, Int.reduceAdd, swE, Nat.reduceDiv, Nat.reduceMod, Nat.reduceAdd, Nat.reduceMul, Nat.reduceEqDiff, Nat.reduceLeDiff, Nat.zero_le, List.length_nil, List.length_cons, Nat.zero_add, true_or, or_true, false_or, or_false, true_and, and_true, and_self, mb_01, mb_t, mb_f, Option.toList_some, Option.toList_none, List.cons_append, List.nil_append, true_implies, not_true_eq_false, not_false_eq_true, false_implies, and_true, true_and, c_has (show f < 6 by omega) (show p < 7 by omega) hF, c_x (show f < 6 by omega) (show p < 7 by omega) hF, c_y (show f < 6 by omega) (show p < 7 by omega) hF, mb_0, bk_99.2.2.2.2.1, bk_99.2.2.2.2.2.1, bk_99.2.2.2.2.2.2]
      by_cases q0 : i = 0
      · simp only [q0, true_or, if_true, true_implies, not_true_eq_false, not_false_eq_true, false_implies, and_true, true_and]
        cases eh : fg_has (sF s f) p with
        | false =>
          simp only [true_implies, not_true_eq_false, not_false_eq_true, false_implies, and_true, true_and, if_false, Bool.false_eq_true]
          exact ⟨rfl, h, frC_rf⟩
        | true =>
          simp only [true_implies, not_true_eq_false, not_false_eq_true, false_implies, and_true, true_and, if_true, Bool.true_eq_false]
          exact ⟨rfl, h, frC_rf⟩
      · by_cases q1 : i = 1
        · have e10 : ((1 : Int32) = 0) = False := by decide
          simp only [q1, e10, or_true, if_true, true_implies, not_true_eq_false, not_false_eq_true, false_implies, and_true, true_and]
          cases eh : fg_has (sF s f) p with
          | false =>
            simp only [true_implies, not_true_eq_false, not_false_eq_true, false_implies, and_true, true_and, if_false, Bool.false_eq_true]
            exact ⟨rfl, h, frC_rf⟩
          | true =>
            simp only [true_implies, not_true_eq_false, not_false_eq_true, false_implies, and_true, true_and, if_true, if_false, Bool.true_eq_false]
            exact ⟨rfl, h, frC_rf⟩
        · simp only [q0, q1, or_self, if_false, true_implies, not_true_eq_false, not_false_eq_true, false_implies, and_true, true_and]
          exact ⟨rfl, h, frC_rf⟩
theorem pM_placed {f p i : Int32} (hv : va s) (h : repM I J s) : mm_call z (d + 3) 129 [.ref 127, .int f, .int p, .int i] I J (okM I J (o_placed s f p i)) := by
  obtain ⟨⟨a1, a2, a3, a4⟩, hf, _⟩ := id h
  obtain ⟨⟨v1, v2, v3, v4⟩, _⟩ := id hv
  unfold o_placed
  simp only [ce_129, bk_129, mmE, mmE0, mmH, mT, mR, mRf, mAl, mAs, mAz, mAn, Int.reduceToNat, Int32.reduceOfInt, Int64.reduceOfInt, Int.reduceAdd, swE, Nat.reduceDiv, Nat.reduceMod, Nat.reduceAdd, Nat.reduceMul, Nat.reduceEqDiff, Nat.reduceLeDiff, Nat.zero_le, List.length_nil, List.length_cons, Nat.zero_add, true_or, or_true, false_or, or_false, true_and, and_true, and_self, mb_01, mb_t, mb_f, Option.toList_some, Option.toList_none, List.cons_append, List.nil_append, c_isFigure hv h, mb_0, a1, c_in, in_np (show sNp s ≤ 10000 by omega), in_1]
  cases ef : inN (sNf s) f with
  | false =>
    simp only [true_implies, not_true_eq_false, not_false_eq_true, false_implies, and_true, true_and, Bool.false_and, if_false, Bool.false_eq_true]
    exact ⟨rfl, h, frM_rf⟩
  | true =>
    obtain ⟨f, hfn, rfl⟩ := inN_t ef
    simp only [true_implies, not_true_eq_false, not_false_eq_true, false_implies, and_true, true_and, Bool.true_and, Bool.true_eq_false]
    cases ep : inN (sNp s) p with
    | false =>
      simp only [true_implies, not_true_eq_false, not_false_eq_true, false_implies, and_true, true_and, if_false, Bool.false_eq_true]
      exact ⟨rfl, h, frM_rf⟩
    | true =>
      obtain ⟨p, hpn, rfl⟩ := inN_t ep
      obtain ⟨g1, g2, g3⟩ := hf f (by omega) p (by omega)
      simp only [true_implies, not_true_eq_false, not_false_eq_true, false_implies, and_true, true_and, if_true, Bool.true_eq_false, i7, ix42 (show f < 6 by omega) (show p < 7 by omega), g1, g2, g3, mb_0]
      rw [nI_clamp (show f < 2 ^ 31 by omega), nI_clamp (show p < 2 ^ 31 by omega)]
      by_cases q0 : i = 0
      · have e : inN 2 (0 : Int32) = true := by decide
        simp only [q0, e, true_or, if_true, true_implies, not_true_eq_false, not_false_eq_true, false_implies, and_true, true_and, Bool.true_eq_false]
        cases eh : fg_has (sF s f) p with
        | false =>
          simp only [true_implies, not_true_eq_false, not_false_eq_true, false_implies, and_true, true_and, if_false, Bool.false_eq_true]
          exact ⟨rfl, h, frM_rf⟩
        | true =>
          simp only [true_implies, not_true_eq_false, not_false_eq_true, false_implies, and_true, true_and, if_true, Bool.true_eq_false]
          exact ⟨rfl, h, frM_rf⟩
      · by_cases q1 : i = 1
        · have e10 : ((1 : Int32) = 0) = False := by decide
          have e : inN 2 (1 : Int32) = true := by decide
          simp only [q1, e, e10, or_true, if_true, true_implies, not_true_eq_false, not_false_eq_true, false_implies, and_true, true_and, Bool.true_eq_false]
          cases eh : fg_has (sF s f) p with
          | false =>
            simp only [true_implies, not_true_eq_false, not_false_eq_true, false_implies, and_true, true_and, if_false, Bool.false_eq_true]
            exact ⟨rfl, h, frM_rf⟩
          | true =>
            simp only [true_implies, not_true_eq_false, not_false_eq_true, false_implies, and_true, true_and, if_true, if_false, Bool.true_eq_false]
            exact ⟨rfl, h, frM_rf⟩
        · have e : inN 2 i = false := by
            cases e : inN 2 i with
            | false => rfl
            | true =>
              obtain ⟨m, hm, rfl⟩ := inN_t e
              exfalso
              rcases (show m = 0 ∨ m = 1 by omega) with rfl | rfl
              · exact q0 rfl
              · exact q1 rfl
          simp only [q0, q1, e, or_self, if_false, true_implies, not_true_eq_false, not_false_eq_true, false_implies, and_true, true_and]
          exact ⟨rfl, h, frM_rf⟩
end OB
