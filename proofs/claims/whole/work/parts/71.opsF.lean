/-! fact, because, alike -/
section OF
variable {z : mm_S} {d : Nat} {I : mm_I} {J : mm_J} {s : st_T}
theorem c_pI {f i : Nat} (hf : isF f = true) (hi : i < 4) (Q : Option Value → mm_I → mm_J → Prop) : mm_call z (d + 3) 205 [.int (nI f), .int (nI i)] I J Q = Q (some (.int (pI f i))) I J := by
  unfold pI
  by_cases q : i < kdN (kd f)
  · rw [if_pos q, c_pt hf q]
  · rw [if_neg q, c_pt_no hf (by omega) (by omega)]
theorem pC_fact {r w : Int32} (hv : va s) (h : repC I J s) : mm_call z (d + 4) 109 [.ref 0, .int r, .int w] I J (okC I J (o_fact s r w)) := by
  unfold o_fact
  simp only [ce_109, bk_109.1, mmE, mmE0, mmH, mT, mR, mRf, mAl, mAs, mAz, mAn, Int.reduceToNat, Int32.reduceOfInt, Int64.reduceOfInt, Int.reduceAdd, swE, Nat.reduceDiv, Nat.reduceMod, Nat.reduceAdd, Nat.reduceMul, Nat.reduceEqDiff, Nat.reduceLeDiff, Nat.zero_le, List.length_nil, List.length_cons, Nat.zero_add, true_or, or_true, false_or, or_false, true_and, and_true, and_self, mb_01, mb_t, mb_f]
  cases er : inG s r with
  | false =>
    simp only [c_rog_no hv h er, ce_109, bk_109, mmE, mmE0, mmH, mT, mR, mRf, mAl, mAs, mAz, mAn, Int.reduceToNat, Int32.reduceOfInt, Int64.reduceOfInt, Int.reduceAdd, swE, Nat.reduceDiv, Nat.reduceMod, Nat.reduceAdd, Nat.reduceMul, Nat.reduceEqDiff, Nat.reduceLeDiff, Nat.zero_le, List.length_nil, List.length_cons, Nat.zero_add, true_or, or_true, false_or, or_false, true_and, and_true, and_self, mb_01, mb_t, mb_f, Option.toList_some, Option.toList_none, List.cons_append, List.nil_append, true_implies, not_true_eq_false, not_false_eq_true, false_implies, and_true, true_and, if_false, Bool.false_eq_true]
    exact ⟨rfl, h, frC_rf⟩
  | true =>
    obtain ⟨r, hr, rfl, hr2⟩ := inG_t hv er
    obtain ⟨t1, t2, t3⟩ := mTc hr
    obtain ⟨r1, r2, r3, r4, r5⟩ := rC_of h hr2
    have hP := (row_of hv hr2).1
    have hF := isP_F hv.1.1 hP
    have f1 := isF_lt hF
    rw [nI_clamp (show r < 2 ^ 31 by omega)]
    simp only [c_rog hv h hr2, bk_109.2.1, bk_109.2.2.1, mmE, mmE0, mmH, mT, mR, mRf, mAl, mAs, mAz, mAn, Int.reduceToNat, Int32.reduceOfInt, Int64.reduceOfInt, Int.reduceAdd, swE, Nat.reduceDiv, Nat.reduceMod, Nat.reduceAdd, Nat.reduceMul, Nat.reduceEqDiff, Nat.reduceLeDiff, Nat.zero_le, List.length_nil, List.length_cons, Nat.zero_add, true_or, or_true, false_or, or_false, true_and, and_true, and_self, mb_01, mb_t, mb_f, Option.toList_some, Option.toList_none, List.cons_append, List.nil_append, true_implies, not_true_eq_false, not_false_eq_true, false_implies, and_true, true_and, if_true]
    cases ew : inN 8 w with
    | false =>
      have hk : okC I J ((-2 : Int32), s) (some (.int (-2))) I J := ⟨rfl, h, frC_rf⟩
      by_cases q : w < 0
      · simp only [q, true_implies, not_true_eq_false, not_false_eq_true, false_implies, and_true, true_and, if_false, Bool.false_eq_true]; exact hk
      · have q2 : ¬ w ≤ 7 := by
          rw [i32le, show (7 : Int32).toInt = 7 by decide]
          have := (inN_f ew).resolve_left q
          omega
        simp only [q, q2, true_implies, not_true_eq_false, not_false_eq_true, false_implies, and_true, true_and, if_false, Bool.false_eq_true]; exact hk
    | true =>
      obtain ⟨m, hm, rfl⟩ := inN_t ew
      have q2 : (nI m ≤ 7) = True := by rw [show (7 : Int32) = nI 7 from rfl, le_nI (by omega) (by omega)]; exact eq_true (by omega)
      have m0 : (nI m = 0) = (m = 0) := n0E (by omega)
      have m4 : (nI m ≤ 4) = (m ≤ 4) := le_nI (b := 4) (by omega) (by omega)
      have m4' : ((4 : Int32) < nI m) = (4 < m) := lt_nI (a := 4) (by omega) (by omega)
      have m5 : (nI m = 5) = (m = 5) := eq_nI (b := 5) (by omega) (by omega)
      have m6 : (nI m = 6) = (m = 6) := eq_nI (b := 6) (by omega) (by omega)
      rw [nI_clamp (show m < 2 ^ 31 by omega)]
      simp only [nneg (show m < 2 ^ 31 by omega), q2, m0, m4, m5, m6, true_implies, not_true_eq_false, not_false_eq_true, false_implies, and_true, true_and, if_true, bk_109.2.2.2.1, mmE, mmE0, mmH, mT, mR, mRf, mAl, mAs, mAz, mAn, Int.reduceToNat, Int32.reduceOfInt, Int64.reduceOfInt, Int.reduceAdd, swE, Nat.reduceDiv, Nat.reduceMod, Nat.reduceAdd, Nat.reduceMul, Nat.reduceEqDiff, Nat.reduceLeDiff, Nat.zero_le, List.length_nil, List.length_cons, Nat.zero_add, true_or, or_true, false_or, or_false, true_and, and_true, and_self, mb_01, mb_t, mb_f, t1, r1, Option.toList_some, Option.toList_none, List.cons_append, List.nil_append, c_kindOf, kind_n f1]
      by_cases k0 : m = 0
      · simp only [eq_true k0, true_implies, not_true_eq_false, not_false_eq_true, false_implies, and_true, true_and, if_true]
        exact ⟨rfl, h, frC_rf⟩
      · simp only [k0, true_implies, not_true_eq_false, not_false_eq_true, false_implies, and_true, true_and, if_false, bk_109.2.2.2.2.1, mmE, mmE0, mmH, mT, mR, mRf, mAl, mAs, mAz, mAn, Int.reduceToNat, Int32.reduceOfInt, Int64.reduceOfInt, Int.reduceAdd, swE, Nat.reduceDiv, Nat.reduceMod, Nat.reduceAdd, Nat.reduceMul, Nat.reduceEqDiff, Nat.reduceLeDiff, Nat.zero_le, List.length_nil, List.length_cons, Nat.zero_add, true_or, or_true, false_or, or_false, true_and, and_true, and_self, mb_01, mb_t, mb_f, m4']
        by_cases k4 : m ≤ 4
        · have k4' : ¬ 4 < m := by omega
          have c4 : nI m - 1 = nI (m - 1) := by rw [show (1 : Int32) = nI 1 from rfl, nI_sub (by omega)]
          simp only [k4, k4', c4, true_implies, not_true_eq_false, not_false_eq_true, false_implies, and_true, true_and, if_true, t1, r1, mmE, mmE0, mmH, mT, mR, mRf, mAl, mAs, mAz, mAn, Int.reduceToNat, Int32.reduceOfInt, Int64.reduceOfInt, Int.reduceAdd, swE, Nat.reduceDiv, Nat.reduceMod, Nat.reduceAdd, Nat.reduceMul, Nat.reduceEqDiff, Nat.reduceLeDiff, Nat.zero_le, List.length_nil, List.length_cons, Nat.zero_add, true_or, or_true, false_or, or_false, true_and, and_true, and_self, mb_01, mb_t, mb_f, Option.toList_some, Option.toList_none, List.cons_append, List.nil_append, c_pI hF (show m - 1 < 4 by omega)]
          exact ⟨rfl, h, frC_rf⟩
        · have k4' : 4 < m := by omega
          simp only [k4, k4', true_implies, not_true_eq_false, not_false_eq_true, false_implies, and_true, true_and, if_false, bk_109.2.2.2.2.2.1, bk_109.2.2.2.2.2.2.1, bk_109.2.2.2.2.2.2.2.1, bk_109.2.2.2.2.2.2.2.2, mmE, mmE0, mmH, mT, mR, mRf, mAl, mAs, mAz, mAn, Int.reduceToNat, Int32.reduceOfInt, Int64.reduceOfInt, Int.reduceAdd, swE, Nat.reduceDiv, Nat.reduceMod, Nat.reduceAdd, Nat.reduceMul, Nat.reduceEqDiff, Nat.reduceLeDiff, Nat.zero_le, List.length_nil, List.length_cons, Nat.zero_add, true_or, or_true, false_or, or_false, true_and, and_true, and_self, mb_01, mb_t, mb_f, m5, m6, t1, r2, r3, r4]
          by_cases k5 : m = 5
          · simp only [eq_true k5, true_implies, not_true_eq_false, not_false_eq_true, false_implies, and_true, true_and, if_true]
            exact ⟨rfl, h, frC_rf⟩
          · simp only [k5, true_implies, not_true_eq_false, not_false_eq_true, false_implies, and_true, true_and, if_false]
            by_cases k6 : m = 6
            · simp only [eq_true k6, true_implies, not_true_eq_false, not_false_eq_true, false_implies, and_true, true_and, if_true]
              exact ⟨rfl, h, frC_rf⟩
            · simp only [k6, true_implies, not_true_eq_false, not_false_eq_true, false_implies, and_true, true_and, if_false]
              exact ⟨rfl, h, frC_rf⟩
theorem pM_fact {r w : Int32} (hv : va s) (h : repM I J s) : mm_call z (d + 4) 162 [.ref 127, .int r, .int w] I J (okM I J (o_fact s r w)) := by
  unfold o_fact
  simp only [ce_162, bk_162.1, bk_162.2.1, mmE, mmE0, mmH, mT, mR, mRf, mAl, mAs, mAz, mAn, Int.reduceToNat, Int32.reduceOfInt, Int64.reduceOfInt, Int.reduceAdd, swE, Nat.reduceDiv, Nat.reduceMod, Nat.reduceAdd, Nat.reduceMul, Nat.reduceEqDiff, Nat.reduceLeDiff, Nat.zero_le, List.length_nil, List.length_cons, Nat.zero_add, true_or, or_true, false_or, or_false, true_and, and_true, and_self, mb_01, mb_t, mb_f, Option.toList_some, Option.toList_none, List.cons_append, List.nil_append, c_isRG hv h, mb_0, c_in, in_7]
  cases er : inG s r with
  | false =>
    simp only [true_implies, not_true_eq_false, not_false_eq_true, false_implies, and_true, true_and, if_false, Bool.false_eq_true]
    exact ⟨rfl, h, frM_rf⟩
  | true =>
    obtain ⟨r, hr, rfl, hr2⟩ := inG_t hv er
    obtain ⟨r1, r2, r3, r4, r5, r6, r7⟩ := rM_of h hr2
    rw [nI_clamp (show r < 2 ^ 31 by omega)]
    simp only [true_implies, not_true_eq_false, not_false_eq_true, false_implies, and_true, true_and, if_true, Bool.true_eq_false]
    cases ew : inN 8 w with
    | false =>
      simp only [true_implies, not_true_eq_false, not_false_eq_true, false_implies, and_true, true_and, if_false, Bool.false_eq_true]
      exact ⟨rfl, h, frM_rf⟩
    | true =>
      obtain ⟨m, hm, rfl⟩ := inN_t ew
      have m0 : (nI m = 0) = (m = 0) := n0E (by omega)
      have m4 : (nI m ≤ 4) = (m ≤ 4) := le_nI (b := 4) (by omega) (by omega)
      have m4' : ((5 : Int32) ≤ nI m) = (5 ≤ m) := le_nI (a := 5) (by omega) (by omega)
      have m5 : (nI m = 5) = (m = 5) := eq_nI (b := 5) (by omega) (by omega)
      have m6 : (nI m = 6) = (m = 6) := eq_nI (b := 6) (by omega) (by omega)
      rw [nI_clamp (show m < 2 ^ 31 by omega)]
      simp only [m0, m4, m5, m6, true_implies, not_true_eq_false, not_false_eq_true, false_implies, and_true, true_and, if_true, Bool.true_eq_false, bk_162.2.2.1, bk_162.2.2.2.2.2.2.2, mmE, mmE0, mmH, mT, mR, mRf, mAl, mAs, mAz, mAn, Int.reduceToNat, Int32.reduceOfInt, Int64.reduceOfInt, Int.reduceAdd, swE, Nat.reduceDiv, Nat.reduceMod, Nat.reduceAdd, Nat.reduceMul, Nat.reduceEqDiff, Nat.reduceLeDiff, Nat.zero_le, List.length_nil, List.length_cons, Nat.zero_add, true_or, or_true, false_or, or_false, true_and, and_true, and_self, mb_01, mb_t, mb_f, ix41 (show r < 41 by omega), r1]
      by_cases k0 : m = 0
      · simp only [eq_true k0, true_implies, not_true_eq_false, not_false_eq_true, false_implies, and_true, true_and, if_true]
        exact ⟨rfl, h, frM_rf⟩
      · simp only [k0, true_implies, not_true_eq_false, not_false_eq_true, false_implies, and_true, true_and, if_false, bk_162.2.2.2.1, bk_162.2.2.2.2.2.2.2, mmE, mmE0, mmH, mT, mR, mRf, mAl, mAs, mAz, mAn, Int.reduceToNat, Int32.reduceOfInt, Int64.reduceOfInt, Int.reduceAdd, swE, Nat.reduceDiv, Nat.reduceMod, Nat.reduceAdd, Nat.reduceMul, Nat.reduceEqDiff, Nat.reduceLeDiff, Nat.zero_le, List.length_nil, List.length_cons, Nat.zero_add, true_or, or_true, false_or, or_false, true_and, and_true, and_self, mb_01, mb_t, mb_f, m4']
        by_cases k4 : m ≤ 4
        · have k4' : ¬ 5 ≤ m := by omega
          have c4 : nI (4 * r + m) - 1 = nI (4 * r + (m - 1)) := by
            rw [show (1 : Int32) = nI 1 from rfl, nI_sub (by omega)]
            congr 1
            omega
          simp only [k4, k4', i4, c4, true_implies, not_true_eq_false, not_false_eq_true, false_implies, and_true, true_and, if_true, ix164 (show 4 * r + (m - 1) < 164 by omega), r2 (m - 1) (by omega)]
          exact ⟨rfl, h, frM_rf⟩
        · have k4' : 5 ≤ m := by omega
          simp only [k4, k4', true_implies, not_true_eq_false, not_false_eq_true, false_implies, and_true, true_and, if_false, bk_162.2.2.2.2.1, bk_162.2.2.2.2.2.1, bk_162.2.2.2.2.2.2.1, bk_162.2.2.2.2.2.2.2, mmE, mmE0, mmH, mT, mR, mRf, mAl, mAs, mAz, mAn, Int.reduceToNat, Int32.reduceOfInt, Int64.reduceOfInt, Int.reduceAdd, swE, Nat.reduceDiv, Nat.reduceMod, Nat.reduceAdd, Nat.reduceMul, Nat.reduceEqDiff, Nat.reduceLeDiff, Nat.zero_le, List.length_nil, List.length_cons, Nat.zero_add, true_or, or_true, false_or, or_false, true_and, and_true, and_self, mb_01, mb_t, mb_f, m5, m6, ix41 (show r < 41 by omega), r4, r5, r6]
          by_cases k5 : m = 5
          · simp only [eq_true k5, true_implies, not_true_eq_false, not_false_eq_true, false_implies, and_true, true_and, if_true]
            exact ⟨rfl, h, frM_rf⟩
          · simp only [k5, true_implies, not_true_eq_false, not_false_eq_true, false_implies, and_true, true_and, if_false]
            by_cases k6 : m = 6
            · simp only [eq_true k6, true_implies, not_true_eq_false, not_false_eq_true, false_implies, and_true, true_and, if_true]
              exact ⟨rfl, h, frM_rf⟩
            · simp only [k6, true_implies, not_true_eq_false, not_false_eq_true, false_implies, and_true, true_and, if_false]
              exact ⟨rfl, h, frM_rf⟩
theorem pC_alike {r k a b c e : Int32} (hv : va s) (h : repC I J s) : mm_call z (d + 4) 111 [.ref 0, .int r, .int k, .int a, .int b, .int c, .int e] I J (okC I J (o_alike s r k a b c e)) := by
  obtain ⟨⟨a1, a2, a3, a4⟩, _⟩ := id h
  have v1 := hv.1.1
  unfold o_alike
  simp only [ce_111, bk_111.1, mmE, mmE0, mmH, mT, mR, mRf, mAl, mAs, mAz, mAn, Int.reduceToNat, Int32.reduceOfInt, Int64.reduceOfInt, Int.reduceAdd, swE, Nat.reduceDiv, Nat.reduceMod, Nat.reduceAdd, Nat.reduceMul, Nat.reduceEqDiff, Nat.reduceLeDiff, Nat.zero_le, List.length_nil, List.length_cons, Nat.zero_add, true_or, or_true, false_or, or_false, true_and, and_true, and_self, mb_01, mb_t, mb_f]
  cases er : inG s r with
  | false =>
    simp only [c_rog_no hv h er, ce_111, bk_111, mmE, mmE0, mmH, mT, mR, mRf, mAl, mAs, mAz, mAn, Int.reduceToNat, Int32.reduceOfInt, Int64.reduceOfInt, Int.reduceAdd, swE, Nat.reduceDiv, Nat.reduceMod, Nat.reduceAdd, Nat.reduceMul, Nat.reduceEqDiff, Nat.reduceLeDiff, Nat.zero_le, List.length_nil, List.length_cons, Nat.zero_add, true_or, or_true, false_or, or_false, true_and, and_true, and_self, mb_01, mb_t, mb_f, Option.toList_some, Option.toList_none, List.cons_append, List.nil_append, true_implies, not_true_eq_false, not_false_eq_true, false_implies, and_true, true_and, if_false, Bool.false_eq_true]
    exact ⟨rfl, h, frC_rf⟩
  | true =>
    obtain ⟨r, hr, rfl, hr2⟩ := inG_t hv er
    obtain ⟨t1, t2, t3⟩ := mTc hr
    have r1 := (rC_of h hr2).1
    have f1 := isF_lt (isP_F v1 (row_of hv hr2).1)
    rw [nI_clamp (show r < 2 ^ 31 by omega)]
    simp only [c_rog hv h hr2, bk_111.2.1, mmE, mmE0, mmH, mT, mR, mRf, mAl, mAs, mAz, mAn, Int.reduceToNat, Int32.reduceOfInt, Int64.reduceOfInt, Int.reduceAdd, swE, Nat.reduceDiv, Nat.reduceMod, Nat.reduceAdd, Nat.reduceMul, Nat.reduceEqDiff, Nat.reduceLeDiff, Nat.zero_le, List.length_nil, List.length_cons, Nat.zero_add, true_or, or_true, false_or, or_false, true_and, and_true, and_self, mb_01, mb_t, mb_f, Option.toList_some, Option.toList_none, List.cons_append, List.nil_append, true_implies, not_true_eq_false, not_false_eq_true, false_implies, and_true, true_and, c_factOf v1 a1, if_true]
    cases en : n_fact (sNp s) k a b c e with
    | none =>
      simp only [eI_none, true_implies, not_true_eq_false, not_false_eq_true, false_implies, and_true, true_and]
      exact ⟨rfl, h, frC_rf⟩
    | some g =>
      have g1 := isF_lt (isP_F v1 (n_fact_P v1 en))
      have gm : (nI g = -1) = False := eq_false (nI_m1' (by omega))
      have ge : (nI g = nI (sR s r).1) = (g = (sR s r).1) := eq_nI (by omega) (by omega)
      simp only [eI_some, gm, true_implies, not_true_eq_false, not_false_eq_true, false_implies, and_true, true_and, bk_111.2.2.1, bk_111.2.2.2.1, bk_111.2.2.2.2, mmE, mmE0, mmH, mT, mR, mRf, mAl, mAs, mAz, mAn, Int.reduceToNat, Int32.reduceOfInt, Int64.reduceOfInt, Int.reduceAdd, swE, Nat.reduceDiv, Nat.reduceMod, Nat.reduceAdd, Nat.reduceMul, Nat.reduceEqDiff, Nat.reduceLeDiff, Nat.zero_le, List.length_nil, List.length_cons, Nat.zero_add, true_or, or_true, false_or, or_false, true_and, and_true, and_self, mb_01, mb_t, mb_f, t1, r1, ge]
      by_cases q : g = (sR s r).1
      · simp only [eq_true q, true_implies, not_true_eq_false, not_false_eq_true, false_implies, and_true, true_and, if_true]
        exact ⟨rfl, h, frC_rf⟩
      · simp only [q, true_implies, not_true_eq_false, not_false_eq_true, false_implies, and_true, true_and, if_false]
        exact ⟨rfl, h, frC_rf⟩
theorem pM_alike {r k a b c e : Int32} (hv : va s) (h : repM I J s) : mm_call z (d + 4) 166 [.ref 127, .int r, .int k, .int a, .int b, .int c, .int e] I J (okM I J (o_alike s r k a b c e)) := by
  obtain ⟨⟨a1, a2, a3, a4⟩, _⟩ := id h
  have v1 := hv.1.1
  unfold o_alike
  simp only [ce_166, bk_166.1, bk_166.2.1, bk_166.2.2.2.2, mmE, mmE0, mmH, mT, mR, mRf, mAl, mAs, mAz, mAn, Int.reduceToNat, Int32.reduceOfInt, Int64.reduceOfInt, Int.reduceAdd, swE, Nat.reduceDiv, Nat.reduceMod, Nat.reduceAdd, Nat.reduceMul, Nat.reduceEqDiff, Nat.reduceLeDiff, Nat.zero_le, List.length_nil, List.length_cons, Nat.zero_add, true_or, or_true, false_or, or_false, true_and, and_true, and_self, mb_01, mb_t, mb_f, Option.toList_some, Option.toList_none, List.cons_append, List.nil_append, c_isRG hv h, mb_0, c_slot v1 a1, slot_fact v1]
  cases er : inG s r with
  | false =>
    simp only [true_implies, not_true_eq_false, not_false_eq_true, false_implies, and_true, true_and, if_false, Bool.false_eq_true]
    exact ⟨rfl, h, frM_rf⟩
  | true =>
    obtain ⟨r, hr, rfl, hr2⟩ := inG_t hv er
    have r3 := (rM_of h hr2).2.2.1
    have fF := isP_F v1 (row_of hv hr2).1
    rw [nI_clamp (show r < 2 ^ 31 by omega)]
    simp only [true_implies, not_true_eq_false, not_false_eq_true, false_implies, and_true, true_and, if_true, Bool.true_eq_false]
    cases en : n_fact (sNp s) k a b c e with
    | none =>
      have m1 : (0 ≤ eI (Option.map sl (none : Option Nat))) = False := by decide
      simp only [m1, true_implies, not_true_eq_false, not_false_eq_true, false_implies, and_true, true_and]
      exact ⟨rfl, h, frM_rf⟩
    | some g =>
      have gF := isP_F v1 (n_fact_P v1 en)
      have sg := (un_sl gF).2
      have sf := (un_sl fF).2
      have m1 : (0 ≤ eI (Option.map sl (some g))) = True := by
        show (0 ≤ nI (sl g)) = True
        rw [show (0 : Int32) = nI 0 from rfl, le_nI (by omega) (by omega)]
        exact eq_true (by omega)
      have ge : (eI (Option.map sl (some g)) = nI (sl (sR s r).1)) = (g = (sR s r).1) := by
        show (nI (sl g) = nI (sl (sR s r).1)) = _
        rw [eq_nI (by omega) (by omega)]
        exact propext (sl_inj gF fF)
      simp only [m1, true_implies, not_true_eq_false, not_false_eq_true, false_implies, and_true, true_and, bk_166.2.2.1, bk_166.2.2.2.1, bk_166.2.2.2.2, mmE, mmE0, mmH, mT, mR, mRf, mAl, mAs, mAz, mAn, Int.reduceToNat, Int32.reduceOfInt, Int64.reduceOfInt, Int.reduceAdd, swE, Nat.reduceDiv, Nat.reduceMod, Nat.reduceAdd, Nat.reduceMul, Nat.reduceEqDiff, Nat.reduceLeDiff, Nat.zero_le, List.length_nil, List.length_cons, Nat.zero_add, true_or, or_true, false_or, or_false, true_and, and_true, and_self, mb_01, mb_t, mb_f, ix41 (show r < 41 by omega), r3, ge]
      by_cases q : g = (sR s r).1
      · simp only [eq_true q, true_implies, not_true_eq_false, not_false_eq_true, false_implies, and_true, true_and, if_true]
        exact ⟨rfl, h, frM_rf⟩
      · simp only [q, true_implies, not_true_eq_false, not_false_eq_true, false_implies, and_true, true_and, if_false]
        exact ⟨rfl, h, frM_rf⟩
theorem ix6 {x : Nat} (h : x < 6) : vp_in (nI x) 6 = True ∧ (nI x).toNatClampNeg = x ∧ (nI x < 6) = True := ⟨eq_true (vp_in_nI h (by decide)), nI_clamp (by omega), eq_true (nI_lt (b := 6) h (by decide))⟩
theorem c_ofAt {c i : Nat} {x : rw_T} (hT : mm_T c = (4, 10)) (hT1 : mm_T (c + 1) = (100, 6)) (hR : mm_R c 4 = some (c + 1)) (h : rC_row I c x) (hl : x.2.2.2.length ≤ 6) (hi : i < x.2.2.2.length) (Q : Option Value → mm_I → mm_J → Prop) : mm_call z (d + 1) 66 [.ref c, .int (nI i)] I J Q = Q (some (.int (nI (x.2.2.2.getD i 0)))) I J := by
  refine mm_ev ?_ Q
  have c1 : (nI x.2.2.2.length ≤ nI i) = False := by rw [le_nI (by omega) (by omega)]; exact eq_false (by omega)
  simp only [ce_66, bk_66, mmE, mmE0, mmH, mT, mR, mRf, mAl, mAs, mAz, mAn, Int.reduceToNat, Int32.reduceOfInt, Int64.reduceOfInt, Int.reduceAdd, swE, Nat.reduceDiv, Nat.reduceMod, Nat.reduceAdd, Nat.reduceMul, Nat.reduceEqDiff, Nat.reduceLeDiff, Nat.zero_le, List.length_nil, List.length_cons, Nat.zero_add, true_or, or_true, false_or, or_false, true_and, and_true, and_self, mb_01, mb_t, mb_f, hT, hT1, hR, h.2.2.2.1, nneg (show i < 2 ^ 31 by omega), c1, ix6 (show i < 6 by omega), h.2.2.2.2 i hi, true_implies, not_true_eq_false, not_false_eq_true, false_implies, and_true, true_and]
theorem pC_because {r i : Int32} (hv : va s) (h : repC I J s) : mm_call z (d + 2) 110 [.ref 0, .int r, .int i] I J (okC I J (o_because s r i)) := by
  obtain ⟨⟨a1, a2, a3, a4⟩, _, _, _, hg, _⟩ := id h
  have v3 := hv.1.2.2.1
  unfold o_because
  simp only [ce_110, bk_110.1, mmE, mmE0, mmH, mT, mR, mRf, mAl, mAs, mAz, mAn, Int.reduceToNat, Int32.reduceOfInt, Int64.reduceOfInt, Int.reduceAdd, swE, Nat.reduceDiv, Nat.reduceMod, Nat.reduceAdd, Nat.reduceMul, Nat.reduceEqDiff, Nat.reduceLeDiff, Nat.zero_le, List.length_nil, List.length_cons, Nat.zero_add, true_or, or_true, false_or, or_false, true_and, and_true, and_self, mb_01, mb_t, mb_f]
  cases er : inR (sNr s) r with
  | false =>
    simp only [c_rowAt_no v3 a3 er, ce_110, bk_110, mmE, mmE0, mmH, mT, mR, mRf, mAl, mAs, mAz, mAn, Int.reduceToNat, Int32.reduceOfInt, Int64.reduceOfInt, Int.reduceAdd, swE, Nat.reduceDiv, Nat.reduceMod, Nat.reduceAdd, Nat.reduceMul, Nat.reduceEqDiff, Nat.reduceLeDiff, Nat.zero_le, List.length_nil, List.length_cons, Nat.zero_add, true_or, or_true, false_or, or_false, true_and, and_true, and_self, mb_01, mb_t, mb_f, Option.toList_some, Option.toList_none, List.cons_append, List.nil_append, true_implies, not_true_eq_false, not_false_eq_true, false_implies, and_true, true_and, if_false, Bool.false_and, Bool.false_eq_true]
    exact ⟨rfl, h, frC_rf⟩
  | true =>
    obtain ⟨r, h1, h2, rfl⟩ := inR_t er
    obtain ⟨t1, t2, t3, _⟩ := mTr4 r (by omega) h1
    have hr := hg r h1 h2
    have hl := (hv.2.2.2.1 r h1 h2).2.2.2.1
    rw [nI_clamp (show r < 2 ^ 31 by omega)]
    simp only [c_rowAt v3 a3 h1 h2, mmE, mmE0, mmH, mT, mR, mRf, mAl, mAs, mAz, mAn, Int.reduceToNat, Int32.reduceOfInt, Int64.reduceOfInt, Int.reduceAdd, swE, Nat.reduceDiv, Nat.reduceMod, Nat.reduceAdd, Nat.reduceMul, Nat.reduceEqDiff, Nat.reduceLeDiff, Nat.zero_le, List.length_nil, List.length_cons, Nat.zero_add, true_or, or_true, false_or, or_false, true_and, and_true, and_self, mb_01, mb_t, mb_f, Option.toList_some, Option.toList_none, List.cons_append, List.nil_append, true_implies, not_true_eq_false, not_false_eq_true, false_implies, and_true, true_and, t1, hr.2.2.2.1, Bool.true_and]
    cases ei : inN (sR s r).2.2.2.length i with
    | false =>
      have hk : okC I J ((-1 : Int32), s) (some (.int (-1))) I J := ⟨rfl, h, frC_rf⟩
      simp only [bk_110.2.1, mmE, mmE0, mmH, mT, mR, mRf, mAl, mAs, mAz, mAn, Int.reduceToNat, Int32.reduceOfInt, Int64.reduceOfInt, Int.reduceAdd, swE, Nat.reduceDiv, Nat.reduceMod, Nat.reduceAdd, Nat.reduceMul, Nat.reduceEqDiff, Nat.reduceLeDiff, Nat.zero_le, List.length_nil, List.length_cons, Nat.zero_add, true_or, or_true, false_or, or_false, true_and, and_true, and_self, mb_01, mb_t, mb_f]
      by_cases q : i < 0
      · simp only [q, true_implies, not_true_eq_false, not_false_eq_true, false_implies, and_true, true_and, if_false, Bool.false_eq_true]; exact hk
      · have q2 : ¬ i < nI (sR s r).2.2.2.length := by
          rw [i32lt, nI_toInt (by omega)]
          have := (inN_f ei).resolve_left q
          omega
        simp only [q, q2, true_implies, not_true_eq_false, not_false_eq_true, false_implies, and_true, true_and, if_false, Bool.false_eq_true]; exact hk
    | true =>
      obtain ⟨m, hm, rfl⟩ := inN_t ei
      have q2 : (nI m < nI (sR s r).2.2.2.length) = True := by rw [lt_nI (by omega) (by omega)]; exact eq_true hm
      simp only [nneg (show m < 2 ^ 31 by omega), q2, true_implies, not_true_eq_false, not_false_eq_true, false_implies, and_true, true_and, if_true, bk_110.2.2, mmE, mmE0, mmH, mT, mR, mRf, mAl, mAs, mAz, mAn, Int.reduceToNat, Int32.reduceOfInt, Int64.reduceOfInt, Int.reduceAdd, swE, Nat.reduceDiv, Nat.reduceMod, Nat.reduceAdd, Nat.reduceMul, Nat.reduceEqDiff, Nat.reduceLeDiff, Nat.zero_le, List.length_nil, List.length_cons, Nat.zero_add, true_or, or_true, false_or, or_false, true_and, and_true, and_self, mb_01, mb_t, mb_f, t1, Option.toList_some, Option.toList_none, List.cons_append, List.nil_append, c_ofAt t1 t2 t3 hr hl hm]
      rw [nI_clamp (show m < 2 ^ 31 by omega)]
      exact ⟨rfl, h, frC_rf⟩
theorem ix246 {x : Nat} (h : x < 246) : vp_in (nI x) 246 = True ∧ (nI x).toNatClampNeg = x := ⟨eq_true (vp_in_nI h (by decide)), nI_clamp (by omega)⟩
theorem i6 (r k : Nat) : (6 : Int32) * nI r + nI k = nI (6 * r + k) := by
  rw [show (6 : Int32) = nI 6 from rfl, nI_mul, nI_add]
theorem pM_because {r i : Int32} (hv : va s) (h : repM I J s) : mm_call z (d + 3) 165 [.ref 127, .int r, .int i] I J (okM I J (o_because s r i)) := by
  obtain ⟨_, _, _, _, hg, _⟩ := id h
  have v3 := hv.1.2.2.1
  unfold o_because
  simp only [ce_165, bk_165.1, bk_165.2.1, bk_165.2.2, mmE, mmE0, mmH, mT, mR, mRf, mAl, mAs, mAz, mAn, Int.reduceToNat, Int32.reduceOfInt, Int64.reduceOfInt, Int.reduceAdd, swE, Nat.reduceDiv, Nat.reduceMod, Nat.reduceAdd, Nat.reduceMul, Nat.reduceEqDiff, Nat.reduceLeDiff, Nat.zero_le, List.length_nil, List.length_cons, Nat.zero_add, true_or, or_true, false_or, or_false, true_and, and_true, and_self, mb_01, mb_t, mb_f, Option.toList_some, Option.toList_none, List.cons_append, List.nil_append, c_isRow hv h, mb_0]
  cases er : inR (sNr s) r with
  | false =>
    simp only [true_implies, not_true_eq_false, not_false_eq_true, false_implies, and_true, true_and, if_false, Bool.false_and, Bool.false_eq_true]
    exact ⟨rfl, h, frM_rf⟩
  | true =>
    obtain ⟨r, h1, h2, rfl⟩ := inR_t er
    obtain ⟨r1, r2, r3, r4, r5, r6, r7⟩ := hg r h1 h2
    have hl := (hv.2.2.2.1 r h1 h2).2.2.2.1
    rw [nI_clamp (show r < 2 ^ 31 by omega)]
    simp only [true_implies, not_true_eq_false, not_false_eq_true, false_implies, and_true, true_and, Bool.true_eq_false, ix41 (show r < 41 by omega), r6, c_in, in_np (show (sR s r).2.2.2.length ≤ 10000 by omega), mb_0, Bool.true_and, mmE, mmE0, mmH, mT, mR, mRf, mAl, mAs, mAz, mAn, Int.reduceToNat, Int32.reduceOfInt, Int64.reduceOfInt, Int.reduceAdd, swE, Nat.reduceDiv, Nat.reduceMod, Nat.reduceAdd, Nat.reduceMul, Nat.reduceEqDiff, Nat.reduceLeDiff, Nat.zero_le, List.length_nil, List.length_cons, Nat.zero_add, true_or, or_true, false_or, or_false, true_and, and_true, and_self, mb_01, mb_t, mb_f, Option.toList_some, Option.toList_none, List.cons_append, List.nil_append, bk_165.2.1, bk_165.2.2]
    cases ei : inN (sR s r).2.2.2.length i with
    | false =>
      simp only [true_implies, not_true_eq_false, not_false_eq_true, false_implies, and_true, true_and, if_false, Bool.false_eq_true]
      exact ⟨rfl, h, frM_rf⟩
    | true =>
      obtain ⟨m, hm, rfl⟩ := inN_t ei
      simp only [true_implies, not_true_eq_false, not_false_eq_true, false_implies, and_true, true_and, if_true, Bool.true_eq_false, i6, ix246 (show 6 * r + m < 246 by omega), r7 m hm]
      rw [nI_clamp (show m < 2 ^ 31 by omega)]
      exact ⟨rfl, h, frM_rf⟩
end OF
