/-! calls about grades -/
def o_verdict (s : st_T) (r : Int32) : op_T := (if inR (sNr s) r then (if sGd s = true then nI (sG s r.toNatClampNeg).2.1 else -3) else -1, s)
def o_way (s : st_T) (r : Int32) : op_T := (if inR (sNr s) r then (if sGd s = true then nI (sG s r.toNatClampNeg).2.2.1 else -3) else -1, s)
def o_gap (s : st_T) (r : Int32) : op_T := (if inR (sNr s) r then (if sGd s = true then nI (sG s r.toNatClampNeg).2.2.2.1 else -3) else -1, s)
def o_counter (s : st_T) (r : Int32) : op_T := (if inR (sNr s) r then (if sGd s = true then (sG s r.toNatClampNeg).2.2.2.2 else -3) else -1, s)
def o_order (s : st_T) (r : Int32) : op_T := (if inR (sNr s) r then (if sGd s = true then (if (sG s r.toNatClampNeg).1 = 0 then -5 else nI (sG s r.toNatClampNeg).1) else -3) else -1, s)
def o_circle (s : st_T) (i : Int32) : op_T := (if sGd s = true then (if inN (sC s).length i then nI ((sC s).getD i.toNatClampNeg 0) else -5) else -3, s)
section PV
variable {z : mm_S} {d : Nat} {I : mm_I} {J : mm_J} {s : st_T}
theorem c_refusal {x : Int32} (hv : va s) (h : repM I J s) (Q : Option Value → mm_I → mm_J → Prop) : mm_call z (d + 3) 188 [.ref 127, .int x] I J Q = Q (some (.int (if inR (sNr s) x then (if sGd s = true then 0 else -3) else -1))) I J := by
  refine mm_ev ?_ Q
  have hg := h.2.2.2.2.2.2.1
  simp only [ce_188, bk_188, mmE, mmE0, mmH, mT, mR, mRf, mAl, mAs, mAz, mAn, Int.reduceToNat, Int32.reduceOfInt, Int64.reduceOfInt, Int.reduceAdd, swE, Nat.reduceDiv, Nat.reduceMod, Nat.reduceAdd, Nat.reduceMul, Nat.reduceEqDiff, Nat.reduceLeDiff, Nat.zero_le, List.length_nil, List.length_cons, Nat.zero_add, true_or, or_true, false_or, or_false, true_and, and_true, and_self, mb_01, mb_t, mb_f, Option.toList_some, Option.toList_none, List.cons_append, List.nil_append, c_isRow hv h, mb_0, hg]
  cases e : inR (sNr s) x with
  | false => simp only [true_implies, not_true_eq_false, not_false_eq_true, false_implies, and_true, true_and, if_false, Bool.false_eq_true]
  | true =>
    cases e2 : sGd s with
    | true => simp only [true_implies, not_true_eq_false, not_false_eq_true, false_implies, and_true, true_and, if_true, Bool.true_eq_false]
    | false => simp only [true_implies, not_true_eq_false, not_false_eq_true, false_implies, and_true, true_and, if_true, if_false, Bool.true_eq_false, Bool.false_eq_true]
theorem pC_verdict {r : Int32} (hv : inv s) (h : repC I J s) : mm_call z (d + 2) 113 [.ref 0, .int r] I J (okC I J (o_verdict s r)) := by
  obtain ⟨⟨a1, a2, a3, a4⟩, _, _, _, _, _, hg, hr⟩ := id h
  have v3 := hv.1.1.2.2.1
  unfold o_verdict
  simp only [ce_113, bk_113.1, mmE, mmE0, mmH, mT, mR, mRf, mAl, mAs, mAz, mAn, Int.reduceToNat, Int32.reduceOfInt, Int64.reduceOfInt, Int.reduceAdd, swE, Nat.reduceDiv, Nat.reduceMod, Nat.reduceAdd, Nat.reduceMul, Nat.reduceEqDiff, Nat.reduceLeDiff, Nat.zero_le, List.length_nil, List.length_cons, Nat.zero_add, true_or, or_true, false_or, or_false, true_and, and_true, and_self, mb_01, mb_t, mb_f]
  cases er : inR (sNr s) r with
  | false =>
    simp only [c_rowAt_no v3 a3 er, ce_113, bk_113, mmE, mmE0, mmH, mT, mR, mRf, mAl, mAs, mAz, mAn, Int.reduceToNat, Int32.reduceOfInt, Int64.reduceOfInt, Int.reduceAdd, swE, Nat.reduceDiv, Nat.reduceMod, Nat.reduceAdd, Nat.reduceMul, Nat.reduceEqDiff, Nat.reduceLeDiff, Nat.zero_le, List.length_nil, List.length_cons, Nat.zero_add, true_or, or_true, false_or, or_false, true_and, and_true, and_self, mb_01, mb_t, mb_f, Option.toList_some, Option.toList_none, List.cons_append, List.nil_append, true_implies, not_true_eq_false, not_false_eq_true, false_implies, and_true, true_and, if_false, Bool.false_eq_true]
    exact ⟨rfl, h, frC_rf⟩
  | true =>
    obtain ⟨r, h1, h2, rfl⟩ := inR_t er
    obtain ⟨t1, _⟩ := mTr4 r (by omega) h1
    rw [nI_clamp (show r < 2 ^ 31 by omega)]
    simp only [c_rowAt v3 a3 h1 h2, bk_113.2.1, bk_113.2.2.1, bk_113.2.2.2, mmE, mmE0, mmH, mT, mR, mRf, mAl, mAs, mAz, mAn, Int.reduceToNat, Int32.reduceOfInt, Int64.reduceOfInt, Int.reduceAdd, swE, Nat.reduceDiv, Nat.reduceMod, Nat.reduceAdd, Nat.reduceMul, Nat.reduceEqDiff, Nat.reduceLeDiff, Nat.zero_le, List.length_nil, List.length_cons, Nat.zero_add, true_or, or_true, false_or, or_false, true_and, and_true, and_self, mb_01, mb_t, mb_f, Option.toList_some, Option.toList_none, List.cons_append, List.nil_append, true_implies, not_true_eq_false, not_false_eq_true, false_implies, and_true, true_and, hg, mb0, if_true]
    cases e2 : sGd s with
    | false =>
      simp only [true_implies, not_true_eq_false, not_false_eq_true, false_implies, and_true, true_and, if_false, Bool.false_eq_true]
      exact ⟨rfl, h, frC_rf⟩
    | true =>
      have g := (hr e2).1 r h1 h2
      simp only [true_implies, not_true_eq_false, not_false_eq_true, false_implies, and_true, true_and, if_true, Bool.true_eq_false, t1, g.2.1]
      exact ⟨rfl, h, frC_rf⟩
theorem pM_verdict {r : Int32} (hv : inv s) (h : repM I J s) : mm_call z (d + 4) 187 [.ref 127, .int r] I J (okM I J (o_verdict s r)) := by
  obtain ⟨_, _, _, _, _, _, hg, hr, _⟩ := id h
  have v3 := hv.1.1.2.2.1
  unfold o_verdict
  simp only [ce_187, bk_187.1, bk_187.2.1, bk_187.2.2, mmE, mmE0, mmH, mT, mR, mRf, mAl, mAs, mAz, mAn, Int.reduceToNat, Int32.reduceOfInt, Int64.reduceOfInt, Int.reduceAdd, swE, Nat.reduceDiv, Nat.reduceMod, Nat.reduceAdd, Nat.reduceMul, Nat.reduceEqDiff, Nat.reduceLeDiff, Nat.zero_le, List.length_nil, List.length_cons, Nat.zero_add, true_or, or_true, false_or, or_false, true_and, and_true, and_self, mb_01, mb_t, mb_f, Option.toList_some, Option.toList_none, List.cons_append, List.nil_append, c_refusal hv.1 h]
  have m1 : (0 ≤ (-1 : Int32)) = False ∧ (0 ≤ (-3 : Int32)) = False ∧ ((0 : Int32) ≤ 0) = True := by decide
  cases er : inR (sNr s) r with
  | false =>
    simp only [m1, true_implies, not_true_eq_false, not_false_eq_true, false_implies, and_true, true_and, if_false, Bool.false_eq_true]
    exact ⟨rfl, h, frM_rf⟩
  | true =>
    obtain ⟨r, h1, h2, rfl⟩ := inR_t er
    rw [nI_clamp (show r < 2 ^ 31 by omega)]
    cases e2 : sGd s with
    | false =>
      simp only [m1, true_implies, not_true_eq_false, not_false_eq_true, false_implies, and_true, true_and, if_true, if_false, Bool.false_eq_true]
      exact ⟨rfl, h, frM_rf⟩
    | true =>
      have g := (hr e2).1 r h1 h2
      simp only [m1, true_implies, not_true_eq_false, not_false_eq_true, false_implies, and_true, true_and, if_true, ix41 (show r < 41 by omega), g.2.1]
      exact ⟨rfl, h, frM_rf⟩
theorem pC_way {r : Int32} (hv : inv s) (h : repC I J s) : mm_call z (d + 2) 114 [.ref 0, .int r] I J (okC I J (o_way s r)) := by
  obtain ⟨⟨a1, a2, a3, a4⟩, _, _, _, _, _, hg, hr⟩ := id h
  have v3 := hv.1.1.2.2.1
  unfold o_way
  simp only [ce_114, bk_114.1, mmE, mmE0, mmH, mT, mR, mRf, mAl, mAs, mAz, mAn, Int.reduceToNat, Int32.reduceOfInt, Int64.reduceOfInt, Int.reduceAdd, swE, Nat.reduceDiv, Nat.reduceMod, Nat.reduceAdd, Nat.reduceMul, Nat.reduceEqDiff, Nat.reduceLeDiff, Nat.zero_le, List.length_nil, List.length_cons, Nat.zero_add, true_or, or_true, false_or, or_false, true_and, and_true, and_self, mb_01, mb_t, mb_f]
  cases er : inR (sNr s) r with
  | false =>
    simp only [c_rowAt_no v3 a3 er, ce_114, bk_114, mmE, mmE0, mmH, mT, mR, mRf, mAl, mAs, mAz, mAn, Int.reduceToNat, Int32.reduceOfInt, Int64.reduceOfInt, Int.reduceAdd, swE, Nat.reduceDiv, Nat.reduceMod, Nat.reduceAdd, Nat.reduceMul, Nat.reduceEqDiff, Nat.reduceLeDiff, Nat.zero_le, List.length_nil, List.length_cons, Nat.zero_add, true_or, or_true, false_or, or_false, true_and, and_true, and_self, mb_01, mb_t, mb_f, Option.toList_some, Option.toList_none, List.cons_append, List.nil_append, true_implies, not_true_eq_false, not_false_eq_true, false_implies, and_true, true_and, if_false, Bool.false_eq_true]
    exact ⟨rfl, h, frC_rf⟩
  | true =>
    obtain ⟨r, h1, h2, rfl⟩ := inR_t er
    obtain ⟨t1, _⟩ := mTr4 r (by omega) h1
    rw [nI_clamp (show r < 2 ^ 31 by omega)]
    simp only [c_rowAt v3 a3 h1 h2, bk_114.2.1, bk_114.2.2.1, bk_114.2.2.2, mmE, mmE0, mmH, mT, mR, mRf, mAl, mAs, mAz, mAn, Int.reduceToNat, Int32.reduceOfInt, Int64.reduceOfInt, Int.reduceAdd, swE, Nat.reduceDiv, Nat.reduceMod, Nat.reduceAdd, Nat.reduceMul, Nat.reduceEqDiff, Nat.reduceLeDiff, Nat.zero_le, List.length_nil, List.length_cons, Nat.zero_add, true_or, or_true, false_or, or_false, true_and, and_true, and_self, mb_01, mb_t, mb_f, Option.toList_some, Option.toList_none, List.cons_append, List.nil_append, true_implies, not_true_eq_false, not_false_eq_true, false_implies, and_true, true_and, hg, mb0, if_true]
    cases e2 : sGd s with
    | false =>
      simp only [true_implies, not_true_eq_false, not_false_eq_true, false_implies, and_true, true_and, if_false, Bool.false_eq_true]
      exact ⟨rfl, h, frC_rf⟩
    | true =>
      have g := (hr e2).1 r h1 h2
      simp only [true_implies, not_true_eq_false, not_false_eq_true, false_implies, and_true, true_and, if_true, Bool.true_eq_false, t1, g.2.2.1]
      exact ⟨rfl, h, frC_rf⟩
theorem pM_way {r : Int32} (hv : inv s) (h : repM I J s) : mm_call z (d + 4) 189 [.ref 127, .int r] I J (okM I J (o_way s r)) := by
  obtain ⟨_, _, _, _, _, _, hg, hr, _⟩ := id h
  have v3 := hv.1.1.2.2.1
  unfold o_way
  simp only [ce_189, bk_189.1, bk_189.2.1, bk_189.2.2, mmE, mmE0, mmH, mT, mR, mRf, mAl, mAs, mAz, mAn, Int.reduceToNat, Int32.reduceOfInt, Int64.reduceOfInt, Int.reduceAdd, swE, Nat.reduceDiv, Nat.reduceMod, Nat.reduceAdd, Nat.reduceMul, Nat.reduceEqDiff, Nat.reduceLeDiff, Nat.zero_le, List.length_nil, List.length_cons, Nat.zero_add, true_or, or_true, false_or, or_false, true_and, and_true, and_self, mb_01, mb_t, mb_f, Option.toList_some, Option.toList_none, List.cons_append, List.nil_append, c_refusal hv.1 h]
  have m1 : (0 ≤ (-1 : Int32)) = False ∧ (0 ≤ (-3 : Int32)) = False ∧ ((0 : Int32) ≤ 0) = True := by decide
  cases er : inR (sNr s) r with
  | false =>
    simp only [m1, true_implies, not_true_eq_false, not_false_eq_true, false_implies, and_true, true_and, if_false, Bool.false_eq_true]
    exact ⟨rfl, h, frM_rf⟩
  | true =>
    obtain ⟨r, h1, h2, rfl⟩ := inR_t er
    rw [nI_clamp (show r < 2 ^ 31 by omega)]
    cases e2 : sGd s with
    | false =>
      simp only [m1, true_implies, not_true_eq_false, not_false_eq_true, false_implies, and_true, true_and, if_true, if_false, Bool.false_eq_true]
      exact ⟨rfl, h, frM_rf⟩
    | true =>
      have g := (hr e2).1 r h1 h2
      simp only [m1, true_implies, not_true_eq_false, not_false_eq_true, false_implies, and_true, true_and, if_true, ix41 (show r < 41 by omega), g.2.2.1]
      exact ⟨rfl, h, frM_rf⟩
theorem pC_gap {r : Int32} (hv : inv s) (h : repC I J s) : mm_call z (d + 2) 115 [.ref 0, .int r] I J (okC I J (o_gap s r)) := by
  obtain ⟨⟨a1, a2, a3, a4⟩, _, _, _, _, _, hg, hr⟩ := id h
  have v3 := hv.1.1.2.2.1
  unfold o_gap
  simp only [ce_115, bk_115.1, mmE, mmE0, mmH, mT, mR, mRf, mAl, mAs, mAz, mAn, Int.reduceToNat, Int32.reduceOfInt, Int64.reduceOfInt, Int.reduceAdd, swE, Nat.reduceDiv, Nat.reduceMod, Nat.reduceAdd, Nat.reduceMul, Nat.reduceEqDiff, Nat.reduceLeDiff, Nat.zero_le, List.length_nil, List.length_cons, Nat.zero_add, true_or, or_true, false_or, or_false, true_and, and_true, and_self, mb_01, mb_t, mb_f]
  cases er : inR (sNr s) r with
  | false =>
    simp only [c_rowAt_no v3 a3 er, ce_115, bk_115, mmE, mmE0, mmH, mT, mR, mRf, mAl, mAs, mAz, mAn, Int.reduceToNat, Int32.reduceOfInt, Int64.reduceOfInt, Int.reduceAdd, swE, Nat.reduceDiv, Nat.reduceMod, Nat.reduceAdd, Nat.reduceMul, Nat.reduceEqDiff, Nat.reduceLeDiff, Nat.zero_le, List.length_nil, List.length_cons, Nat.zero_add, true_or, or_true, false_or, or_false, true_and, and_true, and_self, mb_01, mb_t, mb_f, Option.toList_some, Option.toList_none, List.cons_append, List.nil_append, true_implies, not_true_eq_false, not_false_eq_true, false_implies, and_true, true_and, if_false, Bool.false_eq_true]
    exact ⟨rfl, h, frC_rf⟩
  | true =>
    obtain ⟨r, h1, h2, rfl⟩ := inR_t er
    obtain ⟨t1, _⟩ := mTr4 r (by omega) h1
    rw [nI_clamp (show r < 2 ^ 31 by omega)]
    simp only [c_rowAt v3 a3 h1 h2, bk_115.2.1, bk_115.2.2.1, bk_115.2.2.2, mmE, mmE0, mmH, mT, mR, mRf, mAl, mAs, mAz, mAn, Int.reduceToNat, Int32.reduceOfInt, Int64.reduceOfInt, Int.reduceAdd, swE, Nat.reduceDiv, Nat.reduceMod, Nat.reduceAdd, Nat.reduceMul, Nat.reduceEqDiff, Nat.reduceLeDiff, Nat.zero_le, List.length_nil, List.length_cons, Nat.zero_add, true_or, or_true, false_or, or_false, true_and, and_true, and_self, mb_01, mb_t, mb_f, Option.toList_some, Option.toList_none, List.cons_append, List.nil_append, true_implies, not_true_eq_false, not_false_eq_true, false_implies, and_true, true_and, hg, mb0, if_true]
    cases e2 : sGd s with
    | false =>
      simp only [true_implies, not_true_eq_false, not_false_eq_true, false_implies, and_true, true_and, if_false, Bool.false_eq_true]
      exact ⟨rfl, h, frC_rf⟩
    | true =>
      have g := (hr e2).1 r h1 h2
      simp only [true_implies, not_true_eq_false, not_false_eq_true, false_implies, and_true, true_and, if_true, Bool.true_eq_false, t1, g.2.2.2.1]
      exact ⟨rfl, h, frC_rf⟩
theorem pM_gap {r : Int32} (hv : inv s) (h : repM I J s) : mm_call z (d + 4) 190 [.ref 127, .int r] I J (okM I J (o_gap s r)) := by
  obtain ⟨_, _, _, _, _, _, hg, hr, _⟩ := id h
  have v3 := hv.1.1.2.2.1
  unfold o_gap
  simp only [ce_190, bk_190.1, bk_190.2.1, bk_190.2.2, mmE, mmE0, mmH, mT, mR, mRf, mAl, mAs, mAz, mAn, Int.reduceToNat, Int32.reduceOfInt, Int64.reduceOfInt, Int.reduceAdd, swE, Nat.reduceDiv, Nat.reduceMod, Nat.reduceAdd, Nat.reduceMul, Nat.reduceEqDiff, Nat.reduceLeDiff, Nat.zero_le, List.length_nil, List.length_cons, Nat.zero_add, true_or, or_true, false_or, or_false, true_and, and_true, and_self, mb_01, mb_t, mb_f, Option.toList_some, Option.toList_none, List.cons_append, List.nil_append, c_refusal hv.1 h]
  have m1 : (0 ≤ (-1 : Int32)) = False ∧ (0 ≤ (-3 : Int32)) = False ∧ ((0 : Int32) ≤ 0) = True := by decide
  cases er : inR (sNr s) r with
  | false =>
    simp only [m1, true_implies, not_true_eq_false, not_false_eq_true, false_implies, and_true, true_and, if_false, Bool.false_eq_true]
    exact ⟨rfl, h, frM_rf⟩
  | true =>
    obtain ⟨r, h1, h2, rfl⟩ := inR_t er
    rw [nI_clamp (show r < 2 ^ 31 by omega)]
    cases e2 : sGd s with
    | false =>
      simp only [m1, true_implies, not_true_eq_false, not_false_eq_true, false_implies, and_true, true_and, if_true, if_false, Bool.false_eq_true]
      exact ⟨rfl, h, frM_rf⟩
    | true =>
      have g := (hr e2).1 r h1 h2
      simp only [m1, true_implies, not_true_eq_false, not_false_eq_true, false_implies, and_true, true_and, if_true, ix41 (show r < 41 by omega), g.2.2.2.1]
      exact ⟨rfl, h, frM_rf⟩
theorem pC_counter {r : Int32} (hv : inv s) (h : repC I J s) : mm_call z (d + 2) 116 [.ref 0, .int r] I J (okC I J (o_counter s r)) := by
  obtain ⟨⟨a1, a2, a3, a4⟩, _, _, _, _, _, hg, hr⟩ := id h
  have v3 := hv.1.1.2.2.1
  unfold o_counter
  simp only [ce_116, bk_116.1, mmE, mmE0, mmH, mT, mR, mRf, mAl, mAs, mAz, mAn, Int.reduceToNat, Int32.reduceOfInt, Int64.reduceOfInt, Int.reduceAdd, swE, Nat.reduceDiv, Nat.reduceMod, Nat.reduceAdd, Nat.reduceMul, Nat.reduceEqDiff, Nat.reduceLeDiff, Nat.zero_le, List.length_nil, List.length_cons, Nat.zero_add, true_or, or_true, false_or, or_false, true_and, and_true, and_self, mb_01, mb_t, mb_f]
  cases er : inR (sNr s) r with
  | false =>
    simp only [c_rowAt_no v3 a3 er, ce_116, bk_116, mmE, mmE0, mmH, mT, mR, mRf, mAl, mAs, mAz, mAn, Int.reduceToNat, Int32.reduceOfInt, Int64.reduceOfInt, Int.reduceAdd, swE, Nat.reduceDiv, Nat.reduceMod, Nat.reduceAdd, Nat.reduceMul, Nat.reduceEqDiff, Nat.reduceLeDiff, Nat.zero_le, List.length_nil, List.length_cons, Nat.zero_add, true_or, or_true, false_or, or_false, true_and, and_true, and_self, mb_01, mb_t, mb_f, Option.toList_some, Option.toList_none, List.cons_append, List.nil_append, true_implies, not_true_eq_false, not_false_eq_true, false_implies, and_true, true_and, if_false, Bool.false_eq_true]
    exact ⟨rfl, h, frC_rf⟩
  | true =>
    obtain ⟨r, h1, h2, rfl⟩ := inR_t er
    obtain ⟨t1, _⟩ := mTr4 r (by omega) h1
    rw [nI_clamp (show r < 2 ^ 31 by omega)]
    simp only [c_rowAt v3 a3 h1 h2, bk_116.2.1, bk_116.2.2.1, bk_116.2.2.2, mmE, mmE0, mmH, mT, mR, mRf, mAl, mAs, mAz, mAn, Int.reduceToNat, Int32.reduceOfInt, Int64.reduceOfInt, Int.reduceAdd, swE, Nat.reduceDiv, Nat.reduceMod, Nat.reduceAdd, Nat.reduceMul, Nat.reduceEqDiff, Nat.reduceLeDiff, Nat.zero_le, List.length_nil, List.length_cons, Nat.zero_add, true_or, or_true, false_or, or_false, true_and, and_true, and_self, mb_01, mb_t, mb_f, Option.toList_some, Option.toList_none, List.cons_append, List.nil_append, true_implies, not_true_eq_false, not_false_eq_true, false_implies, and_true, true_and, hg, mb0, if_true]
    cases e2 : sGd s with
    | false =>
      simp only [true_implies, not_true_eq_false, not_false_eq_true, false_implies, and_true, true_and, if_false, Bool.false_eq_true]
      exact ⟨rfl, h, frC_rf⟩
    | true =>
      have g := (hr e2).1 r h1 h2
      simp only [true_implies, not_true_eq_false, not_false_eq_true, false_implies, and_true, true_and, if_true, Bool.true_eq_false, t1, g.2.2.2.2]
      exact ⟨rfl, h, frC_rf⟩
theorem pM_counter {r : Int32} (hv : inv s) (h : repM I J s) : mm_call z (d + 4) 191 [.ref 127, .int r] I J (okM I J (o_counter s r)) := by
  obtain ⟨_, _, _, _, _, _, hg, hr, _⟩ := id h
  have v3 := hv.1.1.2.2.1
  unfold o_counter
  simp only [ce_191, bk_191.1, bk_191.2.1, bk_191.2.2, mmE, mmE0, mmH, mT, mR, mRf, mAl, mAs, mAz, mAn, Int.reduceToNat, Int32.reduceOfInt, Int64.reduceOfInt, Int.reduceAdd, swE, Nat.reduceDiv, Nat.reduceMod, Nat.reduceAdd, Nat.reduceMul, Nat.reduceEqDiff, Nat.reduceLeDiff, Nat.zero_le, List.length_nil, List.length_cons, Nat.zero_add, true_or, or_true, false_or, or_false, true_and, and_true, and_self, mb_01, mb_t, mb_f, Option.toList_some, Option.toList_none, List.cons_append, List.nil_append, c_refusal hv.1 h]
  have m1 : (0 ≤ (-1 : Int32)) = False ∧ (0 ≤ (-3 : Int32)) = False ∧ ((0 : Int32) ≤ 0) = True := by decide
  cases er : inR (sNr s) r with
  | false =>
    simp only [m1, true_implies, not_true_eq_false, not_false_eq_true, false_implies, and_true, true_and, if_false, Bool.false_eq_true]
    exact ⟨rfl, h, frM_rf⟩
  | true =>
    obtain ⟨r, h1, h2, rfl⟩ := inR_t er
    rw [nI_clamp (show r < 2 ^ 31 by omega)]
    cases e2 : sGd s with
    | false =>
      simp only [m1, true_implies, not_true_eq_false, not_false_eq_true, false_implies, and_true, true_and, if_true, if_false, Bool.false_eq_true]
      exact ⟨rfl, h, frM_rf⟩
    | true =>
      have g := (hr e2).1 r h1 h2
      simp only [m1, true_implies, not_true_eq_false, not_false_eq_true, false_implies, and_true, true_and, if_true, ix41 (show r < 41 by omega), g.2.2.2.2]
      exact ⟨rfl, h, frM_rf⟩
theorem pC_order {r : Int32} (hv : inv s) (h : repC I J s) : mm_call z (d + 2) 118 [.ref 0, .int r] I J (okC I J (o_order s r)) := by
  obtain ⟨⟨a1, a2, a3, a4⟩, _, _, _, _, _, hg, hr⟩ := id h
  have v3 := hv.1.1.2.2.1
  unfold o_order
  simp only [ce_118, bk_118.1, mmE, mmE0, mmH, mT, mR, mRf, mAl, mAs, mAz, mAn, Int.reduceToNat, Int32.reduceOfInt, Int64.reduceOfInt, Int.reduceAdd, swE, Nat.reduceDiv, Nat.reduceMod, Nat.reduceAdd, Nat.reduceMul, Nat.reduceEqDiff, Nat.reduceLeDiff, Nat.zero_le, List.length_nil, List.length_cons, Nat.zero_add, true_or, or_true, false_or, or_false, true_and, and_true, and_self, mb_01, mb_t, mb_f]
  cases er : inR (sNr s) r with
  | false =>
    simp only [c_rowAt_no v3 a3 er, ce_118, bk_118, mmE, mmE0, mmH, mT, mR, mRf, mAl, mAs, mAz, mAn, Int.reduceToNat, Int32.reduceOfInt, Int64.reduceOfInt, Int.reduceAdd, swE, Nat.reduceDiv, Nat.reduceMod, Nat.reduceAdd, Nat.reduceMul, Nat.reduceEqDiff, Nat.reduceLeDiff, Nat.zero_le, List.length_nil, List.length_cons, Nat.zero_add, true_or, or_true, false_or, or_false, true_and, and_true, and_self, mb_01, mb_t, mb_f, Option.toList_some, Option.toList_none, List.cons_append, List.nil_append, true_implies, not_true_eq_false, not_false_eq_true, false_implies, and_true, true_and, if_false, Bool.false_eq_true]
    exact ⟨rfl, h, frC_rf⟩
  | true =>
    obtain ⟨r, h1, h2, rfl⟩ := inR_t er
    obtain ⟨t1, _⟩ := mTr4 r (by omega) h1
    rw [nI_clamp (show r < 2 ^ 31 by omega)]
    simp only [c_rowAt v3 a3 h1 h2, bk_118.2.1, mmE, mmE0, mmH, mT, mR, mRf, mAl, mAs, mAz, mAn, Int.reduceToNat, Int32.reduceOfInt, Int64.reduceOfInt, Int.reduceAdd, swE, Nat.reduceDiv, Nat.reduceMod, Nat.reduceAdd, Nat.reduceMul, Nat.reduceEqDiff, Nat.reduceLeDiff, Nat.zero_le, List.length_nil, List.length_cons, Nat.zero_add, true_or, or_true, false_or, or_false, true_and, and_true, and_self, mb_01, mb_t, mb_f, Option.toList_some, Option.toList_none, List.cons_append, List.nil_append, true_implies, not_true_eq_false, not_false_eq_true, false_implies, and_true, true_and, hg, mb0, if_true]
    cases e2 : sGd s with
    | false =>
      simp only [true_implies, not_true_eq_false, not_false_eq_true, false_implies, and_true, true_and, if_false, Bool.false_eq_true]
      exact ⟨rfl, h, frC_rf⟩
    | true =>
      have g := (hr e2).1 r h1 h2
      have g40 := ((hv.2 e2).1.1 r h1 h2).1
      simp only [true_implies, not_true_eq_false, not_false_eq_true, false_implies, and_true, true_and, if_true, Bool.true_eq_false, bk_118.2.2.1, bk_118.2.2.2.1, bk_118.2.2.2.2, mmE, mmE0, mmH, mT, mR, mRf, mAl, mAs, mAz, mAn, Int.reduceToNat, Int32.reduceOfInt, Int64.reduceOfInt, Int.reduceAdd, swE, Nat.reduceDiv, Nat.reduceMod, Nat.reduceAdd, Nat.reduceMul, Nat.reduceEqDiff, Nat.reduceLeDiff, Nat.zero_le, List.length_nil, List.length_cons, Nat.zero_add, true_or, or_true, false_or, or_false, true_and, and_true, and_self, mb_01, mb_t, mb_f, t1, g.1, n0E (show (sG s r).1 < 2 ^ 31 by omega)]
      by_cases q : (sG s r).1 = 0
      · simp only [eq_true q, true_implies, not_true_eq_false, not_false_eq_true, false_implies, and_true, true_and, if_true]
        exact ⟨rfl, h, frC_rf⟩
      · simp only [q, true_implies, not_true_eq_false, not_false_eq_true, false_implies, and_true, true_and, if_false]
        exact ⟨rfl, h, frC_rf⟩
theorem pM_order {r : Int32} (hv : inv s) (h : repM I J s) : mm_call z (d + 4) 193 [.ref 127, .int r] I J (okM I J (o_order s r)) := by
  obtain ⟨_, _, _, _, _, _, hg, hr, _⟩ := id h
  have v3 := hv.1.1.2.2.1
  unfold o_order
  simp only [ce_193, bk_193.1, bk_193.2.2.2, mmE, mmE0, mmH, mT, mR, mRf, mAl, mAs, mAz, mAn, Int.reduceToNat, Int32.reduceOfInt, Int64.reduceOfInt, Int.reduceAdd, swE, Nat.reduceDiv, Nat.reduceMod, Nat.reduceAdd, Nat.reduceMul, Nat.reduceEqDiff, Nat.reduceLeDiff, Nat.zero_le, List.length_nil, List.length_cons, Nat.zero_add, true_or, or_true, false_or, or_false, true_and, and_true, and_self, mb_01, mb_t, mb_f, Option.toList_some, Option.toList_none, List.cons_append, List.nil_append, c_refusal hv.1 h]
  have m1 : (0 ≤ (-1 : Int32)) = False ∧ (0 ≤ (-3 : Int32)) = False ∧ ((0 : Int32) ≤ 0) = True := by decide
  cases er : inR (sNr s) r with
  | false =>
    simp only [m1, true_implies, not_true_eq_false, not_false_eq_true, false_implies, and_true, true_and, if_false, Bool.false_eq_true]
    exact ⟨rfl, h, frM_rf⟩
  | true =>
    obtain ⟨r, h1, h2, rfl⟩ := inR_t er
    rw [nI_clamp (show r < 2 ^ 31 by omega)]
    cases e2 : sGd s with
    | false =>
      simp only [m1, true_implies, not_true_eq_false, not_false_eq_true, false_implies, and_true, true_and, if_true, if_false, Bool.false_eq_true]
      exact ⟨rfl, h, frM_rf⟩
    | true =>
      have g := (hr e2).1 r h1 h2
      have g40 := ((hv.2 e2).1.1 r h1 h2).1
      simp only [m1, true_implies, not_true_eq_false, not_false_eq_true, false_implies, and_true, true_and, if_true, bk_193.2.1, bk_193.2.2.1, bk_193.2.2.2, mmE, mmE0, mmH, mT, mR, mRf, mAl, mAs, mAz, mAn, Int.reduceToNat, Int32.reduceOfInt, Int64.reduceOfInt, Int.reduceAdd, swE, Nat.reduceDiv, Nat.reduceMod, Nat.reduceAdd, Nat.reduceMul, Nat.reduceEqDiff, Nat.reduceLeDiff, Nat.zero_le, List.length_nil, List.length_cons, Nat.zero_add, true_or, or_true, false_or, or_false, true_and, and_true, and_self, mb_01, mb_t, mb_f, ix41 (show r < 41 by omega), g.1, n0E (show (sG s r).1 < 2 ^ 31 by omega)]
      by_cases q : (sG s r).1 = 0
      · simp only [eq_true q, true_implies, not_true_eq_false, not_false_eq_true, false_implies, and_true, true_and, if_true]
        exact ⟨rfl, h, frM_rf⟩
      · simp only [q, true_implies, not_true_eq_false, not_false_eq_true, false_implies, and_true, true_and, if_false]
        exact ⟨rfl, h, frM_rf⟩
theorem pC_circle {i : Int32} (hv : inv s) (h : repC I J s) : mm_call z (d + 2) 117 [.ref 0, .int i] I J (okC I J (o_circle s i)) := by
  obtain ⟨_, _, _, _, _, _, hg, hr⟩ := id h
  unfold o_circle
  simp only [ce_117, bk_117, mmE, mmE0, mmH, mT, mR, mRf, mAl, mAs, mAz, mAn, Int.reduceToNat, Int32.reduceOfInt, Int64.reduceOfInt, Int.reduceAdd, swE, Nat.reduceDiv, Nat.reduceMod, Nat.reduceAdd, Nat.reduceMul, Nat.reduceEqDiff, Nat.reduceLeDiff, Nat.zero_le, List.length_nil, List.length_cons, Nat.zero_add, true_or, or_true, false_or, or_false, true_and, and_true, and_self, mb_01, mb_t, mb_f, Option.toList_some, Option.toList_none, List.cons_append, List.nil_append, hg, mb0]
  cases e2 : sGd s with
  | false =>
    simp only [true_implies, not_true_eq_false, not_false_eq_true, false_implies, and_true, true_and, if_false, Bool.false_eq_true]
    exact ⟨rfl, h, frC_rf⟩
  | true =>
    obtain ⟨_, _, ⟨c1, c2⟩, _⟩ := hr e2
    have c40 := (hv.2 e2).1.2.1
    simp only [true_implies, not_true_eq_false, not_false_eq_true, false_implies, and_true, true_and, if_true, Bool.true_eq_false, ce_25, bk_25, mmE, mmE0, mmH, mT, mR, mRf, mAl, mAs, mAz, mAn, Int.reduceToNat, Int32.reduceOfInt, Int64.reduceOfInt, Int.reduceAdd, swE, Nat.reduceDiv, Nat.reduceMod, Nat.reduceAdd, Nat.reduceMul, Nat.reduceEqDiff, Nat.reduceLeDiff, Nat.zero_le, List.length_nil, List.length_cons, Nat.zero_add, true_or, or_true, false_or, or_false, true_and, and_true, and_self, mb_01, mb_t, mb_f, Option.toList_some, Option.toList_none, List.cons_append, List.nil_append, c1]
    cases ei : inN (sC s).length i with
    | false =>
      by_cases q : i < 0
      · simp only [eq_true q, true_implies, not_true_eq_false, not_false_eq_true, false_implies, and_true, true_and, if_false, Bool.false_eq_true]
        exact ⟨rfl, h, frC_rf⟩
      · have q2 : nI (sC s).length ≤ i := by
          rw [i32le, nI_toInt (by omega)]
          exact (inN_f ei).resolve_left q
        simp only [q, eq_true q2, true_implies, not_true_eq_false, not_false_eq_true, false_implies, and_true, true_and, if_false, Bool.false_eq_true]
        exact ⟨rfl, h, frC_rf⟩
    | true =>
      obtain ⟨m, hm, rfl⟩ := inN_t ei
      have q2 : (nI (sC s).length ≤ nI m) = False := by rw [le_nI (by omega) (by omega)]; exact eq_false (by omega)
      rw [nI_clamp (show m < 2 ^ 31 by omega)]
      simp only [nneg (show m < 2 ^ 31 by omega), q2, ix40 (show m < 40 by omega), c2 m hm, true_implies, not_true_eq_false, not_false_eq_true, false_implies, and_true, true_and, if_true]
      exact ⟨rfl, h, frC_rf⟩
theorem pM_circle {i : Int32} (hv : inv s) (h : repM I J s) : mm_call z (d + 2) 192 [.ref 127, .int i] I J (okM I J (o_circle s i)) := by
  obtain ⟨_, _, _, _, _, _, hg, hr, _⟩ := id h
  unfold o_circle
  simp only [ce_192, bk_192.1, bk_192.2.2.2, mmE, mmE0, mmH, mT, mR, mRf, mAl, mAs, mAz, mAn, Int.reduceToNat, Int32.reduceOfInt, Int64.reduceOfInt, Int.reduceAdd, swE, Nat.reduceDiv, Nat.reduceMod, Nat.reduceAdd, Nat.reduceMul, Nat.reduceEqDiff, Nat.reduceLeDiff, Nat.zero_le, List.length_nil, List.length_cons, Nat.zero_add, true_or, or_true, false_or, or_false, true_and, and_true, and_self, mb_01, mb_t, mb_f, Option.toList_some, Option.toList_none, List.cons_append, List.nil_append, hg, mb0]
  cases e2 : sGd s with
  | false =>
    simp only [true_implies, not_true_eq_false, not_false_eq_true, false_implies, and_true, true_and, if_false, Bool.false_eq_true]
    exact ⟨rfl, h, frM_rf⟩
  | true =>
    obtain ⟨_, ⟨c1, c2⟩, _⟩ := hr e2
    have c40 := (hv.2 e2).1.2.1
    simp only [true_implies, not_true_eq_false, not_false_eq_true, false_implies, and_true, true_and, if_true, Bool.true_eq_false, bk_192.2.1, bk_192.2.2.1, bk_192.2.2.2, mmE, mmE0, mmH, mT, mR, mRf, mAl, mAs, mAz, mAn, Int.reduceToNat, Int32.reduceOfInt, Int64.reduceOfInt, Int.reduceAdd, swE, Nat.reduceDiv, Nat.reduceMod, Nat.reduceAdd, Nat.reduceMul, Nat.reduceEqDiff, Nat.reduceLeDiff, Nat.zero_le, List.length_nil, List.length_cons, Nat.zero_add, true_or, or_true, false_or, or_false, true_and, and_true, and_self, mb_01, mb_t, mb_f, Option.toList_some, Option.toList_none, List.cons_append, List.nil_append, c1, c_in, in_np (show (sC s).length ≤ 10000 by omega), mb_0]
    cases ei : inN (sC s).length i with
    | false =>
      simp only [true_implies, not_true_eq_false, not_false_eq_true, false_implies, and_true, true_and, if_false, Bool.false_eq_true]
      exact ⟨rfl, h, frM_rf⟩
    | true =>
      obtain ⟨m, hm, rfl⟩ := inN_t ei
      rw [nI_clamp (show m < 2 ^ 31 by omega)]
      simp only [Bool.true_eq_false, ix41 (show m < 41 by omega), c2 m hm, true_implies, not_true_eq_false, not_false_eq_true, false_implies, and_true, true_and, if_true]
      exact ⟨rfl, h, frM_rf⟩
end PV
