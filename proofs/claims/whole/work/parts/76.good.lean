/-! good figures -/
def shC (I : mm_I) (s : st_T) : Prop := (I 1 0 = nI (sNp s) ∧ I 1 1 = nI (sNf s) ∧ I 1 2 = nI (sNr s)) ∧ (∀ i, i < 6 → rg_fig I i (sF s i)) ∧ ∀ r, 1 ≤ r → r ≤ sNr s → rC_row I (4 + 2 * r) (sR s r)
def shM (I : mm_I) (s : st_T) : Prop := (I 127 0 = nI (sNp s) ∧ I 127 1 = nI (sNf s) ∧ I 127 24 = nI (sNr s)) ∧ (∀ i, i < 6 → rm_fig I i (sF s i)) ∧ (∀ r, 1 ≤ r → r ≤ sNr s → rM_row I r (sR s r)) ∧ mtab I
def gfS (s : st_T) (i : Nat) : Bool := gf (sNp s) (sNr s) (sF s) (sR s) i
section GO
variable {z : mm_S} {d : Nat} {I : mm_I} {J : mm_J} {s : st_T} {Q : Option Value → mm_I → mm_J → Prop}
theorem shC_of (h : repC I J s) : shC I s := ⟨⟨h.1.1, h.1.2.1, h.1.2.2.1⟩, h.2.1, h.2.2.2.2.1⟩
theorem shM_of (h : repM I J s) : shM I s := ⟨⟨h.1.1, h.1.2.1, h.1.2.2.1⟩, h.2.1, h.2.2.2.2.1, h.2.2.2.2.2.2.2.2⟩
theorem w_good_loop {i : Nat} (hi : i < 6) (hv : va s) (h : shC I s) : ∀ (w r : Nat) (o3 : Option Value), 1 ≤ r → r + w = sNr s + 1 → Q (some (.int (mb ((List.range' r w).all fun r => !((sR s r).2.1 == 1) || fg_shows (sF s i) (sR s r).1)))) I J → mm_at z (mm_call z (d + 4)) (mm_code 82) Q 15 [some (.ref 1), some (.ref (86 + 3 * i)), some (.int (nI r)), o3] [] I J
  | 0, r, o3, h1, hr, k => by
    have v3 := hv.1.2.2.1
    rw [hk_82_15]
    have c1 : (nI (sNr s) < nI r) = True := by rw [lt_nI (by omega) (by omega)]; exact eq_true (by omega)
    simp only [bk_82.2.2.2, mmE, mmE0, mmH, mT, mR, mRf, mAl, mAs, mAz, mAn, Int.reduceToNat, Int32.reduceOfInt, Int64.reduceOfInt, Int.reduceAdd, swE, Nat.reduceDiv, Nat.reduceMod, Nat.reduceAdd, Nat.reduceMul, Nat.reduceEqDiff, Nat.reduceLeDiff, Nat.zero_le, List.length_nil, List.length_cons, Nat.zero_add, true_or, or_true, false_or, or_false, true_and, and_true, and_self, mb_01, mb_t, mb_f, h.1.2.2, c1, z01, true_implies, not_true_eq_false, not_false_eq_true, false_implies, and_true, true_and]
    exact k
  | w + 1, r, o3, h1, hr, k => by
    have v3 := hv.1.2.2.1
    rw [hk_82_15]
    have c1 : (nI (sNr s) < nI r) = False := by rw [lt_nI (by omega) (by omega)]; exact eq_false (by omega)
    obtain ⟨t1, t2, t3, _⟩ := mTr4 r (by omega) h1
    obtain ⟨f1, f2, f3, f4, f5, f6⟩ := mTf i hi
    have hrow := h.2.2 r h1 (by omega)
    have vrow := hv.2.2.2.1 r h1 (by omega)
    have gF := isP_F hv.1.1 vrow.1
    have ih := w_good_loop hi hv h w (r + 1) (some (.ref (4 + 2 * r))) (by omega) (by omega)
    rw [nI_succ] at ih
    rw [List.range'_succ, List.all_cons] at k
    have e1 : (nI (sR s r).2.1 = 1) = ((sR s r).2.1 = 1) := eq_nI (b := 1) (by have := vrow.2.1; omega) (by omega)
    simp only [bk_82.2.2.1, mmE, mmE0, mmH, mT, mR, mRf, mAl, mAs, mAz, mAn, Int.reduceToNat, Int32.reduceOfInt, Int64.reduceOfInt, Int.reduceAdd, swE, Nat.reduceDiv, Nat.reduceMod, Nat.reduceAdd, Nat.reduceMul, Nat.reduceEqDiff, Nat.reduceLeDiff, Nat.zero_le, List.length_nil, List.length_cons, Nat.zero_add, true_or, or_true, false_or, or_false, true_and, and_true, and_self, mb_01, mb_t, mb_f, Option.toList_some, Option.toList_none, List.cons_append, List.nil_append, h.1.2.2, c1, c_rowAt v3 h.1.2.2 h1 (show r ≤ sNr s by omega), t1, hrow.1, hrow.2.1, e1, f1, c_shows hi gF (h.2.1 i hi), mb_0, z01, true_implies, not_true_eq_false, not_false_eq_true, false_implies, and_true, true_and]
    by_cases q : (sR s r).2.1 = 1
    · rw [show ((sR s r).2.1 == 1) = true from beq_iff_eq.mpr q, Bool.not_true, Bool.false_or] at k
      simp only [eq_true q, true_implies, not_true_eq_false, not_false_eq_true, false_implies, and_true, true_and]
      cases e : fg_shows (sF s i) (sR s r).1 with
      | false =>
        rw [e, Bool.false_and] at k
        simp only [true_implies, not_true_eq_false, not_false_eq_true, false_implies, and_true, true_and]
        exact k
      | true =>
        rw [e, Bool.true_and] at k
        simp only [true_implies, not_true_eq_false, not_false_eq_true, false_implies, and_true, true_and, Bool.true_eq_false]
        exact ih k
    · rw [show ((sR s r).2.1 == 1) = false from beq_eq_false_iff_ne.mpr q, Bool.not_false, Bool.true_or, Bool.true_and] at k
      simp only [q, true_implies, not_true_eq_false, not_false_eq_true, false_implies, and_true, true_and]
      exact ih k
theorem c_isGood {i : Nat} (hi : i < 6) (hv : va s) (h : shC I s) (Q : Option Value → mm_I → mm_J → Prop) : mm_call z (d + 5) 82 [.ref 1, .ref (86 + 3 * i)] I J Q = Q (some (.int (mb (gfS s i)))) I J := by
  refine mm_ev ?_ Q
  obtain ⟨f1, _⟩ := mTf i hi
  simp only [ce_82, bk_82.1, bk_82.2.1, mmE, mmE0, mmH, mT, mR, mRf, mAl, mAs, mAz, mAn, Int.reduceToNat, Int32.reduceOfInt, Int64.reduceOfInt, Int.reduceAdd, swE, Nat.reduceDiv, Nat.reduceMod, Nat.reduceAdd, Nat.reduceMul, Nat.reduceEqDiff, Nat.reduceLeDiff, Nat.zero_le, List.length_nil, List.length_cons, Nat.zero_add, true_or, or_true, false_or, or_false, true_and, and_true, and_self, mb_01, mb_t, mb_f, Option.toList_some, Option.toList_none, List.cons_append, List.nil_append, h.1.1, f1, c_apart hi hv.1.1 (h.2.1 i hi), mb_0, z01]
  unfold gfS gf
  cases e : fg_apart (sF s i) (sNp s) with
  | false => simp only [true_implies, not_true_eq_false, not_false_eq_true, false_implies, and_true, true_and, Bool.false_and, mb_f]
  | true =>
    simp only [true_implies, not_true_eq_false, not_false_eq_true, false_implies, and_true, true_and, Bool.true_eq_false, Bool.true_and]
    exact w_good_loop (z := z) (d := d) hi hv h (sNr s) 1 _ (by omega) (by omega) ⟨rfl, rfl, rfl⟩
theorem c_rowHolds {f r : Nat} {F : fg_T} {x : rw_T} (hf : f < 6) (hr : r ≤ 40) (hB : fgB F) (hF : rm_fig I f F) (hx : isF x.1 = true) (h : rM_row I r x) (Q : Option Value → mm_I → mm_J → Prop) : mm_call z (d + 4) 141 [.ref 127, .int (nI f), .int (nI r)] I J Q = Q (some (.int (mb (fg_shows F x.1)))) I J := by
  refine mm_ev ?_ Q
  obtain ⟨r1, r2, r3, r4, r5, r6, r7⟩ := h
  have k3 := kd34 (kd x.1)
  have p0 := r2 0 (by omega)
  have p1 := r2 1 (by omega)
  have p2 := r2 2 (by omega)
  have p3 := r2 3 (by omega)
  have e0 : pI x.1 0 = nI (pt x.1 0) := by unfold pI; rw [if_pos (by omega)]
  have e1 : pI x.1 1 = nI (pt x.1 1) := by unfold pI; rw [if_pos (by omega)]
  have e2 : pI x.1 2 = nI (pt x.1 2) := by unfold pI; rw [if_pos (by omega)]
  rw [e0, Nat.add_zero] at p0
  rw [e1] at p1
  rw [e2] at p2
  have hN := pt_num hx
  have l3 : (if kdN (kd x.1) = 3 then 0 else pt x.1 3) < 7 := by
    split
    · omega
    · exact pt7 hx (by omega)
  have hx3 : kdN (kd x.1) = 4 → pI x.1 3 = nI (if kdN (kd x.1) = 3 then 0 else pt x.1 3) := by
    intro q
    unfold pI
    rw [if_pos (by omega), if_neg (by omega)]
  have cH := fun (Q : Option Value → mm_I → mm_J → Prop) => c_holdsIn (z := z) (d := d) (I := I) (J := J) (x := pI x.1 3) hB hf (kd_lt x.1) (pt7 hx (i := 0) (by omega)) (pt7 hx (i := 1) (by omega)) (pt7 hx (i := 2) (by omega)) l3 hx3 hF Q
  have sN := shows_nf hB (kd_lt x.1) (pt7 hx (i := 0) (by omega)) (pt7 hx (i := 1) (by omega)) (pt7 hx (i := 2) (by omega)) l3 hN
  simp only [ce_141, bk_141, mmE, mmE0, mmH, mT, mR, mRf, mAl, mAs, mAz, mAn, Int.reduceToNat, Int32.reduceOfInt, Int64.reduceOfInt, Int.reduceAdd, swE, Nat.reduceDiv, Nat.reduceMod, Nat.reduceAdd, Nat.reduceMul, Nat.reduceEqDiff, Nat.reduceLeDiff, Nat.zero_le, List.length_nil, List.length_cons, Nat.zero_add, true_or, or_true, false_or, or_false, true_and, and_true, and_self, mb_01, mb_t, mb_f, Option.toList_some, Option.toList_none, List.cons_append, List.nil_append, ix41 (show r < 41 by omega), i4l, ix164 (show 4 * r < 164 by omega), ix164 (show 4 * r + 1 < 164 by omega), ix164 (show 4 * r + 2 < 164 by omega), ix164 (show 4 * r + 3 < 164 by omega), r1, p0, p1, p2, p3, cH, sN, mb_01, true_implies, not_true_eq_false, not_false_eq_true, false_implies, and_true, true_and]
end GO
