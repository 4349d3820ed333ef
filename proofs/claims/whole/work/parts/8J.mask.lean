/-! the reference's grading: what it asks -/
theorem S0_b {nr : Nat} {R : Nat → rw_T} {G : Nat → gr_T} {f : Nat} : S0 nr R G f ↔ ((List.range' 1 nr).any fun o => (G o).2.1 == 1 && (R o).1 == f) = true := by
  rw [List.any_eq_true]
  constructor
  · rintro ⟨r, a, b, c, e⟩
    exact ⟨r, List.mem_range'_1.mpr (by omega), by rw [c, e]; simp⟩
  · rintro ⟨r, a, b⟩
    rw [List.mem_range'_1] at a
    rw [Bool.and_eq_true, beq_iff_eq, beq_iff_eq] at b
    exact ⟨r, by omega, by omega, b.1, b.2⟩
theorem osD {s : st_T} {r i o : Nat} {l : List Nat} (hl : (osS s r).drop i = o :: l) : i < (osS s r).length ∧ (sR s r).2.2.2.getD i 0 = o ∧ o ∈ (sR s r).2.2.2 ∧ (osS s r).drop (i + 1) = l ∧ (osS s r).take (i + 1) = (osS s r).take i ++ [o] := by
  have il : i < (osS s r).length := by
    rcases Nat.lt_or_ge i (osS s r).length with q | q
    · exact q
    · rw [List.drop_eq_nil_iff.mpr q] at hl; cases hl
  have ei : (osS s r)[i] = o := by
    have := List.drop_eq_getElem_cons il
    rw [hl] at this
    injection this with a b
    exact a.symm
  refine ⟨il, ?_, List.mem_of_mem_drop (i := i) (by show o ∈ (osS s r).drop i; rw [hl]; exact List.mem_cons_self), ?_, ?_⟩
  · show (osS s r).getD i 0 = o
    rw [List.getD_eq_getElem?_getD, List.getElem?_eq_getElem il]
    exact ei
  · rw [← List.tail_drop, hl]
    rfl
  · rw [List.take_add_one, List.getElem?_eq_getElem il, ei]
    rfl
section MA
variable {z : mm_S} {d : Nat} {I : mm_I} {J : mm_J} {s : st_T} {G : Nat → gr_T} {Q : Option Value → mm_I → mm_J → Prop}
theorem w_may_loop {r : Nat} (h1 : 1 ≤ r) (h2 : r ≤ sNr s) (hv : va s) (h : shM I s) (hG : gMs I (sNr s) G) : ∀ (l : List Nat) (i : Nat) (b : Bool) (o4 : Option Value), (osS s r).drop i = l → i ≤ (osS s r).length → Q (some (.int (mb (b && l.all fun o => !(decide (o ≤ sNr s) && gw G o))))) I J → mm_at z (mm_call z d) (mm_code 168) Q 17 [some (.ref 127), some (.int (nI r)), some (.int (mb b)), some (.int (nI i)), o4] [] I J
  | [], i, b, o4, hl, hi, k => by
    have v3 := hv.1.2.2.1
    obtain ⟨_, _, _, _, _, r6, _⟩ := h.2.2.1 r h1 h2
    have hl6 := (hv.2.2.2.1 r h1 h2).2.2.2.1
    have e : (osS s r).length ≤ i := List.drop_eq_nil_iff.mp hl
    have eL : (osS s r).length = (sR s r).2.2.2.length := rfl
    rw [hk_168_17]
    have c1 : (nI (sR s r).2.2.2.length ≤ nI i) = True := by rw [le_nI (by omega) (by omega)]; exact eq_true e
    simp only [bk_168.2.2.2.2.2.2, mmE, mmE0, mmH, mT, mR, mRf, mAl, mAs, mAz, mAn, Int.reduceToNat, Int32.reduceOfInt, Int64.reduceOfInt, Int.reduceAdd, swE, Nat.reduceDiv, Nat.reduceMod, Nat.reduceAdd, Nat.reduceMul, Nat.reduceEqDiff, Nat.reduceLeDiff, Nat.zero_le, List.length_nil, List.length_cons, Nat.zero_add, true_or, or_true, false_or, or_false, true_and, and_true, and_self, mb_01, mb_t, mb_f, ix41 (show r < 41 by omega), r6, c1, mb_01, true_implies, not_true_eq_false, not_false_eq_true, false_implies, and_true, true_and]
    rw [List.all_nil, Bool.and_true] at k
    exact k
  | o :: l, i, b, o4, hl, hi, k => by
    have v3 := hv.1.2.2.1
    obtain ⟨_, _, _, _, _, r6, r7⟩ := h.2.2.1 r h1 h2
    obtain ⟨_, _, _, hl6, ho⟩ := hv.2.2.2.1 r h1 h2
    have eL : (osS s r).length = (sR s r).2.2.2.length := rfl
    obtain ⟨il, eo, mo, hl', _⟩ := osD hl
    obtain ⟨o1, o2⟩ := ho o mo
    have rO := r7 i il
    rw [eo] at rO
    have ih := fun b' o4 => w_may_loop h1 h2 hv h hG l (i + 1) b' o4 hl' il
    rw [nI_succ] at ih
    rw [hk_168_17]
    have c1 : (nI (sR s r).2.2.2.length ≤ nI i) = False := by rw [le_nI (by omega) (by omega)]; exact eq_false (by omega)
    have c2 : (nI (sNr s) < nI o) = (sNr s < o) := lt_nI (by omega) (by omega)
    rw [List.all_cons] at k
    simp only [bk_168.2.2.2.1, bk_168.2.2.2.2.1, bk_168.2.2.2.2.2.1, mmE, mmE0, mmH, mT, mR, mRf, mAl, mAs, mAz, mAn, Int.reduceToNat, Int32.reduceOfInt, Int64.reduceOfInt, Int.reduceAdd, swE, Nat.reduceDiv, Nat.reduceMod, Nat.reduceAdd, Nat.reduceMul, Nat.reduceEqDiff, Nat.reduceLeDiff, Nat.zero_le, List.length_nil, List.length_cons, Nat.zero_add, true_or, or_true, false_or, or_false, true_and, and_true, and_self, mb_01, mb_t, mb_f, ix41 (show r < 41 by omega), r6, c1, i6, ix246 (show 6 * r + i < 246 by omega), rO, h.1.2.2, c2, mb_0, true_implies, not_true_eq_false, not_false_eq_true, false_implies, and_true, true_and]
    cases b with
    | false =>
      simp only [true_implies, not_true_eq_false, not_false_eq_true, false_implies, and_true, true_and]
      refine ih false _ ?_
      rw [Bool.false_and] at k ⊢
      exact k
    | true =>
      rw [Bool.true_and] at k
      simp only [Bool.true_eq_false, true_implies, not_true_eq_false, not_false_eq_true, false_implies, and_true, true_and]
      by_cases q : sNr s < o
      · rw [decide_eq_false (show ¬ o ≤ sNr s by omega), Bool.false_and, Bool.not_false, Bool.true_and] at k
        simp only [eq_true q, true_implies, not_true_eq_false, not_false_eq_true, false_implies, and_true, true_and]
        refine ih true _ ?_
        rw [Bool.true_and]
        exact k
      · obtain ⟨⟨g1, _⟩, g2, _⟩ := hG o o1 (by omega)
        have c3 : (nI (G o).1 ≤ 0) = ((G o).1 ≤ 0) := le_nI (b := 0) (by omega) (by omega)
        rw [decide_eq_true (show o ≤ sNr s by omega), Bool.true_and] at k
        unfold gw at k
        simp only [q, true_implies, not_true_eq_false, not_false_eq_true, false_implies, and_true, true_and, ix41 (show o < 41 by omega), g1, c3]
        by_cases q0 : (G o).1 ≤ 0
        · rw [show ((G o).1 == 0) = true from beq_iff_eq.mpr (by omega), Bool.not_true, Bool.false_and] at k
          simp only [eq_true q0, true_implies, not_true_eq_false, not_false_eq_true, false_implies, and_true, true_and]
          refine ih false _ ?_
          rw [Bool.false_and]
          exact k
        · rw [show ((G o).1 == 0) = false from beq_eq_false_iff_ne.mpr (by omega), Bool.not_false, Bool.true_and] at k
          simp only [q0, true_implies, not_true_eq_false, not_false_eq_true, false_implies, and_true, true_and]
          refine ih true _ ?_
          rw [Bool.true_and]
          exact k
theorem c_may {r : Nat} (h1 : 1 ≤ r) (h2 : r ≤ sNr s) (hv : va s) (h : shM I s) (hG : gMs I (sNr s) G) (Q : Option Value → mm_I → mm_J → Prop) : mm_call z (d + 1) 168 [.ref 127, .int (nI r)] I J Q = Q (some (.int (mb (grd (sNr s) (osS s) G r)))) I J := by
  refine mm_ev ?_ Q
  have v3 := hv.1.2.2.1
  obtain ⟨⟨g1, _⟩, g2, _⟩ := hG r h1 h2
  simp only [ce_168, bk_168.1, bk_168.2.1, bk_168.2.2.1, mmE, mmE0, mmH, mT, mR, mRf, mAl, mAs, mAz, mAn, Int.reduceToNat, Int32.reduceOfInt, Int64.reduceOfInt, Int.reduceAdd, swE, Nat.reduceDiv, Nat.reduceMod, Nat.reduceAdd, Nat.reduceMul, Nat.reduceEqDiff, Nat.reduceLeDiff, Nat.zero_le, List.length_nil, List.length_cons, Nat.zero_add, true_or, or_true, false_or, or_false, true_and, and_true, and_self, mb_01, mb_t, mb_f, ix41 (show r < 41 by omega), g1, n0E (show (G r).1 < 2 ^ 31 by omega), true_implies, not_true_eq_false, not_false_eq_true, false_implies, and_true, true_and]
  have key := fun b => w_may_loop (z := z) (d := d) (J := J) (Q := fun v a c => v = some (.int (mb (grd (sNr s) (osS s) G r))) ∧ a = I ∧ c = J) h1 h2 hv h hG (osS s r) 0 b none rfl (Nat.zero_le _)
  unfold grd gw at key ⊢
  by_cases q : (G r).1 = 0
  · simp only [eq_true q, true_implies, not_true_eq_false, not_false_eq_true, false_implies, and_true, true_and]
    refine key true ⟨?_, rfl, rfl⟩
    rw [show ((G r).1 == 0) = true from beq_iff_eq.mpr q]
  · simp only [q, true_implies, not_true_eq_false, not_false_eq_true, false_implies, and_true, true_and]
    refine key false ⟨?_, rfl, rfl⟩
    rw [show ((G r).1 == 0) = false from beq_eq_false_iff_ne.mpr q]
theorem w_again_loop {r : Nat} (h1 : 1 ≤ r) (h2 : r ≤ sNr s) (h0 : (G r).2.1 = 0) (hv : va s) (h : shM I s) (hG : gMs I (sNr s) G) : ∀ (w o : Nat) (b : Bool), 1 ≤ o → o + w = sNr s + 1 → Q (some (.int (mb (b || (List.range' o w).any fun o => (G o).2.1 == 1 && (sR s o).1 == (sR s r).1)))) I J → mm_at z (mm_call z d) (mm_code 171) Q 4 [some (.ref 127), some (.int (nI r)), some (.int (mb b)), some (.int (nI o))] [] I J
  | 0, o, b, o1, ho, k => by
    have v3 := hv.1.2.2.1
    rw [hk_171_4]
    have c1 : (nI (sNr s) < nI o) = True := by rw [lt_nI (by omega) (by omega)]; exact eq_true (by omega)
    simp only [bk_171.2.2.2.2, mmE, mmE0, mmH, mT, mR, mRf, mAl, mAs, mAz, mAn, Int.reduceToNat, Int32.reduceOfInt, Int64.reduceOfInt, Int.reduceAdd, swE, Nat.reduceDiv, Nat.reduceMod, Nat.reduceAdd, Nat.reduceMul, Nat.reduceEqDiff, Nat.reduceLeDiff, Nat.zero_le, List.length_nil, List.length_cons, Nat.zero_add, true_or, or_true, false_or, or_false, true_and, and_true, and_self, mb_01, mb_t, mb_f, h.1.2.2, c1, mb_01, true_implies, not_true_eq_false, not_false_eq_true, false_implies, and_true, true_and]
    rw [show (b || (List.range' o 0).any fun o => (G o).2.1 == 1 && (sR s o).1 == (sR s r).1) = b from Bool.or_false b] at k
    exact k
  | w + 1, o, b, o1, ho, k => by
    have v3 := hv.1.2.2.1
    rw [hk_171_4]
    have c1 : (nI (sNr s) < nI o) = False := by rw [lt_nI (by omega) (by omega)]; exact eq_false (by omega)
    obtain ⟨⟨g1, g1', _⟩, g2, g3, g4⟩ := hG o o1 (by omega)
    have oF := isP_F hv.1.1 (hv.2.2.2.1 o o1 (by omega)).1
    have rF := isP_F hv.1.1 (hv.2.2.2.1 r h1 h2).1
    have so := (un_sl oF).2
    have sr := (un_sl rF).2
    have e1 : (nI o = nI r) = (o = r) := eq_nI (by omega) (by omega)
    have e2 : (nI (G o).1 ≤ 0) = ((G o).1 ≤ 0) := le_nI (b := 0) (by omega) (by omega)
    have e3 : (nI (G o).2.1 = 1) = ((G o).2.1 = 1) := eq_nI (b := 1) (by omega) (by omega)
    have e4 : (nI (sl (sR s o).1) = nI (sl (sR s r).1)) = ((sR s o).1 = (sR s r).1) := by rw [eq_nI (by omega) (by omega)]; exact propext (sl_inj oF rF)
    have ih := fun b' => w_again_loop h1 h2 h0 hv h hG w (o + 1) b' (by omega) (by omega)
    rw [nI_succ] at ih
    rw [List.range'_succ, List.any_cons] at k
    simp only [bk_171.2.1, bk_171.2.2.1, bk_171.2.2.2.1, mmE, mmE0, mmH, mT, mR, mRf, mAl, mAs, mAz, mAn, Int.reduceToNat, Int32.reduceOfInt, Int64.reduceOfInt, Int.reduceAdd, swE, Nat.reduceDiv, Nat.reduceMod, Nat.reduceAdd, Nat.reduceMul, Nat.reduceEqDiff, Nat.reduceLeDiff, Nat.zero_le, List.length_nil, List.length_cons, Nat.zero_add, true_or, or_true, false_or, or_false, true_and, and_true, and_self, mb_01, mb_t, mb_f, h.1.2.2, c1, ix41 (show o < 41 by omega), ix41 (show r < 41 by omega), g1, g1', (h.2.2.1 o o1 (by omega)).2.2.1, (h.2.2.1 r h1 h2).2.2.1, e1, e2, e3, e4, mb_0, true_implies, not_true_eq_false, not_false_eq_true, false_implies, and_true, true_and]
    cases b with
    | true =>
      simp only [Bool.true_eq_false, true_implies, not_true_eq_false, not_false_eq_true, false_implies, and_true, true_and]
      refine ih true ?_
      rw [Bool.true_or] at k ⊢
      exact k
    | false =>
      rw [Bool.false_or] at k
      simp only [true_implies, not_true_eq_false, not_false_eq_true, false_implies, and_true, true_and]
      have no : ((G o).2.1 == 1 && (sR s o).1 == (sR s r).1) = false → mm_at z (mm_call z d) (mm_code 171) Q 4 [some (.ref 127), some (.int (nI r)), some (.int 0), some (.int (nI o + 1))] [] I J := by
        intro e
        rw [e, Bool.false_or] at k
        refine ih false ?_
        rw [Bool.false_or]
        exact k
      by_cases q1 : o = r
      · simp only [eq_true q1, true_implies, not_true_eq_false, not_false_eq_true, false_implies, and_true, true_and]
        refine no ?_
        rw [q1, h0]
        rfl
      · by_cases q2 : (G o).1 ≤ 0
        · simp only [q1, eq_true q2, true_implies, not_true_eq_false, not_false_eq_true, false_implies, and_true, true_and]
          refine no ?_
          rw [g4 (by omega)]
          rfl
        · by_cases q3 : (G o).2.1 = 1
          · by_cases q4 : (sR s o).1 = (sR s r).1
            · simp only [q1, q2, eq_true q3, eq_true q4, true_implies, not_true_eq_false, not_false_eq_true, false_implies, and_true, true_and]
              refine ih true ?_
              rw [show ((G o).2.1 == 1) = true from beq_iff_eq.mpr q3, show ((sR s o).1 == (sR s r).1) = true from beq_iff_eq.mpr q4, Bool.true_and, Bool.true_or] at k
              rw [Bool.true_or]
              exact k
            · simp only [q1, q2, eq_true q3, q4, true_implies, not_true_eq_false, not_false_eq_true, false_implies, and_true, true_and]
              refine no ?_
              rw [show ((sR s o).1 == (sR s r).1) = false from beq_eq_false_iff_ne.mpr q4, Bool.and_false]
          · simp only [q1, q2, q3, true_implies, not_true_eq_false, not_false_eq_true, false_implies, and_true, true_and]
            refine no ?_
            rw [show ((G o).2.1 == 1) = false from beq_eq_false_iff_ne.mpr q3, Bool.false_and]
theorem c_again {r : Nat} (h1 : 1 ≤ r) (h2 : r ≤ sNr s) (h0 : (G r).2.1 = 0) (hv : va s) (h : shM I s) (hG : gMs I (sNr s) G) (Q : Option Value → mm_I → mm_J → Prop) : mm_call z (d + 1) 171 [.ref 127, .int (nI r)] I J Q = Q (some (.int (mb ((List.range' 1 (sNr s)).any fun o => (G o).2.1 == 1 && (sR s o).1 == (sR s r).1)))) I J := by
  refine mm_ev ?_ Q
  simp only [ce_171, bk_171.1, mmE, mmE0, mmH, mT, mR, mRf, mAl, mAs, mAz, mAn, Int.reduceToNat, Int32.reduceOfInt, Int64.reduceOfInt, Int.reduceAdd, swE, Nat.reduceDiv, Nat.reduceMod, Nat.reduceAdd, Nat.reduceMul, Nat.reduceEqDiff, Nat.reduceLeDiff, Nat.zero_le, List.length_nil, List.length_cons, Nat.zero_add, true_or, or_true, false_or, or_false, true_and, and_true, and_self, mb_01, mb_t, mb_f]
  exact w_again_loop (z := z) (d := d) h1 h2 h0 hv h hG (sNr s) 1 false (by omega) (by omega) ⟨rfl, rfl, rfl⟩
/-- good figures as the reference keeps them -/
def gfM (I : mm_I) (s : st_T) : Prop := ∀ f, f < sNf s → I 156 f = mb (gfS s f)
theorem w_seen_loop {r : Nat} (h1 : 1 ≤ r) (h2 : r ≤ sNr s) (hv : va s) (h : shM I s) (hg : gfM I s) : ∀ (w f : Nat) (b c : Bool), f + w = sNf s → Q (some (.int (mb ((b || (List.range' f w).any (gfS s)) && (c && (List.range' f w).all fun f => !gfS s f || fg_shows (sF s f) (sR s r).1))))) I J → mm_at z (mm_call z (d + 4)) (mm_code 172) Q 22 [some (.ref 127), some (.int (nI r)), some (.int (mb b)), some (.int (mb c)), some (.int (nI f))] [] I J
  | 0, f, b, c, hf, k => by
    have v2 := hv.1.2.1
    rw [hk_172_22]
    have c1 : (nI (sNf s) ≤ nI f) = True := by rw [le_nI (by omega) (by omega)]; exact eq_true (by omega)
    simp only [bk_172.2.2.2.2.2.2.2.2.2.1, bk_172.2.2.2.2.2.2.2.2.2.2.1, bk_172.2.2.2.2.2.2.2.2.2.2.2, mmE, mmE0, mmH, mT, mR, mRf, mAl, mAs, mAz, mAn, Int.reduceToNat, Int32.reduceOfInt, Int64.reduceOfInt, Int.reduceAdd, swE, Nat.reduceDiv, Nat.reduceMod, Nat.reduceAdd, Nat.reduceMul, Nat.reduceEqDiff, Nat.reduceLeDiff, Nat.zero_le, List.length_nil, List.length_cons, Nat.zero_add, true_or, or_true, false_or, or_false, true_and, and_true, and_self, mb_01, mb_t, mb_f, h.1.2.1, c1, mb_0, z01, true_implies, not_true_eq_false, not_false_eq_true, false_implies, and_true, true_and]
    rw [show (b || (List.range' f 0).any (gfS s)) = b from Bool.or_false b, show (c && (List.range' f 0).all fun f => !gfS s f || fg_shows (sF s f) (sR s r).1) = c from Bool.and_true c] at k
    cases b with
    | false => simp only [true_implies, not_true_eq_false, not_false_eq_true, false_implies, and_true, true_and]; exact k
    | true =>
      cases c with
      | false => simp only [Bool.true_eq_false, true_implies, not_true_eq_false, not_false_eq_true, false_implies, and_true, true_and]; exact k
      | true => simp only [Bool.true_eq_false, true_implies, not_true_eq_false, not_false_eq_true, false_implies, and_true, true_and]; exact k
  | w + 1, f, b, c, hf, k => by
    have v2 := hv.1.2.1
    have v3 := hv.1.2.2.1
    rw [hk_172_22]
    have c1 : (nI (sNf s) ≤ nI f) = False := by rw [le_nI (by omega) (by omega)]; exact eq_false (by omega)
    have rF := isP_F hv.1.1 (hv.2.2.2.1 r h1 h2).1
    have ih := fun b' c' => w_seen_loop h1 h2 hv h hg w (f + 1) b' c' (by omega)
    rw [nI_succ] at ih
    rw [List.range'_succ, List.any_cons, List.all_cons] at k
    simp only [bk_172.2.2.2.1, bk_172.2.2.2.2.1, bk_172.2.2.2.2.2.1, bk_172.2.2.2.2.2.2.1, bk_172.2.2.2.2.2.2.2.1, bk_172.2.2.2.2.2.2.2.2.1, mmE, mmE0, mmH, mT, mR, mRf, mAl, mAs, mAz, mAn, Int.reduceToNat, Int32.reduceOfInt, Int64.reduceOfInt, Int.reduceAdd, swE, Nat.reduceDiv, Nat.reduceMod, Nat.reduceAdd, Nat.reduceMul, Nat.reduceEqDiff, Nat.reduceLeDiff, Nat.zero_le, List.length_nil, List.length_cons, Nat.zero_add, true_or, or_true, false_or, or_false, true_and, and_true, and_self, mb_01, mb_t, mb_f, Option.toList_some, Option.toList_none, List.cons_append, List.nil_append, h.1.2.1, c1, ix6 (show f < 6 by omega), hg f (by omega), c_rowHolds (show f < 6 by omega) (show r ≤ 40 by omega) (hv.2.1 f (by omega)).1 (h.2.1 f (by omega)) rF (h.2.2.1 r h1 h2), mb_0, true_implies, not_true_eq_false, not_false_eq_true, false_implies, and_true, true_and]
    cases eg : gfS s f with
    | false =>
      rw [eg, Bool.false_or, Bool.not_false, Bool.true_or, Bool.true_and] at k
      cases b with
      | false =>
        cases c with
        | false => simp only [true_implies, not_true_eq_false, not_false_eq_true, false_implies, and_true, true_and]; exact ih false false k
        | true => simp only [Bool.true_eq_false, true_implies, not_true_eq_false, not_false_eq_true, false_implies, and_true, true_and]; exact ih false true k
      | true =>
        cases c with
        | false => simp only [Bool.true_eq_false, true_implies, not_true_eq_false, not_false_eq_true, false_implies, and_true, true_and]; exact ih true false k
        | true => simp only [Bool.true_eq_false, true_implies, not_true_eq_false, not_false_eq_true, false_implies, and_true, true_and]; exact ih true true k
    | true =>
      rw [eg, Bool.true_or, Bool.not_true, Bool.false_or, Bool.or_true] at k
      have fin : ∀ c', c' = (c && fg_shows (sF s f) (sR s r).1) → mm_at z (mm_call z (d + 4)) (mm_code 172) Q 22 [some (.ref 127), some (.int (nI r)), some (.int (mb true)), some (.int (mb c')), some (.int (nI f + 1))] [] I J := by
        intro c' hc
        refine ih true c' ?_
        rw [Bool.true_or, hc, Bool.and_assoc]
        exact k
      cases b with
      | false =>
        cases c with
        | false => simp only [Bool.true_eq_false, true_implies, not_true_eq_false, not_false_eq_true, false_implies, and_true, true_and]; exact fin false rfl
        | true =>
          simp only [Bool.true_eq_false, true_implies, not_true_eq_false, not_false_eq_true, false_implies, and_true, true_and]
          cases es : fg_shows (sF s f) (sR s r).1 with
          | false => simp only [true_implies, not_true_eq_false, not_false_eq_true, false_implies, and_true, true_and]; exact fin false (by rw [es]; rfl)
          | true => simp only [Bool.true_eq_false, true_implies, not_true_eq_false, not_false_eq_true, false_implies, and_true, true_and]; exact fin true (by rw [es]; rfl)
      | true =>
        cases c with
        | false => simp only [Bool.true_eq_false, true_implies, not_true_eq_false, not_false_eq_true, false_implies, and_true, true_and]; exact fin false rfl
        | true =>
          simp only [Bool.true_eq_false, true_implies, not_true_eq_false, not_false_eq_true, false_implies, and_true, true_and]
          cases es : fg_shows (sF s f) (sR s r).1 with
          | false => simp only [true_implies, not_true_eq_false, not_false_eq_true, false_implies, and_true, true_and]; exact fin false (by rw [es]; rfl)
          | true => simp only [Bool.true_eq_false, true_implies, not_true_eq_false, not_false_eq_true, false_implies, and_true, true_and]; exact fin true (by rw [es]; rfl)
theorem agn_all {s : st_T} {f : Nat} : agS s f = none ↔ ((List.range' 0 (sNf s)).all fun i => !gfS s i || fg_shows (sF s i) f) = true := by
  unfold agS agn
  rw [List.find?_eq_none, List.all_eq_true]
  constructor
  · intro q i hi
    have := q i hi
    have e : gf (sNp s) (sNr s) (sF s) (sR s) i = gfS s i := rfl
    rw [e] at this
    cases h1 : gfS s i <;> cases h2 : fg_shows (sF s i) f <;> simp [h1, h2] at this ⊢
  · intro q i hi w
    have := q i hi
    have e : gf (sNp s) (sNr s) (sF s) (sR s) i = gfS s i := rfl
    rw [e] at w
    cases h1 : gfS s i <;> cases h2 : fg_shows (sF s i) f <;> simp [h1, h2] at this w
theorem c_seen {r : Nat} (h1 : 1 ≤ r) (h2 : r ≤ sNr s) (hv : va s) (h : shM I s) (hg : gfM I s) (Q : Option Value → mm_I → mm_J → Prop) : mm_call z (d + 5) 172 [.ref 127, .int (nI r)] I J Q = Q (some (.int (mb (decide (kd (sR s r).1 = 6 ∧ ((List.range' 0 (sNf s)).any (gfS s)) = true ∧ agS s (sR s r).1 = none))))) I J := by
  refine mm_ev ?_ Q
  generalize hres : decide (kd (sR s r).1 = 6 ∧ ((List.range' 0 (sNf s)).any (gfS s)) = true ∧ agS s (sR s r).1 = none) = res
  have v3 := hv.1.2.2.1
  have e6 : (nI (kd (sR s r).1) = 6) = (kd (sR s r).1 = 6) := eq_nI (b := 6) (by have := kd_lt (sR s r).1; omega) (by omega)
  simp only [ce_172, bk_172.1, bk_172.2.1, bk_172.2.2.1, mmE, mmE0, mmH, mT, mR, mRf, mAl, mAs, mAz, mAn, Int.reduceToNat, Int32.reduceOfInt, Int64.reduceOfInt, Int.reduceAdd, swE, Nat.reduceDiv, Nat.reduceMod, Nat.reduceAdd, Nat.reduceMul, Nat.reduceEqDiff, Nat.reduceLeDiff, Nat.zero_le, List.length_nil, List.length_cons, Nat.zero_add, true_or, or_true, false_or, or_false, true_and, and_true, and_self, mb_01, mb_t, mb_f, ix41 (show r < 41 by omega), (h.2.2.1 r h1 h2).1, e6, true_implies, not_true_eq_false, not_false_eq_true, false_implies, and_true, true_and]
  have key := fun c k => w_seen_loop (z := z) (d := d) (J := J) (Q := fun v a b => v = some (.int (mb res)) ∧ a = I ∧ b = J) h1 h2 hv h hg (sNf s) 0 false c (by omega) ⟨k, rfl, rfl⟩
  have ea := agn_all (s := s) (f := (sR s r).1)
  by_cases q : kd (sR s r).1 = 6
  · simp only [eq_true q, true_implies, not_true_eq_false, not_false_eq_true, false_implies, and_true, true_and]
    refine key true ?_
    rw [Bool.false_or, Bool.true_and, ← hres]
    congr 3
    rw [Bool.eq_iff_iff, decide_eq_true_eq, Bool.and_eq_true, ea]
    exact ⟨fun w => ⟨q, w.1, w.2⟩, fun w => ⟨w.2.1, w.2.2⟩⟩
  · simp only [q, true_implies, not_true_eq_false, not_false_eq_true, false_implies, and_true, true_and]
    refine key false ?_
    rw [Bool.false_and, Bool.and_false, ← hres, decide_eq_false (fun w => q w.1)]
end MA
