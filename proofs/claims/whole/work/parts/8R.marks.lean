/-! marks -/
def mkW (w : Nat) : Nat := if w = 4 then 2 else if w = 3 ∨ w = 5 then 1 else 0
def mkR (x : Nat) : Nat := if x = 1 then 0 else 2
def mkD (s : st_T) : Bool := decide (0 < sNr s) && (sHg s && ((sG s (sNr s)).2.1 == 1 && (sR s (sNr s)).1 == (sR s 0).1))
def sm (f : Nat → Nat) (r w : Nat) : Nat := ((List.range' r w).map f).sum
theorem sm_0 {f : Nat → Nat} {r : Nat} : sm f r 0 = 0 := rfl
theorem sm_S {f : Nat → Nat} {r w : Nat} : sm f r (w + 1) = f r + sm f (r + 1) w := by
  unfold sm
  rw [List.range'_succ, List.map_cons, List.sum_cons]
def o_marks (s : st_T) (x : Int32) : op_T := (if x = 0 ∨ x = 1 then (if sGd s = true then (if x = 0 then nI (sm (fun r => mkW (sG s r).2.2.1) 1 (sNr s) + if mkD s = true then 5 else 0) else nI ((if sHg s = true then 5 else 0) + sm (fun r => mkR (sR s r).2.1) 1 (sNr s))) else -3) else -2, s)
section MK
variable {z : mm_S} {d : Nat} {I : mm_I} {J : mm_J} {s : st_T} {Q : Option Value → mm_I → mm_J → Prop}
theorem nI_a (a b : Nat) : nI a + nI b = nI (a + b) := (Int32.ofNat_add a b).symm
theorem w_got_loop (hv : inv s) (h : repC I J s) (hg : sGd s = true) : ∀ (w r a : Nat) (o3 : Option Value), 1 ≤ r → r + w = sNr s + 1 → (∀ o2 o3, mm_at z (mm_call z (d + 1)) (mm_code 26) Q 67 [some (.ref 112), some (.int (nI (a + sm (fun r => mkW (sG s r).2.2.1) r w))), o2, o3] [] I J) → mm_at z (mm_call z (d + 1)) (mm_code 26) Q 4 [some (.ref 112), some (.int (nI a)), some (.int (nI r)), o3] [] I J
  | 0, r, a, o3, h1, hr, K => by
    have v3 := hv.1.1.2.2.1
    rw [hk_26_4]
    have c1 : (nI (sNr s) < nI r) = True := by rw [lt_nI (by omega) (by omega)]; exact eq_true (by omega)
    simp only [mmE, mmE0, mmH, mT, mR, mRf, mAl, mAs, mAz, mAn, Int.reduceToNat, Int32.reduceOfInt, Int64.reduceOfInt, Int.reduceAdd, swE, Nat.reduceDiv, Nat.reduceMod, Nat.reduceAdd, Nat.reduceMul, Nat.reduceEqDiff, Nat.reduceLeDiff, Nat.zero_le, List.length_nil, List.length_cons, Nat.zero_add, true_or, or_true, false_or, or_false, true_and, and_true, and_self, mb_01, mb_t, mb_f, h.1.2.2.1, c1, true_implies, not_true_eq_false, not_false_eq_true, false_implies, and_true, true_and]
    exact K _ _
  | w + 1, r, a, o3, h1, hr, K => by
    have v3 := hv.1.1.2.2.1
    have h2 : r ≤ sNr s := by omega
    obtain ⟨t1, _⟩ := mTr4 r (by omega) h1
    obtain ⟨g1, g2, g3, g4, g5⟩ := gCs_of hv h hg r h1 h2
    have e4 : (nI (sG s r).2.2.1 = 4) = ((sG s r).2.2.1 = 4) := eq_nI (b := 4) (by omega) (by omega)
    have e3 : (nI (sG s r).2.2.1 = 3) = ((sG s r).2.2.1 = 3) := eq_nI (b := 3) (by omega) (by omega)
    have e5 : (nI (sG s r).2.2.1 = 5) = ((sG s r).2.2.1 = 5) := eq_nI (b := 5) (by omega) (by omega)
    rw [hk_26_4]
    have c1 : (nI (sNr s) < nI r) = False := by rw [lt_nI (by omega) (by omega)]; exact eq_false (by omega)
    have p1 : nI a + 1 = nI (a + 1) := (nI_succ a).symm
    have p2 : nI a + 2 = nI (a + 2) := nI_a a 2
    rw [sm_S] at K
    have ih := fun a' o3 => w_got_loop hv h hg w (r + 1) a' o3 (by omega) (by omega)
    rw [nI_succ] at ih
    simp only [bk_26.2.1, bk_26.2.2.1, bk_26.2.2.2.1, bk_26.2.2.2.2.1, mmE, mmE0, mmH, mT, mR, mRf, mAl, mAs, mAz, mAn, Int.reduceToNat, Int32.reduceOfInt, Int64.reduceOfInt, Int.reduceAdd, swE, Nat.reduceDiv, Nat.reduceMod, Nat.reduceAdd, Nat.reduceMul, Nat.reduceEqDiff, Nat.reduceLeDiff, Nat.zero_le, List.length_nil, List.length_cons, Nat.zero_add, true_or, or_true, false_or, or_false, true_and, and_true, and_self, mb_01, mb_t, mb_f, Option.toList_some, Option.toList_none, List.cons_append, List.nil_append, h.1.2.2.1, c1, c_rowAt v3 h.1.2.2.1 h1 h2, t1, g1.2.2.1, e3, e4, e5, true_implies, not_true_eq_false, not_false_eq_true, false_implies, and_true, true_and]
    by_cases q4 : (sG s r).2.2.1 = 4
    · have q3 : ((sG s r).2.2.1 = 3) = False := eq_false (by omega)
      have q5 : ((sG s r).2.2.1 = 5) = False := eq_false (by omega)
      simp only [eq_true q4, q3, q5, p2, true_implies, not_true_eq_false, not_false_eq_true, false_implies, and_true, true_and]
      refine ih (a + 2) _ (fun o2 o3 => ?_)
      have := K o2 o3
      rw [show mkW (sG s r).2.2.1 = 2 by unfold mkW; rw [if_pos q4], ← Nat.add_assoc] at this
      exact this
    · by_cases q3 : (sG s r).2.2.1 = 3
      · simp only [q4, eq_true q3, p1, true_implies, not_true_eq_false, not_false_eq_true, false_implies, and_true, true_and]
        refine ih (a + 1) _ (fun o2 o3 => ?_)
        have := K o2 o3
        rw [show mkW (sG s r).2.2.1 = 1 by unfold mkW; rw [if_neg q4, if_pos (Or.inl q3)], ← Nat.add_assoc] at this
        exact this
      · by_cases q5 : (sG s r).2.2.1 = 5
        · simp only [q4, q3, eq_true q5, p1, true_implies, not_true_eq_false, not_false_eq_true, false_implies, and_true, true_and]
          refine ih (a + 1) _ (fun o2 o3 => ?_)
          have := K o2 o3
          rw [show mkW (sG s r).2.2.1 = 1 by unfold mkW; rw [if_neg q4, if_pos (Or.inr q5)], ← Nat.add_assoc] at this
          exact this
        · simp only [q4, q3, q5, true_implies, not_true_eq_false, not_false_eq_true, false_implies, and_true, true_and]
          refine ih a _ (fun o2 o3 => ?_)
          have := K o2 o3
          rw [show mkW (sG s r).2.2.1 = 0 by unfold mkW; rw [if_neg q4, if_neg (by omega)], Nat.zero_add] at this
          exact this
theorem c_got (hv : inv s) (h : repC I J s) (hg : sGd s = true) (Q : Option Value → mm_I → mm_J → Prop) : mm_call z (d + 2) 26 [.ref 112] I J Q = Q (some (.int (nI (sm (fun r => mkW (sG s r).2.2.1) 1 (sNr s) + if mkD s = true then 5 else 0)))) I J := by
  refine mm_ev ?_ Q
  obtain ⟨⟨a1, a2, a3, a4⟩, _, _, _, hr, hgo, _, _⟩ := id h
  have v3 := hv.1.1.2.2.1
  simp only [ce_26, bk_26.1, mmE, mmE0, mmH, mT, mR, mRf, mAl, mAs, mAz, mAn, Int.reduceToNat, Int32.reduceOfInt, Int64.reduceOfInt, Int.reduceAdd, swE, Nat.reduceDiv, Nat.reduceMod, Nat.reduceAdd, Nat.reduceMul, Nat.reduceEqDiff, Nat.reduceLeDiff, Nat.zero_le, List.length_nil, List.length_cons, Nat.zero_add, true_or, or_true, false_or, or_false, true_and, and_true, and_self, mb_01, mb_t, mb_f]
  refine w_got_loop (z := z) (d := d) hv h hg (sNr s) 1 0 _ (by omega) (by omega) (fun o2 o3 => ?_)
  rw [Nat.zero_add]
  generalize sm (fun r => mkW (sG s r).2.2.1) 1 (sNr s) = A
  have p5 : nI A + 5 = nI (A + 5) := nI_a A 5
  have z1 : ((1 : Int32) = 0) = False := by decide
  by_cases n0 : sNr s = 0
  · have er : inR (sNr s) (nI (sNr s)) = false := by rw [inR_nI (by omega)]; exact decide_eq_false (by omega)
    have eD : mkD s = false := by unfold mkD; rw [decide_eq_false (by omega), Bool.false_and]
    simp only [bk_26.2.2.2.2.2.1, bk_26.2.2.2.2.2.2.1, bk_26.2.2.2.2.2.2.2.1, bk_26.2.2.2.2.2.2.2.2.1, bk_26.2.2.2.2.2.2.2.2.2, mmE, mmE0, mmH, mT, mR, mRf, mAl, mAs, mAz, mAn, Int.reduceToNat, Int32.reduceOfInt, Int64.reduceOfInt, Int.reduceAdd, swE, Nat.reduceDiv, Nat.reduceMod, Nat.reduceAdd, Nat.reduceMul, Nat.reduceEqDiff, Nat.reduceLeDiff, Nat.zero_le, List.length_nil, List.length_cons, Nat.zero_add, true_or, or_true, false_or, or_false, true_and, and_true, and_self, mb_01, mb_t, mb_f, Option.toList_some, Option.toList_none, List.cons_append, List.nil_append, a3, c_rowAt_no v3 a3 er, eD, true_implies, not_true_eq_false, not_false_eq_true, false_implies, and_true, true_and, Bool.false_eq_true, if_false, Nat.add_zero]
  · obtain ⟨t1, _⟩ := mTr4 (sNr s) (by omega) (by omega)
    obtain ⟨g1, g2, g3, g4, g5⟩ := gCs_of hv h hg (sNr s) (by omega) (Nat.le_refl _)
    have e1 : (nI (sG s (sNr s)).2.1 = 1) = ((sG s (sNr s)).2.1 = 1) := eq_nI (b := 1) (by omega) (by omega)
    have f1 := (hr (sNr s) (by omega) (Nat.le_refl _)).1
    simp only [bk_26.2.2.2.2.2.1, bk_26.2.2.2.2.2.2.1, bk_26.2.2.2.2.2.2.2.1, bk_26.2.2.2.2.2.2.2.2.1, bk_26.2.2.2.2.2.2.2.2.2, mmE, mmE0, mmH, mT, mR, mRf, mAl, mAs, mAz, mAn, Int.reduceToNat, Int32.reduceOfInt, Int64.reduceOfInt, Int.reduceAdd, swE, Nat.reduceDiv, Nat.reduceMod, Nat.reduceAdd, Nat.reduceMul, Nat.reduceEqDiff, Nat.reduceLeDiff, Nat.zero_le, List.length_nil, List.length_cons, Nat.zero_add, true_or, or_true, false_or, or_false, true_and, and_true, and_self, mb_01, mb_t, mb_f, Option.toList_some, Option.toList_none, List.cons_append, List.nil_append, a3, a4, c_rowAt v3 a3 (show 1 ≤ sNr s by omega) (Nat.le_refl _), t1, g1.2.1, e1, f1, mb0, true_implies, not_true_eq_false, not_false_eq_true, false_implies, and_true, true_and]
    cases eh : sHg s with
    | false =>
      have eD : mkD s = false := by unfold mkD; rw [eh, Bool.false_and, Bool.and_false]
      simp only [eD, true_implies, not_true_eq_false, not_false_eq_true, false_implies, and_true, true_and, Bool.false_eq_true, if_false, Nat.add_zero]
    | true =>
      have f0 := (hgo eh).1
      have i1 := isF_lt (isP_F hv.1.1.1 (hv.1.2.2.2.1 (sNr s) (by omega) (Nat.le_refl _)).1)
      have i2 := isF_lt (isP_F hv.1.1.1 (hv.1.2.2.2.2 eh).1)
      have ef : (nI (sR s (sNr s)).1 = nI (sR s 0).1) = ((sR s (sNr s)).1 = (sR s 0).1) := eq_nI (by omega) (by omega)
      simp only [f0, ef, true_implies, not_true_eq_false, not_false_eq_true, false_implies, and_true, true_and, Bool.true_eq_false]
      by_cases q1 : (sG s (sNr s)).2.1 = 1
      · by_cases q2 : (sR s (sNr s)).1 = (sR s 0).1
        · have eD : mkD s = true := by unfold mkD; rw [eh, decide_eq_true (by omega), beq_iff_eq.mpr q1, beq_iff_eq.mpr q2]; rfl
          simp only [eD, eq_true q1, eq_true q2, z1, p5, true_implies, not_true_eq_false, not_false_eq_true, false_implies, and_true, true_and, if_true]
        · have eD : mkD s = false := by unfold mkD; rw [beq_eq_false_iff_ne.mpr q2, Bool.and_false, Bool.and_false, Bool.and_false]
          simp only [eD, eq_true q1, q2, true_implies, not_true_eq_false, not_false_eq_true, false_implies, and_true, true_and, Bool.false_eq_true, if_false, Nat.add_zero]
      · have eD : mkD s = false := by unfold mkD; rw [beq_eq_false_iff_ne.mpr q1, Bool.false_and, Bool.and_false, Bool.and_false]
        simp only [eD, q1, true_implies, not_true_eq_false, not_false_eq_true, false_implies, and_true, true_and, Bool.false_eq_true, if_false, Nat.add_zero]
theorem w_most_loop (hv : inv s) (h : repC I J s) : ∀ (w r a : Nat) (o3 : Option Value), 1 ≤ r → r + w = sNr s + 1 → Q (some (.int (nI (a + sm (fun r => mkR (sR s r).2.1) r w)))) I J → mm_at z (mm_call z (d + 1)) (mm_code 27) Q 18 [some (.ref 112), some (.int (nI a)), some (.int (nI r)), o3] [] I J
  | 0, r, a, o3, h1, hr, K => by
    have v3 := hv.1.1.2.2.1
    rw [hk_27_18]
    have c1 : (nI (sNr s) < nI r) = True := by rw [lt_nI (by omega) (by omega)]; exact eq_true (by omega)
    simp only [bk_27.2.2.2.2, mmE, mmE0, mmH, mT, mR, mRf, mAl, mAs, mAz, mAn, Int.reduceToNat, Int32.reduceOfInt, Int64.reduceOfInt, Int.reduceAdd, swE, Nat.reduceDiv, Nat.reduceMod, Nat.reduceAdd, Nat.reduceMul, Nat.reduceEqDiff, Nat.reduceLeDiff, Nat.zero_le, List.length_nil, List.length_cons, Nat.zero_add, true_or, or_true, false_or, or_false, true_and, and_true, and_self, mb_01, mb_t, mb_f, h.1.2.2.1, c1, true_implies, not_true_eq_false, not_false_eq_true, false_implies, and_true, true_and]
    exact K
  | w + 1, r, a, o3, h1, hr, K => by
    have v3 := hv.1.1.2.2.1
    have h2 : r ≤ sNr s := by omega
    obtain ⟨t1, _⟩ := mTr4 r (by omega) h1
    have g1 := (h.2.2.2.2.1 r h1 h2).2.1
    have g2 := (hv.1.2.2.2.1 r h1 h2).2.1
    have e1 : (nI (sR s r).2.1 = 1) = ((sR s r).2.1 = 1) := eq_nI (b := 1) (by omega) (by omega)
    rw [hk_27_18]
    have c1 : (nI (sNr s) < nI r) = False := by rw [lt_nI (by omega) (by omega)]; exact eq_false (by omega)
    have p2 : nI a + 2 = nI (a + 2) := nI_a a 2
    rw [sm_S] at K
    have ih := fun a' o3 => w_most_loop hv h w (r + 1) a' o3 (by omega) (by omega)
    rw [nI_succ] at ih
    simp only [bk_27.2.2.2.1, mmE, mmE0, mmH, mT, mR, mRf, mAl, mAs, mAz, mAn, Int.reduceToNat, Int32.reduceOfInt, Int64.reduceOfInt, Int.reduceAdd, swE, Nat.reduceDiv, Nat.reduceMod, Nat.reduceAdd, Nat.reduceMul, Nat.reduceEqDiff, Nat.reduceLeDiff, Nat.zero_le, List.length_nil, List.length_cons, Nat.zero_add, true_or, or_true, false_or, or_false, true_and, and_true, and_self, mb_01, mb_t, mb_f, Option.toList_some, Option.toList_none, List.cons_append, List.nil_append, h.1.2.2.1, c1, c_rowAt v3 h.1.2.2.1 h1 h2, t1, g1, e1, true_implies, not_true_eq_false, not_false_eq_true, false_implies, and_true, true_and]
    by_cases q : (sR s r).2.1 = 1
    · rw [show mkR (sR s r).2.1 = 0 by unfold mkR; rw [if_pos q], Nat.zero_add] at K
      simp only [eq_true q, true_implies, not_true_eq_false, not_false_eq_true, false_implies, and_true, true_and]
      exact ih a _ K
    · rw [show mkR (sR s r).2.1 = 2 by unfold mkR; rw [if_neg q], ← Nat.add_assoc] at K
      simp only [q, p2, true_implies, not_true_eq_false, not_false_eq_true, false_implies, and_true, true_and]
      exact ih (a + 2) _ K
theorem c_most (hv : inv s) (h : repC I J s) (Q : Option Value → mm_I → mm_J → Prop) : mm_call z (d + 2) 27 [.ref 112] I J Q = Q (some (.int (nI ((if sHg s = true then 5 else 0) + sm (fun r => mkR (sR s r).2.1) 1 (sNr s))))) I J := by
  refine mm_ev ?_ Q
  have a4 := h.1.2.2.2
  simp only [ce_27, bk_27.1, bk_27.2.1, bk_27.2.2.1, mmE, mmE0, mmH, mT, mR, mRf, mAl, mAs, mAz, mAn, Int.reduceToNat, Int32.reduceOfInt, Int64.reduceOfInt, Int.reduceAdd, swE, Nat.reduceDiv, Nat.reduceMod, Nat.reduceAdd, Nat.reduceMul, Nat.reduceEqDiff, Nat.reduceLeDiff, Nat.zero_le, List.length_nil, List.length_cons, Nat.zero_add, true_or, or_true, false_or, or_false, true_and, and_true, and_self, mb_01, mb_t, mb_f, a4, mb0]
  cases eh : sHg s with
  | true =>
    simp only [true_implies, not_true_eq_false, not_false_eq_true, false_implies, and_true, true_and, Bool.true_eq_false, if_true]
    exact w_most_loop (z := z) (d := d) hv h (sNr s) 1 5 _ (by omega) (by omega) ⟨rfl, rfl, rfl⟩
  | false =>
    simp only [true_implies, not_true_eq_false, not_false_eq_true, false_implies, and_true, true_and, Bool.false_eq_true, if_false]
    exact w_most_loop (z := z) (d := d) hv h (sNr s) 1 0 _ (by omega) (by omega) ⟨rfl, rfl, rfl⟩
theorem pC_marks {x : Int32} (hv : inv s) (h : repC I J s) : mm_call z (d + 3) 119 [.ref 0, .int x] I J (okC I J (o_marks s x)) := by
  have hg := h.2.2.2.2.2.2.1
  unfold o_marks
  have z1 : ((1 : Int32) = 0) = False := by decide
  simp only [ce_119, bk_119, mmE, mmE0, mmH, mT, mR, mRf, mAl, mAs, mAz, mAn, Int.reduceToNat, Int32.reduceOfInt, Int64.reduceOfInt, Int.reduceAdd, swE, Nat.reduceDiv, Nat.reduceMod, Nat.reduceAdd, Nat.reduceMul, Nat.reduceEqDiff, Nat.reduceLeDiff, Nat.zero_le, List.length_nil, List.length_cons, Nat.zero_add, true_or, or_true, false_or, or_false, true_and, and_true, and_self, mb_01, mb_t, mb_f, Option.toList_some, Option.toList_none, List.cons_append, List.nil_append, hg, mb0]
  have hk : ∀ v, okC I J (v, s) (some (.int v)) I J := fun v => ⟨rfl, h, frC_rf⟩
  by_cases q0 : x = 0
  · subst q0
    cases eg : sGd s with
    | false => simp only [true_implies, not_true_eq_false, not_false_eq_true, false_implies, and_true, true_and, Bool.false_eq_true, if_true, if_false, true_or]; exact hk _
    | true => simp only [true_implies, not_true_eq_false, not_false_eq_true, false_implies, and_true, true_and, Bool.true_eq_false, if_true, true_or, c_got hv h eg, mmE, mmE0, mmH, mT, mR, mRf, mAl, mAs, mAz, mAn, Int.reduceToNat, Int32.reduceOfInt, Int64.reduceOfInt, Int.reduceAdd, swE, Nat.reduceDiv, Nat.reduceMod, Nat.reduceAdd, Nat.reduceMul, Nat.reduceEqDiff, Nat.reduceLeDiff, Nat.zero_le, List.length_nil, List.length_cons, Nat.zero_add, true_or, or_true, false_or, or_false, true_and, and_true, and_self, mb_01, mb_t, mb_f, Option.toList_some, Option.toList_none, List.cons_append, List.nil_append]; exact hk _
  · by_cases q1 : x = 1
    · subst q1
      cases eg : sGd s with
      | false => simp only [z1, true_implies, not_true_eq_false, not_false_eq_true, false_implies, and_true, true_and, Bool.false_eq_true, if_true, if_false, or_true]; exact hk _
      | true => simp only [z1, true_implies, not_true_eq_false, not_false_eq_true, false_implies, and_true, true_and, Bool.true_eq_false, if_true, if_false, or_true, c_most hv h, mmE, mmE0, mmH, mT, mR, mRf, mAl, mAs, mAz, mAn, Int.reduceToNat, Int32.reduceOfInt, Int64.reduceOfInt, Int.reduceAdd, swE, Nat.reduceDiv, Nat.reduceMod, Nat.reduceAdd, Nat.reduceMul, Nat.reduceEqDiff, Nat.reduceLeDiff, Nat.zero_le, List.length_nil, List.length_cons, Nat.zero_add, true_or, or_true, false_or, or_false, true_and, and_true, and_self, mb_01, mb_t, mb_f, Option.toList_some, Option.toList_none, List.cons_append, List.nil_append]; exact hk _
    · simp only [q0, q1, true_implies, not_true_eq_false, not_false_eq_true, false_implies, and_true, true_and, if_false, or_self]
      exact hk _
theorem w_mk_loop {x : Int32} (hv : inv s) (h : repM I J s) (hg : sGd s = true) : ∀ (w r a b : Nat), 1 ≤ r → r + w = sNr s + 1 → (∀ o4, mm_at z (mm_call z d) (mm_code 194) Q 169 [some (.ref 127), some (.int x), some (.int (nI (a + sm (fun r => mkW (sG s r).2.2.1) r w))), some (.int (nI (b + sm (fun r => mkR (sR s r).2.1) r w))), o4] [] I J) → mm_at z (mm_call z d) (mm_code 194) Q 90 [some (.ref 127), some (.int x), some (.int (nI a)), some (.int (nI b)), some (.int (nI r))] [] I J
  | 0, r, a, b, h1, hr, K => by
    have v3 := hv.1.1.2.2.1
    rw [hk_194_90]
    have c1 : (nI (sNr s) < nI r) = True := by rw [lt_nI (by omega) (by omega)]; exact eq_true (by omega)
    simp only [mmE, mmE0, mmH, mT, mR, mRf, mAl, mAs, mAz, mAn, Int.reduceToNat, Int32.reduceOfInt, Int64.reduceOfInt, Int.reduceAdd, swE, Nat.reduceDiv, Nat.reduceMod, Nat.reduceAdd, Nat.reduceMul, Nat.reduceEqDiff, Nat.reduceLeDiff, Nat.zero_le, List.length_nil, List.length_cons, Nat.zero_add, true_or, or_true, false_or, or_false, true_and, and_true, and_self, mb_01, mb_t, mb_f, h.1.2.2.1, c1, true_implies, not_true_eq_false, not_false_eq_true, false_implies, and_true, true_and]
    exact K _
  | w + 1, r, a, b, h1, hr, K => by
    have v3 := hv.1.1.2.2.1
    have h2 : r ≤ sNr s := by omega
    obtain ⟨_, _, g3, _, _⟩ := (h.2.2.2.2.2.2.2.1 hg).1 r h1 h2
    obtain ⟨_, _, x3, _, _⟩ := (hv.2 hg).1.1 r h1 h2
    have r1 := (h.2.2.2.2.1 r h1 h2).2.2.2.1
    have r2 := (hv.1.2.2.2.1 r h1 h2).2.1
    have e4 : (nI (sG s r).2.2.1 = 4) = ((sG s r).2.2.1 = 4) := eq_nI (b := 4) (by omega) (by omega)
    have e3 : (nI (sG s r).2.2.1 = 3) = ((sG s r).2.2.1 = 3) := eq_nI (b := 3) (by omega) (by omega)
    have e5 : (nI (sG s r).2.2.1 = 5) = ((sG s r).2.2.1 = 5) := eq_nI (b := 5) (by omega) (by omega)
    have e1 : (nI (sR s r).2.1 = 1) = ((sR s r).2.1 = 1) := eq_nI (b := 1) (by omega) (by omega)
    rw [hk_194_90]
    have c1 : (nI (sNr s) < nI r) = False := by rw [lt_nI (by omega) (by omega)]; exact eq_false (by omega)
    have p0 : ∀ n, nI n + 0 = nI n := fun n => Int32.add_zero _
    have p1 : nI a + 1 = nI (a + 1) := (nI_succ a).symm
    have p2 : ∀ a, nI a + 2 = nI (a + 2) := fun a => nI_a a 2
    rw [sm_S, sm_S] at K
    have ih := fun a' b' => w_mk_loop (x := x) hv h hg w (r + 1) a' b' (by omega) (by omega)
    rw [nI_succ] at ih
    have fin : ∀ a', a' = a + mkW (sG s r).2.2.1 → mm_at z (mm_call z d) (mm_code 194) Q 142 [some (.ref 127), some (.int x), some (.int (nI a)), some (.int (nI b)), some (.int (nI r))] [.int (nI a' - nI a), .int (nI a)] I J := by
      intro a' ea
      have es : nI a + (nI a' - nI a) = nI a' := by rw [Int32.add_comm, Int32.sub_add_cancel]
      simp only [bk_194.2.2.2.2.2.2.2.2.2.2.1, bk_194.2.2.2.2.2.2.2.2.2.2.2.1, bk_194.2.2.2.2.2.2.2.2.2.2.2.2.1, mmE, mmE0, mmH, mT, mR, mRf, mAl, mAs, mAz, mAn, Int.reduceToNat, Int32.reduceOfInt, Int64.reduceOfInt, Int.reduceAdd, swE, Nat.reduceDiv, Nat.reduceMod, Nat.reduceAdd, Nat.reduceMul, Nat.reduceEqDiff, Nat.reduceLeDiff, Nat.zero_le, List.length_nil, List.length_cons, Nat.zero_add, true_or, or_true, false_or, or_false, true_and, and_true, and_self, mb_01, mb_t, mb_f, ix41 (show r < 41 by omega), r1, e1, es, p0, p2, true_implies, not_true_eq_false, not_false_eq_true, false_implies, and_true, true_and]
      by_cases q : (sR s r).2.1 = 1
      · simp only [eq_true q, true_implies, not_true_eq_false, not_false_eq_true, false_implies, and_true, true_and]
        refine ih a' b (fun o4 => ?_)
        have := K o4
        rw [show mkR (sR s r).2.1 = 0 by unfold mkR; rw [if_pos q], Nat.zero_add, ← Nat.add_assoc, ← ea] at this
        exact this
      · simp only [q, true_implies, not_true_eq_false, not_false_eq_true, false_implies, and_true, true_and]
        refine ih a' (b + 2) (fun o4 => ?_)
        have := K o4
        rw [show mkR (sR s r).2.1 = 2 by unfold mkR; rw [if_neg q], ← Nat.add_assoc, ← Nat.add_assoc, ← ea] at this
        exact this
    have s0 : (0 : Int32) = nI a - nI a := (Int32.sub_self _).symm
    have s1 : (1 : Int32) = nI (a + 1) - nI a := by rw [← nI_a, Int32.add_comm, Int32.add_sub_cancel]; rfl
    have s2 : (2 : Int32) = nI (a + 2) - nI a := by rw [← nI_a, Int32.add_comm, Int32.add_sub_cancel]; rfl
    simp only [bk_194.2.2.2.2.2.2.2.1, bk_194.2.2.2.2.2.2.2.2.1, bk_194.2.2.2.2.2.2.2.2.2.1, mmE, mmE0, mmH, mT, mR, mRf, mAl, mAs, mAz, mAn, Int.reduceToNat, Int32.reduceOfInt, Int64.reduceOfInt, Int.reduceAdd, swE, Nat.reduceDiv, Nat.reduceMod, Nat.reduceAdd, Nat.reduceMul, Nat.reduceEqDiff, Nat.reduceLeDiff, Nat.zero_le, List.length_nil, List.length_cons, Nat.zero_add, true_or, or_true, false_or, or_false, true_and, and_true, and_self, mb_01, mb_t, mb_f, h.1.2.2.1, c1, ix41 (show r < 41 by omega), g3, e3, e4, e5, true_implies, not_true_eq_false, not_false_eq_true, false_implies, and_true, true_and]
    by_cases q4 : (sG s r).2.2.1 = 4
    · simp only [eq_true q4, true_implies, not_true_eq_false, not_false_eq_true, false_implies, and_true, true_and]
      rw [s2]
      exact fin _ (by unfold mkW; rw [if_pos q4])
    · by_cases q3 : (sG s r).2.2.1 = 3
      · simp only [q4, eq_true q3, true_implies, not_true_eq_false, not_false_eq_true, false_implies, and_true, true_and]
        rw [s1]
        exact fin _ (by unfold mkW; rw [if_neg q4, if_pos (Or.inl q3)])
      · by_cases q5 : (sG s r).2.2.1 = 5
        · simp only [q4, q3, eq_true q5, true_implies, not_true_eq_false, not_false_eq_true, false_implies, and_true, true_and]
          rw [s1]
          exact fin _ (by unfold mkW; rw [if_neg q4, if_pos (Or.inr q5)])
        · simp only [q4, q3, q5, true_implies, not_true_eq_false, not_false_eq_true, false_implies, and_true, true_and]
          rw [s0]
          exact fin _ (by unfold mkW; rw [if_neg q4, if_neg (by omega)]; rfl)
theorem pM_marks {x : Int32} (hv : inv s) (h : repM I J s) : mm_call z (d + 2) 194 [.ref 127, .int x] I J (okM I J (o_marks s x)) := by
  obtain ⟨⟨a1, a2, a3, a4⟩, _, _, _, hr, hgo, hg, hrg, _⟩ := id h
  have v3 := hv.1.1.2.2.1
  have hk : ∀ v, okM I J (v, s) (some (.int v)) I J := fun v => ⟨rfl, h, frM_rf⟩
  have z1 : ((1 : Int32) = 0) = False := by decide
  have e2 : (Int64.ofInt 0 : Int64) = 0 ∧ (Int64.ofInt 1 : Int64) = (nI 2 - 1).toInt64 := by decide
  unfold o_marks
  simp only [ce_194, bk_194.1, bk_194.2.1, mmE, mmE0, mmH, mT, mR, mRf, mAl, mAs, mAz, mAn, Int.reduceToNat, Int32.reduceOfInt, Int64.reduceOfInt, Int.reduceAdd, swE, Nat.reduceDiv, Nat.reduceMod, Nat.reduceAdd, Nat.reduceMul, Nat.reduceEqDiff, Nat.reduceLeDiff, Nat.zero_le, List.length_nil, List.length_cons, Nat.zero_add, true_or, or_true, false_or, or_false, true_and, and_true, and_self, mb_01, mb_t, mb_f, Option.toList_some, Option.toList_none, List.cons_append, List.nil_append, c_in, e2, in_np (show 2 ≤ 10000 by omega), mb_0, hg]
  cases ei : inN 2 x with
  | false =>
    have n0 : ¬ (x = 0 ∨ x = 1) := by
      intro q
      rcases q with rfl | rfl
      · rw [show (0 : Int32) = nI 0 from rfl, inN_nI (by omega)] at ei; cases ei
      · rw [show (1 : Int32) = nI 1 from rfl, inN_nI (by omega)] at ei; cases ei
    simp only [n0, true_implies, not_true_eq_false, not_false_eq_true, false_implies, and_true, true_and, if_false]
    exact hk _
  | true =>
    have n0 : x = 0 ∨ x = 1 := by
      obtain ⟨m, hm, rfl⟩ := inN_t ei
      have : m = 0 ∨ m = 1 := by omega
      rcases this with rfl | rfl
      · exact Or.inl rfl
      · exact Or.inr rfl
    cases eg : sGd s with
    | false =>
      simp only [eq_true n0, true_implies, not_true_eq_false, not_false_eq_true, false_implies, and_true, true_and, Bool.true_eq_false, Bool.false_eq_true, if_true, if_false]
      exact hk _
    | true =>
      simp only [eq_true n0, true_implies, not_true_eq_false, not_false_eq_true, false_implies, and_true, true_and, Bool.true_eq_false, Bool.false_eq_true, if_true, if_false]
      have fin : ∀ (a : Nat), a = (if mkD s = true then 5 else 0) → mm_at z (mm_call z (d + 1)) (mm_code 194) (okM I J (if x = 0 then nI (sm (fun r => mkW (sG s r).2.2.1) 1 (sNr s) + if mkD s = true then 5 else 0) else nI ((if sHg s = true then 5 else 0) + sm (fun r => mkR (sR s r).2.1) 1 (sNr s)), s)) 73 [some (.ref 127), some (.int x), none, none, none] [.int (nI a)] I J := by
        intro a ea
        rw [← ea]
        have fin2 : ∀ (b : Nat), b = (if sHg s = true then 5 else 0) → mm_at z (mm_call z (d + 1)) (mm_code 194) (okM I J (if x = 0 then nI (sm (fun r => mkW (sG s r).2.2.1) 1 (sNr s) + a) else nI ((if sHg s = true then 5 else 0) + sm (fun r => mkR (sR s r).2.1) 1 (sNr s)), s)) 86 [some (.ref 127), some (.int x), some (.int (nI a)), none, none] [.int (nI b)] I J := by
          intro b eb
          rw [← eb]
          simp only [bk_194.2.2.2.2.2.2.1, mmE, mmE0, mmH, mT, mR, mRf, mAl, mAs, mAz, mAn, Int.reduceToNat, Int32.reduceOfInt, Int64.reduceOfInt, Int.reduceAdd, swE, Nat.reduceDiv, Nat.reduceMod, Nat.reduceAdd, Nat.reduceMul, Nat.reduceEqDiff, Nat.reduceLeDiff, Nat.zero_le, List.length_nil, List.length_cons, Nat.zero_add, true_or, or_true, false_or, or_false, true_and, and_true, and_self, mb_01, mb_t, mb_f]
          refine w_mk_loop (z := z) (d := d + 1) hv h eg (sNr s) 1 a b (by omega) (by omega) (fun o4 => ?_)
          simp only [bk_194.2.2.2.2.2.2.2.2.2.2.2.2.2.1, bk_194.2.2.2.2.2.2.2.2.2.2.2.2.2.2.1, bk_194.2.2.2.2.2.2.2.2.2.2.2.2.2.2.2, mmE, mmE0, mmH, mT, mR, mRf, mAl, mAs, mAz, mAn, Int.reduceToNat, Int32.reduceOfInt, Int64.reduceOfInt, Int.reduceAdd, swE, Nat.reduceDiv, Nat.reduceMod, Nat.reduceAdd, Nat.reduceMul, Nat.reduceEqDiff, Nat.reduceLeDiff, Nat.zero_le, List.length_nil, List.length_cons, Nat.zero_add, true_or, or_true, false_or, or_false, true_and, and_true, and_self, mb_01, mb_t, mb_f]
          rw [Nat.add_comm a]
          rcases n0 with rfl | rfl
          · simp only [true_implies, not_true_eq_false, not_false_eq_true, false_implies, and_true, true_and, if_true]; exact hk _
          · simp only [z1, true_implies, not_true_eq_false, not_false_eq_true, false_implies, and_true, true_and, if_false]; exact hk _
        simp only [bk_194.2.2.2.2.1, bk_194.2.2.2.2.2.1, mmE, mmE0, mmH, mT, mR, mRf, mAl, mAs, mAz, mAn, Int.reduceToNat, Int32.reduceOfInt, Int64.reduceOfInt, Int.reduceAdd, swE, Nat.reduceDiv, Nat.reduceMod, Nat.reduceAdd, Nat.reduceMul, Nat.reduceEqDiff, Nat.reduceLeDiff, Nat.zero_le, List.length_nil, List.length_cons, Nat.zero_add, true_or, or_true, false_or, or_false, true_and, and_true, and_self, mb_01, mb_t, mb_f, a4, mb0]
        cases eh : sHg s with
        | true => simp only [true_implies, not_true_eq_false, not_false_eq_true, false_implies, and_true, true_and, Bool.true_eq_false]; have := fin2 5 (by rw [eh]; rfl); rw [eh] at this; exact this
        | false => simp only [true_implies, not_true_eq_false, not_false_eq_true, false_implies, and_true, true_and]; have := fin2 0 (by rw [eh]; rfl); rw [eh] at this; exact this
      have c0 : (nI (sNr s) ≤ 0) = (sNr s = 0) := by rw [show (0 : Int32) = nI 0 from rfl, le_nI (by omega) (by omega)]; exact propext (by omega)
      simp only [bk_194.2.2.1, bk_194.2.2.2.1, mmE, mmE0, mmH, mT, mR, mRf, mAl, mAs, mAz, mAn, Int.reduceToNat, Int32.reduceOfInt, Int64.reduceOfInt, Int.reduceAdd, swE, Nat.reduceDiv, Nat.reduceMod, Nat.reduceAdd, Nat.reduceMul, Nat.reduceEqDiff, Nat.reduceLeDiff, Nat.zero_le, List.length_nil, List.length_cons, Nat.zero_add, true_or, or_true, false_or, or_false, true_and, and_true, and_self, mb_01, mb_t, mb_f, a3, a4, mb0, c0]
      by_cases n1 : sNr s = 0
      · have eD : mkD s = false := by unfold mkD; rw [decide_eq_false (by omega), Bool.false_and]
        simp only [eq_true n1, true_implies, not_true_eq_false, not_false_eq_true, false_implies, and_true, true_and]
        exact fin 0 (by rw [eD]; rfl)
      · obtain ⟨_, g2, _, _, _⟩ := (hrg eg).1 (sNr s) (by omega) (Nat.le_refl _)
        obtain ⟨_, x2, _, _, _⟩ := (hv.2 eg).1.1 (sNr s) (by omega) (Nat.le_refl _)
        have e1 : (nI (sG s (sNr s)).2.1 = 1) = ((sG s (sNr s)).2.1 = 1) := eq_nI (b := 1) (by omega) (by omega)
        have f1 := (hr (sNr s) (by omega) (Nat.le_refl _)).2.2.1
        have i0 : vp_in (0 : Int32) 41 = True ∧ (0 : Int32).toNatClampNeg = 0 := ix41 (x := 0) (by omega)
        simp only [n1, ix41 (show sNr s < 41 by omega), i0, g2, e1, f1, true_implies, not_true_eq_false, not_false_eq_true, false_implies, and_true, true_and]
        cases eh : sHg s with
        | false =>
          have eD : mkD s = false := by unfold mkD; rw [eh, Bool.false_and, Bool.and_false]
          simp only [true_implies, not_true_eq_false, not_false_eq_true, false_implies, and_true, true_and]
          have := fin 0 (by rw [eD]; rfl)
          rw [eh] at this
          exact this
        | true =>
          rw [eh] at fin
          have f0 := (hgo eh).2.2.1
          have i1 := isP_F hv.1.1.1 (hv.1.2.2.2.1 (sNr s) (by omega) (Nat.le_refl _)).1
          have i2 := isP_F hv.1.1.1 (hv.1.2.2.2.2 eh).1
          have l1 := (un_sl i1).2
          have l2 := (un_sl i2).2
          have ef : (nI (sl (sR s (sNr s)).1) = nI (sl (sR s 0).1)) = ((sR s (sNr s)).1 = (sR s 0).1) := by rw [eq_nI (by omega) (by omega)]; exact propext (sl_inj i1 i2)
          simp only [f0, ef, true_implies, not_true_eq_false, not_false_eq_true, false_implies, and_true, true_and, Bool.true_eq_false]
          by_cases q1 : (sG s (sNr s)).2.1 = 1
          · by_cases q2 : (sR s (sNr s)).1 = (sR s 0).1
            · have eD : mkD s = true := by unfold mkD; rw [eh, decide_eq_true (by omega), beq_iff_eq.mpr q1, beq_iff_eq.mpr q2]; rfl
              simp only [eq_true q1, eq_true q2, true_implies, not_true_eq_false, not_false_eq_true, false_implies, and_true, true_and]
              exact fin 5 (by rw [eD]; rfl)
            · have eD : mkD s = false := by unfold mkD; rw [beq_eq_false_iff_ne.mpr q2, Bool.and_false, Bool.and_false, Bool.and_false]
              simp only [eq_true q1, q2, true_implies, not_true_eq_false, not_false_eq_true, false_implies, and_true, true_and]
              exact fin 0 (by rw [eD]; rfl)
          · have eD : mkD s = false := by unfold mkD; rw [beq_eq_false_iff_ne.mpr q1, Bool.false_and, Bool.and_false, Bool.and_false]
            simp only [q1, true_implies, not_true_eq_false, not_false_eq_true, false_implies, and_true, true_and]
            exact fin 0 (by rw [eD]; rfl)
end MK
