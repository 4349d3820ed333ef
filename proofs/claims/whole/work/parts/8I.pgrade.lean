/-! the class grades: the call -/
/-- what is so of a state at all times -/
def inv (s : st_T) : Prop := va s ∧ (sGd s = true → vaG s ∧ sG s = GF s ∧ sC s = ciS s (GF s))
section GY
variable {z : mm_S} {d : Nat} {I : mm_I} {J : mm_J} {s : st_T} {G : Nat → gr_T} {Q : Option Value → mm_I → mm_J → Prop}
theorem gCs_of (hv : inv s) (h : repC I J s) (hg : sGd s = true) : gCs I (sNr s) (sG s) := by
  intro r a b
  obtain ⟨x1, x2, x3, x4, _⟩ := (hv.2 hg).1.1 r a b
  exact ⟨(h.2.2.2.2.2.2.2 hg).1 r a b, x1, x2, x3, x4⟩
theorem frC_G {I' : mm_I} (h : fG I I') : frC I J I' J := fun k hk => ⟨by funext j; exact h k j (by omega) (by omega), rfl⟩
/-- what stays of the state when rows are graded -/
theorem repC_G {I' : mm_I} {s' : st_T} (hv : va s) (h : repC I J s) (g : fG I I') (e1 : s'.1 = s.1) (e2 : sNf s' = sNf s) (e3 : sNr s' = sNr s) (e4 : sHg s' = sHg s) (e5 : sF s' = sF s) (e6 : sT s' = sT s) (e7 : sN s' = sN s) (e8 : sLg s' = sLg s) (e9 : sW s' = sW s) (e10 : sR s' = sR s) (hg : I' 112 3 = mb (sGd s')) (hr : sGd s' = true → rcG I' s') : repC I' J s' := by
  have v3 := hv.1.2.2.1
  obtain ⟨⟨a1, a2, a3, a4⟩, b, c, e, f, i, _, _⟩ := h
  have sh := shC_G hv (s := s) ⟨⟨a1, a2, a3⟩, b, f⟩ g
  have c1 : ∀ k, (k < 6 ∨ 84 < k) → ¬ (112 ≤ k ∧ k ≤ 126) → I' k = I k := fun k h1 h2 => by funext j; exact g k j (by omega) h2
  have e1' : sNp s' = sNp s := e1
  refine ⟨⟨?_, ?_, ?_, ?_⟩, ?_, ?_, ?_, ?_, ?_, hg, hr⟩
  · rw [e1']; exact sh.1.1
  · rw [e2]; exact sh.1.2.1
  · rw [e3]; exact sh.1.2.2
  · rw [e4, c1 _ (by decide) (by decide)]; exact a4
  · rw [e5]; exact sh.2.1
  · rw [e6, e7]
    refine ⟨?_, c.2.1, fun i hi => ?_⟩
    · rw [c1 _ (by decide) (by decide)]; exact c.1
    · rw [c1 _ (by decide) (by decide)]; exact c.2.2 i hi
  · rw [e8, e9]
    refine ⟨?_, e.2⟩
    rw [c1 _ (by decide) (by decide)]; exact e.1
  · rw [e3, e10]; exact sh.2.2
  · rw [e4, e10]
    exact fun q => rC_fr (i q) (c1 _ (by decide) (by decide)) (c1 _ (by decide) (by decide))
theorem pC_grade (hv : inv s) (h : repC I J s) : mm_call z (d + 8) 112 [.ref 0] I J (okC I J (o_grade s)) := by
  have hv1 := hv.1
  have v3 := hv1.1.2.2.1
  have hgd := h.2.2.2.2.2.2.1
  unfold o_grade
  simp only [ce_112, bk_112.1, mmE, mmE0, mmH, mT, mR, mRf, mAl, mAs, mAz, mAn, Int.reduceToNat, Int32.reduceOfInt, Int64.reduceOfInt, Int.reduceAdd, swE, Nat.reduceDiv, Nat.reduceMod, Nat.reduceAdd, Nat.reduceMul, Nat.reduceEqDiff, Nat.reduceLeDiff, Nat.zero_le, List.length_nil, List.length_cons, Nat.zero_add, true_or, or_true, false_or, or_false, true_and, and_true, and_self, mb_01, mb_t, mb_f, hgd, mb0]
  cases eg : sGd s with
  | true =>
    simp only [Bool.true_eq_false, true_implies, not_true_eq_false, not_false_eq_true, false_implies, and_true, true_and, if_true, bk_112.2, mmE, mmE0, mmH, mT, mR, mRf, mAl, mAs, mAz, mAn, Int.reduceToNat, Int32.reduceOfInt, Int64.reduceOfInt, Int.reduceAdd, swE, Nat.reduceDiv, Nat.reduceMod, Nat.reduceAdd, Nat.reduceMul, Nat.reduceEqDiff, Nat.reduceLeDiff, Nat.zero_le, List.length_nil, List.length_cons, Nat.zero_add, true_or, or_true, false_or, or_false, true_and, and_true, and_self, mb_01, mb_t, mb_f, Option.toList_some, Option.toList_none, List.cons_append, List.nil_append, c_fnr hv1 (shC_of h) (gCs_of hv h eg)]
    exact ⟨rfl, h, frC_rf⟩
  | false =>
    simp only [true_implies, not_true_eq_false, not_false_eq_true, false_implies, and_true, true_and, if_false, Bool.false_eq_true]
    refine w_ga hv1 (shC_of h) (fun I1 t' o2 k1 k2 => ?_)
    obtain ⟨sh1, gc1, n1, S, l1, o1⟩ := k2
    simp only [bk_9.2.2.2.2, mmE, mmE0, mmH, mT, mR, mRf, mAl, mAs, mAz, mAn, Int.reduceToNat, Int32.reduceOfInt, Int64.reduceOfInt, Int.reduceAdd, swE, Nat.reduceDiv, Nat.reduceMod, Nat.reduceAdd, Nat.reduceMul, Nat.reduceEqDiff, Nat.reduceLeDiff, Nat.zero_le, List.length_nil, List.length_cons, Nat.zero_add, true_or, or_true, false_or, or_false, true_and, and_true, and_self, mb_01, mb_t, mb_f, ce_19, bk_19.1]
    refine w_cc_loop (z := z) (d := d + 3) hv1 (sNr s) 1 0 I1 (by omega) (by omega) (by omega) sh1 gc1 n1.2.2.2.1 (fun I2 m1 m2 m3 => ?_)
    simp only [mmE, mmE0, mmH, mT, mR, mRf, mAl, mAs, mAz, mAn, Int.reduceToNat, Int32.reduceOfInt, Int64.reduceOfInt, Int.reduceAdd, swE, Nat.reduceDiv, Nat.reduceMod, Nat.reduceAdd, Nat.reduceMul, Nat.reduceEqDiff, Nat.reduceLeDiff, Nat.zero_le, List.length_nil, List.length_cons, Nat.zero_add, true_or, or_true, false_or, or_false, true_and, and_true, and_self, mb_01, mb_t, mb_f, Option.toList_some, Option.toList_none, List.cons_append, List.nil_append]
    rw [Nat.zero_add] at m3
    have f2 : fG I1 I2 := fun k j a b => by rw [m1 k (by omega)]
    have sh2 := shC_G hv1 sh1 f2
    have gc2 : gCs I2 (sNr s) (gsS s (sNr s)) := fun r a b => ⟨by unfold gC; rw [m1 _ (by omega)]; exact (gc1 r a b).1, (gc1 r a b).2⟩
    have gend : gnx (sNr s) (osS s) (gsS s (sNr s)) = none := grs_end (fun _ _ _ => rfl)
    refine w_findCircle hv1 sh2 gc2 gend (by rw [m2 _ (by decide)]; exact n1.2.2.2.2.1) (fun I3 q1 q2 q3 q4 q5 q6 => ?_)
    simp only [mmE, mmE0, mmH, mT, mR, mRf, mAl, mAs, mAz, mAn, Int.reduceToNat, Int32.reduceOfInt, Int64.reduceOfInt, Int.reduceAdd, swE, Nat.reduceDiv, Nat.reduceMod, Nat.reduceAdd, Nat.reduceMul, Nat.reduceEqDiff, Nat.reduceLeDiff, Nat.zero_le, List.length_nil, List.length_cons, Nat.zero_add, true_or, or_true, false_or, or_false, true_and, and_true, and_self, mb_01, mb_t, mb_f, Option.toList_some, Option.toList_none, List.cons_append, List.nil_append, z01]
    have f3 : fG I2 I3 := fun k j a b => by rw [q1 k (by omega) (by omega)]
    have f4 : fG I3 (mm_wI I3 112 3 1) := fG_g
    have f04 := fG_tr k1 (fG_tr f2 (fG_tr f3 f4))
    have wc : ∀ k, k ≠ 112 → mm_wI I3 112 3 1 k = I3 k := fun k hk => by funext t; rw [mWI, if_neg hk]
    have wj : ∀ j, j ≠ 3 → mm_wI I3 112 3 1 112 j = I3 112 j := fun j hj => by rw [mWI, if_pos rfl, if_neg hj]
    have gc4 : gCs (mm_wI I3 112 3 1) (sNr s) (GF s) := fun r a b => ⟨by unfold gC; rw [wc _ (by omega), q1 _ (by omega) (by omega)]; exact (gc2 r a b).1, (gc2 r a b).2⟩
    have sh4 := shC_G hv1 (shC_of h) f04
    simp only [bk_112.2, mmE, mmE0, mmH, mT, mR, mRf, mAl, mAs, mAz, mAn, Int.reduceToNat, Int32.reduceOfInt, Int64.reduceOfInt, Int.reduceAdd, swE, Nat.reduceDiv, Nat.reduceMod, Nat.reduceAdd, Nat.reduceMul, Nat.reduceEqDiff, Nat.reduceLeDiff, Nat.zero_le, List.length_nil, List.length_cons, Nat.zero_add, true_or, or_true, false_or, or_false, true_and, and_true, and_self, mb_01, mb_t, mb_f, Option.toList_some, Option.toList_none, List.cons_append, List.nil_append, c_fnr hv1 sh4 gc4]
    refine ⟨rfl, repC_G hv1 h f04 rfl rfl rfl rfl rfl rfl rfl rfl rfl rfl (by rw [mWI, if_pos rfl, if_pos rfl]; rfl) (fun _ => ⟨fun r a b => (gc4 r a b).1, ⟨?_, ?_, ?_⟩, ⟨?_, fun i hi => ?_⟩, ⟨S, ?_, o1⟩, Or.inl ?_⟩), frC_G f04⟩
    · rw [wj _ (by decide), q2 _ (by decide), m2 _ (by decide)]; exact n1.1
    · rw [wj _ (by decide), q2 _ (by decide)]; exact m3
    · rw [wj _ (by decide), q2 _ (by decide), m2 _ (by decide)]; exact n1.2.1
    · rw [wj _ (by decide)]; exact q3
    · rw [wc _ (by decide)]; exact q4 i hi
    · exact rl_c (fun k _ _ => by rw [wc k (by omega), q1 k (by omega) (by omega), m1 k (by omega)]) l1
    · rw [wj _ (by decide), q2 _ (by decide), m2 _ (by decide)]; exact n1.2.2.2.2.2
end GY
