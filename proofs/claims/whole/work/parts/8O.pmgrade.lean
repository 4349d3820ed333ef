/-! the reference grades: the call -/
section MG
variable {z : mm_S} {d : Nat} {I : mm_I} {J : mm_J} {s : st_T} {G : Nat → gr_T} {Q : Option Value → mm_I → mm_J → Prop}
theorem w_wr_loop (hv : va s) (h : shM I s) (hG : gMs I (sNr s) G) {o1 : Option Value} : ∀ (w : Nat) (cur : Int32), w ≤ sNr s → Q (some (.int (gsel ((List.range' 1 w).find? fun r => !((G r).2.1 == 1)) cur))) I J → mm_at z (mm_call z d) (mm_code 167) Q 171 [some (.ref 127), o1, some (.int cur), some (.int (nI w))] [] I J
  | 0, cur, hw, k => by
    rw [hk_167_171]
    have c1 : (nI 0 ≤ 0) = True := by decide
    simp only [bk_167.2.2.2.2.2.2.2.2.2.2.2.2, mmE, mmE0, mmH, mT, mR, mRf, mAl, mAs, mAz, mAn, Int.reduceToNat, Int32.reduceOfInt, Int64.reduceOfInt, Int.reduceAdd, swE, Nat.reduceDiv, Nat.reduceMod, Nat.reduceAdd, Nat.reduceMul, Nat.reduceEqDiff, Nat.reduceLeDiff, Nat.zero_le, List.length_nil, List.length_cons, Nat.zero_add, true_or, or_true, false_or, or_false, true_and, and_true, and_self, mb_01, mb_t, mb_f, c1, true_implies, not_true_eq_false, not_false_eq_true, false_implies, and_true, true_and]
    exact k
  | w + 1, cur, hw, k => by
    have v3 := hv.1.2.2.1
    rw [hk_167_171]
    have c1 : (nI (w + 1) ≤ 0) = False := by rw [show (0 : Int32) = nI 0 from rfl, le_nI (by omega) (by omega)]; exact eq_false (by omega)
    have e1 : nI (w + 1) + -1 = nI w := by rw [pdm, pd1]
    obtain ⟨⟨_, g1, _⟩, g2, g3, _⟩ := hG (w + 1) (by omega) hw
    have e2 : (nI (G (w + 1)).2.1 = 1) = ((G (w + 1)).2.1 = 1) := eq_nI (b := 1) (by omega) (by omega)
    simp only [bk_167.2.2.2.2.2.2.2.2.2.2.1, bk_167.2.2.2.2.2.2.2.2.2.2.2.1, mmE, mmE0, mmH, mT, mR, mRf, mAl, mAs, mAz, mAn, Int.reduceToNat, Int32.reduceOfInt, Int64.reduceOfInt, Int.reduceAdd, swE, Nat.reduceDiv, Nat.reduceMod, Nat.reduceAdd, Nat.reduceMul, Nat.reduceEqDiff, Nat.reduceLeDiff, Nat.zero_le, List.length_nil, List.length_cons, Nat.zero_add, true_or, or_true, false_or, or_false, true_and, and_true, and_self, mb_01, mb_t, mb_f, c1, ix41 (show w + 1 < 41 by omega), g1, e2, e1, true_implies, not_true_eq_false, not_false_eq_true, false_implies, and_true, true_and]
    have eF := find_snoc1 (p := fun r => !((G r).2.1 == 1)) (w := w)
    rw [eF] at k
    by_cases q : (G (w + 1)).2.1 = 1
    · simp only [eq_true q, true_implies, not_true_eq_false, not_false_eq_true, false_implies, and_true, true_and]
      refine w_wr_loop hv h hG w cur (by omega) ?_
      cases e : (List.range' 1 w).find? fun r => !((G r).2.1 == 1) with
      | some i => rw [e] at k; exact k
      | none =>
        rw [e] at k
        dsimp only at k
        rw [show ((G (w + 1)).2.1 == 1) = true from beq_iff_eq.mpr q, if_neg (by decide)] at k
        exact k
    · simp only [q, true_implies, not_true_eq_false, not_false_eq_true, false_implies, and_true, true_and]
      refine w_wr_loop hv h hG w (nI (w + 1)) (by omega) ?_
      cases e : (List.range' 1 w).find? fun r => !((G r).2.1 == 1) with
      | some i => rw [e] at k; exact k
      | none =>
        rw [e] at k
        dsimp only at k
        rw [show ((G (w + 1)).2.1 == 1) = false from beq_eq_false_iff_ne.mpr q, if_pos (by decide)] at k
        exact k
theorem repM_N {I' : mm_I} {s' : st_T} (h : repM I J s) (g : fN I I') (e1 : sNp s' = sNp s) (e2 : sNf s' = sNf s) (e3 : sNr s' = sNr s) (e4 : sHg s' = sHg s) (e5 : sF s' = sF s) (e6 : sT s' = sT s) (e7 : sN s' = sN s) (e8 : sLg s' = sLg s) (e9 : sW s' = sW s) (e10 : sR s' = sR s) (hg : I' 127 37 = mb (sGd s')) (hr : sGd s' = true → rmG I' s') : repM I' J s' := by
  obtain ⟨⟨a1, a2, a3, a4⟩, b, c, e, f, i, _, _, m⟩ := h
  have sh := shM_N (s := s) ⟨⟨a1, a2, a3⟩, b, f, m⟩ g
  refine ⟨⟨?_, ?_, ?_, ?_⟩, ?_, ?_, ?_, ?_, ?_, hg, hr, sh.2.2.2⟩
  · rw [e1]; exact sh.1.1
  · rw [e2]; exact sh.1.2.1
  · rw [e3]; exact sh.1.2.2
  · rw [e4, g.2 _ (by decide) (by decide) (by decide) (by decide)]; exact a4
  · rw [e5]; exact sh.2.1
  · rw [e6, e7]
    refine ⟨?_, c.2.1, fun i hi => ?_⟩
    · rw [g.2 _ (by decide) (by decide) (by decide) (by decide)]; exact c.1
    · rw [g.1 _ (by decide) (by decide) (by decide) (by decide)]; exact c.2.2 i hi
  · rw [e8, e9]
    refine ⟨?_, e.2⟩
    rw [g.2 _ (by decide) (by decide) (by decide) (by decide)]; exact e.1
  · rw [e3, e10]; exact sh.2.2.1
  · rw [e4, e10]
    exact fun q => mrow_c (fun k _ _ => g.1 k (by omega) (by omega) (by omega) (by omega)) (i q)
theorem frM_N {I' : mm_I} (h : fN I I') : frM I J I' J := fun k hk => ⟨h.1 k (by omega) (by omega) (by omega) (by omega), rfl⟩
/-- grading by the reference, whatever stood before -/
theorem w_mgrade (hv : va s) (h : repM I J s) (K : ∀ I', fN I I' → (∀ r, 1 ≤ r → r ≤ sNr s → gM I' r (GF s r)) → I' 127 44 = nI (ciS s (GF s)).length → (∀ i, i < (ciS s (GF s)).length → I' 155 i = nI ((ciS s (GF s)).getD i 0)) → I' 127 37 = 1 → I' 127 47 = -5 → Q (some (.int (nI (fnr (sNr s) (GF s))))) I' J) : mm_call z (d + 11) 167 [.ref 127] I J Q := by
  have v3 := hv.1.2.2.1
  have h0 := shM_of h
  have f0 : fN I (mm_wI (mm_wI I 127 43 0) 127 47 (-5)) := ⟨fun k a _ _ _ => by funext t; rw [mWI, if_neg a, mWI, if_neg a], fun j a b _ _ => by rw [mWI, if_pos rfl, if_neg a, mWI, if_pos rfl, if_neg b]⟩
  simp only [ce_167, bk_167.1, mmE, mmE0, mmH, mT, mR, mRf, mAl, mAs, mAz, mAn, Int.reduceToNat, Int32.reduceOfInt, Int64.reduceOfInt, Int.reduceAdd, swE, Nat.reduceDiv, Nat.reduceMod, Nat.reduceAdd, Nat.reduceMul, Nat.reduceEqDiff, Nat.reduceLeDiff, Nat.zero_le, List.length_nil, List.length_cons, Nat.zero_add, true_or, or_true, false_or, or_false, true_and, and_true, and_self, mb_01, mb_t, mb_f]
  refine w_gfm_loop (z := z) (d := d + 5) hv (sNf s) 0 _ _ _ (by omega) (shM_N h0 f0) (fun f hf => by omega) (fun I1 o1 k1 k2 => ?_)
  have f1 : fN (mm_wI (mm_wI I 127 43 0) 127 47 (-5)) I1 := ⟨fun k _ _ _ e => k1 k (by omega), fun j _ _ _ _ => by rw [k1 _ (by decide)]⟩
  have h1 := shM_N h0 (fN_tr f0 f1)
  simp only [bk_167.2.1, mmE, mmE0, mmH, mT, mR, mRf, mAl, mAs, mAz, mAn, Int.reduceToNat, Int32.reduceOfInt, Int64.reduceOfInt, Int.reduceAdd, swE, Nat.reduceDiv, Nat.reduceMod, Nat.reduceAdd, Nat.reduceMul, Nat.reduceEqDiff, Nat.reduceLeDiff, Nat.zero_le, List.length_nil, List.length_cons, Nat.zero_add, true_or, or_true, false_or, or_false, true_and, and_true, and_self, mb_01, mb_t, mb_f]
  refine w_rst_loop (z := z) (d := d + 10) hv (sNr s) 1 I1 _ _ (by omega) (by omega) h1 (fun q a b => by omega) (fun I2 o1 m1 m2 => ?_)
  have f2 : fN I1 I2 := ⟨fun k _ _ _ e => m1 k (by omega), fun j _ _ _ _ => by rw [m1 _ (by decide)]⟩
  simp only [bk_167.2.2.1, mmE, mmE0, mmH, mT, mR, mRf, mAl, mAs, mAz, mAn, Int.reduceToNat, Int32.reduceOfInt, Int64.reduceOfInt, Int.reduceAdd, swE, Nat.reduceDiv, Nat.reduceMod, Nat.reduceAdd, Nat.reduceMul, Nat.reduceEqDiff, Nat.reduceLeDiff, Nat.zero_le, List.length_nil, List.length_cons, Nat.zero_add, true_or, or_true, false_or, or_false, true_and, and_true, and_self, mb_01, mb_t, mb_f]
  refine w_mg_loop (z := z) (d := d) hv (sNr s) 0 I2 _ _ (by omega) ⟨shM_N h1 f2, fun q a b => ⟨m2 q a b, by show 0 ≤ 40; omega, by show 0 ≤ 2; omega, fun _ => rfl⟩, fun f hf => ?_, fun q => ?_, ?_⟩ (fun I3 o2 o3 q1 q2 q3 => ?_)
  · rw [m1 _ (by decide)]; exact k2 f hf
  · exfalso
    rw [m1 _ (by decide), k1 _ (by decide), mWI, if_pos rfl, if_pos rfl] at q
    exact absurd q (by decide)
  · rw [m1 _ (by decide), k1 _ (by decide), mWI, if_pos rfl, if_neg (by decide), mWI, if_pos rfl, if_pos rfl]; rfl
  · simp only [bk_167.2.2.2.2.2.2.2.2.2.1, mmE, mmE0, mmH, mT, mR, mRf, mAl, mAs, mAz, mAn, Int.reduceToNat, Int32.reduceOfInt, Int64.reduceOfInt, Int.reduceAdd, swE, Nat.reduceDiv, Nat.reduceMod, Nat.reduceAdd, Nat.reduceMul, Nat.reduceEqDiff, Nat.reduceLeDiff, Nat.zero_le, List.length_nil, List.length_cons, Nat.zero_add, true_or, or_true, false_or, or_false, true_and, and_true, and_self, mb_01, mb_t, mb_f]
    have gend : gnx (sNr s) (osS s) (gsS s (sNr s)) = none := grs_end (fun _ _ _ => rfl)
    refine w_mcircle hv q2 q3 gend (fun I4 x1 x2 x3 => ?_)
    have sh4 := shM_N q2 (fN_C x1)
    have f5 : fN I4 (mm_wI (mm_wI I4 127 37 1) 127 47 (-5)) := ⟨fun k a _ _ _ => by funext t; rw [mWI, if_neg a, mWI, if_neg a], fun j a _ _ b => by rw [mWI, if_pos rfl, if_neg a, mWI, if_pos rfl, if_neg b]⟩
    have sh5 := shM_N sh4 f5
    have g5 : gMs (mm_wI (mm_wI I4 127 37 1) 127 47 (-5)) (sNr s) (gsS s (sNr s)) := by
      intro r a b
      obtain ⟨y1, y2⟩ := gMs_C q3 x1 r a b
      refine ⟨?_, y2⟩
      unfold gM
      have e : ∀ k, k ≠ 127 → mm_wI (mm_wI I4 127 37 1) 127 47 (-5) k = I4 k := fun k hk => by funext t; rw [mWI, if_neg hk, mWI, if_neg hk]
      rw [e _ (by decide), e _ (by decide), e _ (by decide), e _ (by decide), e _ (by decide)]
      exact y1
    simp only [mmE, mmE0, mmH, mT, mR, mRf, mAl, mAs, mAz, mAn, Int.reduceToNat, Int32.reduceOfInt, Int64.reduceOfInt, Int.reduceAdd, swE, Nat.reduceDiv, Nat.reduceMod, Nat.reduceAdd, Nat.reduceMul, Nat.reduceEqDiff, Nat.reduceLeDiff, Nat.zero_le, List.length_nil, List.length_cons, Nat.zero_add, true_or, or_true, false_or, or_false, true_and, and_true, and_self, mb_01, mb_t, mb_f, Option.toList_some, Option.toList_none, List.cons_append, List.nil_append, z01, sh5.1.2.2]
    refine w_wr_loop (z := z) (d := d + 10) hv sh5 g5 (sNr s) 0 (Nat.le_refl _) ?_
    have eg : gsel ((List.range' 1 (sNr s)).find? fun r => !((gsS s (sNr s) r).2.1 == 1)) 0 = nI (fnr (sNr s) (GF s)) := by
      show _ = nI (((List.range' 1 (sNr s)).find? fun r => !((gsS s (sNr s) r).2.1 == 1)).getD 0)
      cases (List.range' 1 (sNr s)).find? fun r => !((gsS s (sNr s) r).2.1 == 1) <;> rfl
    rw [eg]
    refine K _ (fN_tr f0 (fN_tr f1 (fN_tr f2 (fN_tr q1 (fN_tr (fN_C x1) f5))))) (fun r a b => (g5 r a b).1) ?_ (fun i hi => ?_) ?_ ?_
    · rw [mWI, if_pos rfl, if_neg (by decide), mWI, if_pos rfl, if_neg (by decide)]; exact x2
    · rw [mWI, if_neg (by decide), mWI, if_neg (by decide)]; exact x3 i hi
    · rw [mWI, if_pos rfl, if_neg (by decide), mWI, if_pos rfl, if_pos rfl]
    · rw [mWI, if_pos rfl, if_pos rfl]
theorem pM_grade (hv : inv s) (h : repM I J s) : mm_call z (d + 11) 167 [.ref 127] I J (okM I J (o_grade s)) := by
  refine w_mgrade hv.1 h (fun I1 k1 k2 k3 k4 k5 k6 => ?_)
  have n5 : ¬ I1 127 47 = 5 := by rw [k6]; decide
  unfold o_grade
  cases eg : sGd s with
  | true =>
    obtain ⟨_, e1, e2⟩ := hv.2 eg
    rw [if_pos rfl]
    refine ⟨by rw [e1], repM_N h k1 rfl rfl rfl rfl rfl rfl rfl rfl rfl rfl (by rw [k5, eg]; rfl) (fun _ => ⟨fun r a b => ?_, ⟨?_, fun i hi => ?_⟩, fun q => absurd q n5⟩), frM_N k1⟩
    · rw [e1]; exact k2 r a b
    · rw [e2]; exact k3
    · rw [e2] at hi ⊢; exact k4 i hi
  | false =>
    rw [if_neg (by decide)]
    exact ⟨rfl, repM_N h k1 rfl rfl rfl rfl rfl rfl rfl rfl rfl rfl k5 (fun _ => ⟨fun r a b => k2 r a b, ⟨k3, fun i hi => k4 i hi⟩, fun q => absurd q n5⟩), frM_N k1⟩
end MG
