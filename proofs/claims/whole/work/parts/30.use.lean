theorem nkE : (nI 0 = 0) = True ∧ (nI 0 = 1) = False ∧ (nI 0 = 2) = False ∧ (nI 0 = 3) = False ∧ (nI 0 = 4) = False ∧ (nI 0 = 5) = False ∧ (nI 1 = 0) = False ∧ (nI 1 = 1) = True ∧ (nI 1 = 2) = False ∧ (nI 1 = 3) = False ∧ (nI 1 = 4) = False ∧ (nI 1 = 5) = False ∧ (nI 2 = 0) = False ∧ (nI 2 = 1) = False ∧ (nI 2 = 2) = True ∧ (nI 2 = 3) = False ∧ (nI 2 = 4) = False ∧ (nI 2 = 5) = False ∧ (nI 3 = 0) = False ∧ (nI 3 = 1) = False ∧ (nI 3 = 2) = False ∧ (nI 3 = 3) = True ∧ (nI 3 = 4) = False ∧ (nI 3 = 5) = False ∧ (nI 4 = 0) = False ∧ (nI 4 = 1) = False ∧ (nI 4 = 2) = False ∧ (nI 4 = 3) = False ∧ (nI 4 = 4) = True ∧ (nI 4 = 5) = False ∧ (nI 5 = 0) = False ∧ (nI 5 = 1) = False ∧ (nI 5 = 2) = False ∧ (nI 5 = 3) = False ∧ (nI 5 = 4) = False ∧ (nI 5 = 5) = True ∧ (nI 6 = 0) = False ∧ (nI 6 = 1) = False ∧ (nI 6 = 2) = False ∧ (nI 6 = 3) = False ∧ (nI 6 = 4) = False ∧ (nI 6 = 5) = False := ⟨eq_true (by decide), eq_false (by decide), eq_false (by decide), eq_false (by decide), eq_false (by decide), eq_false (by decide), eq_false (by decide), eq_true (by decide), eq_false (by decide), eq_false (by decide), eq_false (by decide), eq_false (by decide), eq_false (by decide), eq_false (by decide), eq_true (by decide), eq_false (by decide), eq_false (by decide), eq_false (by decide), eq_false (by decide), eq_false (by decide), eq_false (by decide), eq_true (by decide), eq_false (by decide), eq_false (by decide), eq_false (by decide), eq_false (by decide), eq_false (by decide), eq_false (by decide), eq_true (by decide), eq_false (by decide), eq_false (by decide), eq_false (by decide), eq_false (by decide), eq_false (by decide), eq_false (by decide), eq_true (by decide), eq_false (by decide), eq_false (by decide), eq_false (by decide), eq_false (by decide), eq_false (by decide), eq_false (by decide)⟩
section LI
variable {z : mm_S} {d : Nat} {I : mm_I} {J : mm_J} {np : Nat} {S : al_S} {Q : Option Value → mm_I → mm_J → Prop}
theorem w_perp {f now : Nat} (h1 : 338 ≤ f) (h2 : f < 548) (hnow : now ≤ 4) (h : rl_rep I np S) (hn : I 113 5 = nI now) (k : ∀ I', rl_rep I' np (al_perp np now f S) → rl_fr I I' → Q none I' J) : mm_call z (d + 3) 43 [.ref 113, .int (nI f)] I J Q := by
  have h1' : 128 ≤ f := by omega
  have h2' : f < 758 := by omega
  obtain ⟨g1, g2, g3⟩ := less_n h1' h2'
  have g4 : n_less f < 21 := by omega
  obtain ⟨lp1, lp2⟩ := lo_n g4
  obtain ⟨hp1, hp2⟩ := hi_n g4
  obtain ⟨lq1, lq2⟩ := lo_n g2
  obtain ⟨hq1, hq2⟩ := hi_n g2
  simp only [ce_43, bk_43, c_greatPair h1' h2', c_lessPair, g1, mmE, mmE0, mmH, mT, mR, mRf, mAl, mAs, mAz, mAn, Int.reduceToNat, Int32.reduceOfInt, Int64.reduceOfInt, Int.reduceAdd, swE, Nat.reduceDiv, Nat.reduceMod, Nat.reduceAdd, Nat.reduceMul, Nat.reduceEqDiff, Nat.reduceLeDiff, Nat.zero_le, List.length_nil, List.length_cons, Nat.zero_add, true_or, or_true, false_or, or_false, true_and, and_true, and_self, mb_01, mb_t, mb_f]
  refine w_chain (via := 338) (gives := 128) g4 g2 (Or.inr (Or.inl rfl)) (Or.inl rfl) hnow h hn (fun I1 r1 fr1 => ?_)
  have n1 : I1 113 5 = nI now := by rw [fr1.1]; exact hn
  simp only [mmE, mmE0, mmH, mT, mR, mRf, mAl, mAs, mAz, mAn, Int.reduceToNat, Int32.reduceOfInt, Int64.reduceOfInt, Int.reduceAdd, swE, Nat.reduceDiv, Nat.reduceMod, Nat.reduceAdd, Nat.reduceMul, Nat.reduceEqDiff, Nat.reduceLeDiff, Nat.zero_le, List.length_nil, List.length_cons, Nat.zero_add, true_or, or_true, false_or, or_false, true_and, and_true, and_self, mb_01, mb_t, mb_f]
  refine w_chain (via := 338) (gives := 128) g2 g4 (Or.inr (Or.inl rfl)) (Or.inl rfl) hnow r1 n1 (fun I2 r2 fr2 => ?_)
  have n2 : I2 113 5 = nI now := by rw [fr2.1]; exact n1
  simp only [mmE, mmE0, mmH, mT, mR, mRf, mAl, mAs, mAz, mAn, Int.reduceToNat, Int32.reduceOfInt, Int64.reduceOfInt, Int.reduceAdd, swE, Nat.reduceDiv, Nat.reduceMod, Nat.reduceAdd, Nat.reduceMul, Nat.reduceEqDiff, Nat.reduceLeDiff, Nat.zero_le, List.length_nil, List.length_cons, Nat.zero_add, true_or, or_true, false_or, or_false, true_and, and_true, and_self, mb_01, mb_t, mb_f]
  refine w_chain (via := 128) (gives := 338) g4 g2 (Or.inl rfl) (Or.inr (Or.inl rfl)) hnow r2 n2 (fun I3 r3 fr3 => ?_)
  have n3 : I3 113 5 = nI now := by rw [fr3.1]; exact n2
  simp only [mmE, mmE0, mmH, mT, mR, mRf, mAl, mAs, mAz, mAn, Int.reduceToNat, Int32.reduceOfInt, Int64.reduceOfInt, Int.reduceAdd, swE, Nat.reduceDiv, Nat.reduceMod, Nat.reduceAdd, Nat.reduceMul, Nat.reduceEqDiff, Nat.reduceLeDiff, Nat.zero_le, List.length_nil, List.length_cons, Nat.zero_add, true_or, or_true, false_or, or_false, true_and, and_true, and_self, mb_01, mb_t, mb_f]
  refine w_chain (via := 128) (gives := 338) g2 g4 (Or.inl rfl) (Or.inr (Or.inl rfl)) hnow r3 n3 (fun I4 r4 fr4 => ?_)
  have n4 : I4 113 5 = nI now := by rw [fr4.1]; exact n3
  simp only [mmE, mmE0, mmH, mT, mR, mRf, mAl, mAs, mAz, mAn, Int.reduceToNat, Int32.reduceOfInt, Int64.reduceOfInt, Int.reduceAdd, swE, Nat.reduceDiv, Nat.reduceMod, Nat.reduceAdd, Nat.reduceMul, Nat.reduceEqDiff, Nat.reduceLeDiff, Nat.zero_le, List.length_nil, List.length_cons, Nat.zero_add, true_or, or_true, false_or, or_false, true_and, and_true, and_self, mb_01, mb_t, mb_f]
  refine w_slide (base := 338) (Or.inr (Or.inl rfl)) g4 g2 hnow r4 n4 (fun I5 r5 fr5 => ?_)
  have n5 : I5 113 5 = nI now := by rw [fr5.1]; exact n4
  simp only [mmE, mmE0, mmH, mT, mR, mRf, mAl, mAs, mAz, mAn, Int.reduceToNat, Int32.reduceOfInt, Int64.reduceOfInt, Int.reduceAdd, swE, Nat.reduceDiv, Nat.reduceMod, Nat.reduceAdd, Nat.reduceMul, Nat.reduceEqDiff, Nat.reduceLeDiff, Nat.zero_le, List.length_nil, List.length_cons, Nat.zero_add, true_or, or_true, false_or, or_false, true_and, and_true, and_self, mb_01, mb_t, mb_f]
  refine w_slide (base := 338) (Or.inr (Or.inl rfl)) g2 g4 hnow r5 n5 (fun I6 r6 fr6 => ?_)
  have n6 : I6 113 5 = nI now := by rw [fr6.1]; exact n5
  simp only [c_low, c_high, lp1, hp1, lq1, hq1, mmE, mmE0, mmH, mT, mR, mRf, mAl, mAs, mAz, mAn, Int.reduceToNat, Int32.reduceOfInt, Int64.reduceOfInt, Int.reduceAdd, swE, Nat.reduceDiv, Nat.reduceMod, Nat.reduceAdd, Nat.reduceMul, Nat.reduceEqDiff, Nat.reduceLeDiff, Nat.zero_le, List.length_nil, List.length_cons, Nat.zero_add, true_or, or_true, false_or, or_false, true_and, and_true, and_self, mb_01, mb_t, mb_f]
  refine w_onMiddle lp2 hp2 g2 hnow r6 n6 (fun I7 r7 fr7 => ?_)
  have n7 : I7 113 5 = nI now := by rw [fr7.1]; exact n6
  simp only [c_low, c_high, lp1, hp1, lq1, hq1, mmE, mmE0, mmH, mT, mR, mRf, mAl, mAs, mAz, mAn, Int.reduceToNat, Int32.reduceOfInt, Int64.reduceOfInt, Int.reduceAdd, swE, Nat.reduceDiv, Nat.reduceMod, Nat.reduceAdd, Nat.reduceMul, Nat.reduceEqDiff, Nat.reduceLeDiff, Nat.zero_le, List.length_nil, List.length_cons, Nat.zero_add, true_or, or_true, false_or, or_false, true_and, and_true, and_self, mb_01, mb_t, mb_f]
  refine w_onMiddle hp2 lp2 g2 hnow r7 n7 (fun I8 r8 fr8 => ?_)
  have n8 : I8 113 5 = nI now := by rw [fr8.1]; exact n7
  simp only [c_low, c_high, lp1, hp1, lq1, hq1, mmE, mmE0, mmH, mT, mR, mRf, mAl, mAs, mAz, mAn, Int.reduceToNat, Int32.reduceOfInt, Int64.reduceOfInt, Int.reduceAdd, swE, Nat.reduceDiv, Nat.reduceMod, Nat.reduceAdd, Nat.reduceMul, Nat.reduceEqDiff, Nat.reduceLeDiff, Nat.zero_le, List.length_nil, List.length_cons, Nat.zero_add, true_or, or_true, false_or, or_false, true_and, and_true, and_self, mb_01, mb_t, mb_f]
  refine w_onMiddle lq2 hq2 g4 hnow r8 n8 (fun I9 r9 fr9 => ?_)
  have n9 : I9 113 5 = nI now := by rw [fr9.1]; exact n8
  simp only [c_low, c_high, lp1, hp1, lq1, hq1, mmE, mmE0, mmH, mT, mR, mRf, mAl, mAs, mAz, mAn, Int.reduceToNat, Int32.reduceOfInt, Int64.reduceOfInt, Int.reduceAdd, swE, Nat.reduceDiv, Nat.reduceMod, Nat.reduceAdd, Nat.reduceMul, Nat.reduceEqDiff, Nat.reduceLeDiff, Nat.zero_le, List.length_nil, List.length_cons, Nat.zero_add, true_or, or_true, false_or, or_false, true_and, and_true, and_self, mb_01, mb_t, mb_f]
  refine w_onMiddle hq2 lq2 g4 hnow r9 n9 (fun I10 r10 fr10 => ?_)
  simp only [mmE, mmE0, mmH, mT, mR, mRf, mAl, mAs, mAz, mAn, Int.reduceToNat, Int32.reduceOfInt, Int64.reduceOfInt, Int.reduceAdd, swE, Nat.reduceDiv, Nat.reduceMod, Nat.reduceAdd, Nat.reduceMul, Nat.reduceEqDiff, Nat.reduceLeDiff, Nat.zero_le, List.length_nil, List.length_cons, Nat.zero_add, true_or, or_true, false_or, or_false, true_and, and_true, and_self, mb_01, mb_t, mb_f]
  exact k I10 r10 (rl_fr_tr fr1 (rl_fr_tr fr2 (rl_fr_tr fr3 (rl_fr_tr fr4 (rl_fr_tr fr5 (rl_fr_tr fr6 (rl_fr_tr fr7 (rl_fr_tr fr8 (rl_fr_tr fr9 fr10)))))))))
set_option maxRecDepth 20000 in
theorem eq_n {f : Nat} (h1 : 548 ≤ f) (h2 : f < 758) (h0 : ¬ eq_s f = 0) : eq_o f < 7 ∧ eq_a f < 7 ∧ eq_b f < 7 := by
  have t : ∀ f, f < 210 → eq_s (548 + f) = 0 ∨ (eq_o (548 + f) < 7 ∧ eq_a (548 + f) < 7 ∧ eq_b (548 + f) < 7) := by decide +kernel
  have := t (f - 548) (by omega)
  rw [show 548 + (f - 548) = f by omega] at this
  rcases this with q | q
  · exact absurd q h0
  · exact q
theorem w_eq {f now : Nat} (h1 : 548 ≤ f) (h2 : f < 758) (hnow : now ≤ 4) (h : rl_rep I np S) (hn : I 113 5 = nI now) (k : ∀ I', rl_rep I' np (al_eq np now f S) → rl_fr I I' → Q none I' J) : mm_call z (d + 3) 45 [.ref 113, .int (nI f)] I J Q := by
  have h1' : 128 ≤ f := by omega
  obtain ⟨g1, g2, g3⟩ := less_n h1' h2
  have g4 : n_less f < 21 := by omega
  obtain ⟨-, -, -, m4, m5, m6⟩ := mask_or g4 g2
  obtain ⟨-, -, -, -, -, m7⟩ := mask_or g2 g4
  have es : maskN (n_less f) &&& maskN (n_great f) = eq_s f := rfl
  rw [es] at m4 m5
  obtain ⟨x1, x2⟩ := bit_xor m6 m5
  obtain ⟨x3, x4⟩ := bit_xor m7 m5
  have e0 : (nI (eq_s f) = 0) = (eq_s f = 0) := eq_nI (b := 0) (by omega) (by decide)
  have ea : ntzN (maskN (n_less f) ^^^ eq_s f) = eq_a f := rfl
  have eb : ntzN (maskN (n_great f) ^^^ eq_s f) = eq_b f := rfl
  have eo : ntzN (eq_s f) = eq_o f := rfl
  simp only [ce_45, bk_45, c_greatPair h1' h2, c_lessPair, g1, mmE, mmE0, mmH, mT, mR, mRf, mAl, mAs, mAz, mAn, Int.reduceToNat, Int32.reduceOfInt, Int64.reduceOfInt, Int.reduceAdd, swE, Nat.reduceDiv, Nat.reduceMod, Nat.reduceAdd, Nat.reduceMul, Nat.reduceEqDiff, Nat.reduceLeDiff, Nat.zero_le, List.length_nil, List.length_cons, Nat.zero_add, true_or, or_true, false_or, or_false, true_and, and_true, and_self, mb_01, mb_t, mb_f]
  refine w_chain (via := 548) (gives := 548) g4 g2 (Or.inr (Or.inr rfl)) (Or.inr (Or.inr rfl)) hnow h hn (fun I1 r1 fr1 => ?_)
  have n1 : I1 113 5 = nI now := by rw [fr1.1]; exact hn
  simp only [mmE, mmE0, mmH, mT, mR, mRf, mAl, mAs, mAz, mAn, Int.reduceToNat, Int32.reduceOfInt, Int64.reduceOfInt, Int.reduceAdd, swE, Nat.reduceDiv, Nat.reduceMod, Nat.reduceAdd, Nat.reduceMul, Nat.reduceEqDiff, Nat.reduceLeDiff, Nat.zero_le, List.length_nil, List.length_cons, Nat.zero_add, true_or, or_true, false_or, or_false, true_and, and_true, and_self, mb_01, mb_t, mb_f]
  refine w_chain (via := 548) (gives := 548) g2 g4 (Or.inr (Or.inr rfl)) (Or.inr (Or.inr rfl)) hnow r1 n1 (fun I2 r2 fr2 => ?_)
  have n2 : I2 113 5 = nI now := by rw [fr2.1]; exact n1
  simp only [c_maskOf g4, c_maskOf g2, m4, e0, mmE, mmE0, mmH, mT, mR, mRf, mAl, mAs, mAz, mAn, Int.reduceToNat, Int32.reduceOfInt, Int64.reduceOfInt, Int.reduceAdd, swE, Nat.reduceDiv, Nat.reduceMod, Nat.reduceAdd, Nat.reduceMul, Nat.reduceEqDiff, Nat.reduceLeDiff, Nat.zero_le, List.length_nil, List.length_cons, Nat.zero_add, true_or, or_true, false_or, or_false, true_and, and_true, and_self, mb_01, mb_t, mb_f]
  refine ⟨fun q => ?_, fun q => ?_⟩
  · obtain ⟨q1, q2, q3⟩ := eq_n h1 h2 q
    have hF1 : ∀ x, n_ofLine (eq_o f) (eq_a f) (eq_b f) = some x → isF x = true := fun x e => isF_line q1 q2 q3 e
    have hF2 : ∀ x, n_ofMiddle 758 (eq_o f) (eq_a f) (eq_b f) = some x → isF x = true := fun x e => isF_middle (Or.inl rfl) q1 q2 q3 e
    have f1 : fa_ofLine (nI (eq_o f)) (nI (eq_a f)) (nI (eq_b f)) = eI (n_ofLine (eq_o f) (eq_a f) (eq_b f)) := fa_ofLine_n q1 q2 q3
    have f2 : fa_ofMiddle 758 (nI (eq_o f)) (nI (eq_a f)) (nI (eq_b f)) = eI (n_ofMiddle 758 (eq_o f) (eq_a f) (eq_b f)) := fa_ofMiddle_n (base := 758) (Or.inl rfl) q1 q2 q3
    have hdef : al_eq np now f S = (List.range' 0 np).foldl (al_rounds np now (eq_o f) (eq_b f) (eq_a f)) ((List.range' 0 np).foldl (al_rounds np now (eq_o f) (eq_a f) (eq_b f)) ((List.range' 0 np).foldl (al_upright now (eq_o f) (eq_a f) (eq_b f)) (al_try (al_ch np now (n_great f) (n_less f) 548 548 (al_ch np now (n_less f) (n_great f) 548 548 S)) now (al_at (al_ch np now (n_great f) (n_less f) 548 548 (al_ch np now (n_less f) (n_great f) 548 548 S)) (n_ofLine (eq_o f) (eq_a f) (eq_b f))) (n_ofMiddle 758 (eq_o f) (eq_a f) (eq_b f))))) := by
      unfold al_eq
      dsimp only
      rw [if_neg q]
    have r2' : rl_rep I2 np (al_ch np now (n_great f) (n_less f) 548 548 (al_ch np now (n_less f) (n_great f) 548 548 S)) := r2
    generalize al_ch np now (n_great f) (n_less f) 548 548 (al_ch np now (n_less f) (n_great f) 548 548 S) = S2 at r2' hdef
    have ho6 := al_at_le r2' (isF_lt' hF1)
    have cat := fun QQ => c_at (z := z) (d := d + 1) (J := J) r2' (isF_lt' hF1) QQ
    generalize al_at S2 (n_ofLine (eq_o f) (eq_a f) (eq_b f)) = o at ho6 cat hdef
    have e2 : ((5 : Int32) ≤ nI o) = (5 ≤ o) := le_nI (a := 5) (by decide) (by omega)
    have fin : ∀ I3, rl_rep I3 np (al_try S2 now o (n_ofMiddle 758 (eq_o f) (eq_a f) (eq_b f))) → rl_fr I I3 → ∀ o1 o2 o3 o4 o8, mm_at z (mm_call z (d + 2)) (mm_code 45) Q 122 [some (.ref 113), o1, o2, o3, o4, some (.int (nI (eq_o f))), some (.int (nI (eq_a f))), some (.int (nI (eq_b f))), o8] [] I3 J := by
      intro I3 r3 fr3 o1 o2 o3 o4 o8
      have n3 : I3 113 5 = nI now := by rw [fr3.1]; exact hn
      simp only [bk_45, mmE, mmE0, mmH, mT, mR, mRf, mAl, mAs, mAz, mAn, Int.reduceToNat, Int32.reduceOfInt, Int64.reduceOfInt, Int.reduceAdd, swE, Nat.reduceDiv, Nat.reduceMod, Nat.reduceAdd, Nat.reduceMul, Nat.reduceEqDiff, Nat.reduceLeDiff, Nat.zero_le, List.length_nil, List.length_cons, Nat.zero_add, true_or, or_true, false_or, or_false, true_and, and_true, and_self, mb_01, mb_t, mb_f]
      refine w_upright q1 q2 q3 hnow r3 n3 (fun I4 r4 fr4 => ?_)
      have n4 : I4 113 5 = nI now := by rw [fr4.1]; exact n3
      simp only [mmE, mmE0, mmH, mT, mR, mRf, mAl, mAs, mAz, mAn, Int.reduceToNat, Int32.reduceOfInt, Int64.reduceOfInt, Int.reduceAdd, swE, Nat.reduceDiv, Nat.reduceMod, Nat.reduceAdd, Nat.reduceMul, Nat.reduceEqDiff, Nat.reduceLeDiff, Nat.zero_le, List.length_nil, List.length_cons, Nat.zero_add, true_or, or_true, false_or, or_false, true_and, and_true, and_self, mb_01, mb_t, mb_f]
      refine w_round q1 q2 q3 hnow r4 n4 (fun I5 r5 fr5 => ?_)
      have n5 : I5 113 5 = nI now := by rw [fr5.1]; exact n4
      simp only [mmE, mmE0, mmH, mT, mR, mRf, mAl, mAs, mAz, mAn, Int.reduceToNat, Int32.reduceOfInt, Int64.reduceOfInt, Int.reduceAdd, swE, Nat.reduceDiv, Nat.reduceMod, Nat.reduceAdd, Nat.reduceMul, Nat.reduceEqDiff, Nat.reduceLeDiff, Nat.zero_le, List.length_nil, List.length_cons, Nat.zero_add, true_or, or_true, false_or, or_false, true_and, and_true, and_self, mb_01, mb_t, mb_f]
      refine w_round q1 q3 q2 hnow r5 n5 (fun I6 r6 fr6 => ?_)
      simp only [mmE, mmE0, mmH, mT, mR, mRf, mAl, mAs, mAz, mAn, Int.reduceToNat, Int32.reduceOfInt, Int64.reduceOfInt, Int.reduceAdd, swE, Nat.reduceDiv, Nat.reduceMod, Nat.reduceAdd, Nat.reduceMul, Nat.reduceEqDiff, Nat.reduceLeDiff, Nat.zero_le, List.length_nil, List.length_cons, Nat.zero_add, true_or, or_true, false_or, or_false, true_and, and_true, and_self, mb_01, mb_t, mb_f]
      refine k I6 ?_ (rl_fr_tr fr3 (rl_fr_tr fr4 (rl_fr_tr fr5 fr6)))
      rw [hdef]
      exact r6
    simp only [bk_45.2.1, c_ntz m5, c_maskOf g4, c_maskOf g2, x1, x3, c_ntz x2, c_ntz x4, ea, eb, eo, c_ofLine, c_ofMiddle, f1, f2, cat, e2, mmE, mmE0, mmH, mT, mR, mRf, mAl, mAs, mAz, mAn, Int.reduceToNat, Int32.reduceOfInt, Int64.reduceOfInt, Int.reduceAdd, swE, Nat.reduceDiv, Nat.reduceMod, Nat.reduceAdd, Nat.reduceMul, Nat.reduceEqDiff, Nat.reduceLeDiff, Nat.zero_le, List.length_nil, List.length_cons, Nat.zero_add, true_or, or_true, false_or, or_false, true_and, and_true, and_self, mb_01, mb_t, mb_f]
    refine ⟨fun h5 => fin I2 ?_ (rl_fr_tr fr1 fr2) _ _ _ _ _, fun h5 => ?_⟩
    · rw [al_try_no (by omega)]
      exact r2'
    · refine w_off r2' n2 hnow (by omega) hF2 (fun I3 r3 fr3 => ?_)
      exact fin I3 r3 (rl_fr_tr fr1 (rl_fr_tr fr2 fr3)) _ _ _ _ _
  · refine k I2 ?_ (rl_fr_tr fr1 fr2)
    unfold al_eq
    dsimp only
    rw [if_pos q]
    exact r2
theorem w_use {f now : Nat} (hf : isF f = true) (hnow : now ≤ 4) (h : rl_rep I np S) (hn : I 113 5 = nI now) (k : ∀ I', rl_rep I' np (al_use np now f S) → rl_fr I I' → Q none I' J) : mm_call z (d + 4) 34 [.ref 113, .int (nI f)] I J Q := by
  have hlt := isF_lt hf
  have hkd : fa_kindOf (nI f) = nI (if f < 128 then 0 else if f < 338 then 1 else if f < 548 then 2 else if f < 758 then 3 else if f < 905 then 4 else if f < 1033 then 5 else 6) := by
    have t : ∀ f, f < 1180 → fa_kindOf (nI f) = nI (if f < 128 then 0 else if f < 338 then 1 else if f < 548 then 2 else if f < 758 then 3 else if f < 905 then 4 else if f < 1033 then 5 else 6) := by decide +kernel
    exact t f hlt
  unfold al_use at k
  by_cases c1 : f < 128
  · rw [if_pos c1] at k hkd
    have h3 : bitsN 7 f = 3 := by
      unfold isF at hf
      rw [if_pos c1] at hf
      simpa using hf
    have e0 : nI f - 0 = nI f := by simp
    simp only [ce_34, bk_34, c_kindOf, hkd, e0, nkE, true_implies, false_implies, not_true_eq_false, not_false_eq_true, mmE, mmE0, mmH, mT, mR, mRf, mAl, mAs, mAz, mAn, Int.reduceToNat, Int32.reduceOfInt, Int64.reduceOfInt, Int.reduceAdd, swE, Nat.reduceDiv, Nat.reduceMod, Nat.reduceAdd, Nat.reduceMul, Nat.reduceEqDiff, Nat.reduceLeDiff, Nat.zero_le, List.length_nil, List.length_cons, Nat.zero_add, true_or, or_true, false_or, or_false, true_and, and_true, and_self, mb_01, mb_t, mb_f]
    refine w_line c1 h3 hnow h hn (fun I1 h1 fr1 => ?_)
    simp only [bk_34, mmE, mmE0, mmH, mT, mR, mRf, mAl, mAs, mAz, mAn, Int.reduceToNat, Int32.reduceOfInt, Int64.reduceOfInt, Int.reduceAdd, swE, Nat.reduceDiv, Nat.reduceMod, Nat.reduceAdd, Nat.reduceMul, Nat.reduceEqDiff, Nat.reduceLeDiff, Nat.zero_le, List.length_nil, List.length_cons, Nat.zero_add, true_or, or_true, false_or, or_false, true_and, and_true, and_self, mb_01, mb_t, mb_f]
    exact k I1 h1 fr1
  rw [if_neg c1] at k hkd
  by_cases c2 : f < 338
  · rw [if_pos c2] at k hkd
    simp only [ce_34, bk_34, c_kindOf, hkd, nkE, true_implies, false_implies, not_true_eq_false, not_false_eq_true, mmE, mmE0, mmH, mT, mR, mRf, mAl, mAs, mAz, mAn, Int.reduceToNat, Int32.reduceOfInt, Int64.reduceOfInt, Int.reduceAdd, swE, Nat.reduceDiv, Nat.reduceMod, Nat.reduceAdd, Nat.reduceMul, Nat.reduceEqDiff, Nat.reduceLeDiff, Nat.zero_le, List.length_nil, List.length_cons, Nat.zero_add, true_or, or_true, false_or, or_false, true_and, and_true, and_self, mb_01, mb_t, mb_f]
    refine w_par (by omega) c2 hnow h hn (fun I1 h1 fr1 => ?_)
    simp only [bk_34, mmE, mmE0, mmH, mT, mR, mRf, mAl, mAs, mAz, mAn, Int.reduceToNat, Int32.reduceOfInt, Int64.reduceOfInt, Int.reduceAdd, swE, Nat.reduceDiv, Nat.reduceMod, Nat.reduceAdd, Nat.reduceMul, Nat.reduceEqDiff, Nat.reduceLeDiff, Nat.zero_le, List.length_nil, List.length_cons, Nat.zero_add, true_or, or_true, false_or, or_false, true_and, and_true, and_self, mb_01, mb_t, mb_f]
    exact k I1 h1 fr1
  rw [if_neg c2] at k hkd
  by_cases c3 : f < 548
  · rw [if_pos c3] at k hkd
    simp only [ce_34, bk_34, c_kindOf, hkd, nkE, true_implies, false_implies, not_true_eq_false, not_false_eq_true, mmE, mmE0, mmH, mT, mR, mRf, mAl, mAs, mAz, mAn, Int.reduceToNat, Int32.reduceOfInt, Int64.reduceOfInt, Int.reduceAdd, swE, Nat.reduceDiv, Nat.reduceMod, Nat.reduceAdd, Nat.reduceMul, Nat.reduceEqDiff, Nat.reduceLeDiff, Nat.zero_le, List.length_nil, List.length_cons, Nat.zero_add, true_or, or_true, false_or, or_false, true_and, and_true, and_self, mb_01, mb_t, mb_f]
    refine w_perp (by omega) c3 hnow h hn (fun I1 h1 fr1 => ?_)
    simp only [bk_34, mmE, mmE0, mmH, mT, mR, mRf, mAl, mAs, mAz, mAn, Int.reduceToNat, Int32.reduceOfInt, Int64.reduceOfInt, Int.reduceAdd, swE, Nat.reduceDiv, Nat.reduceMod, Nat.reduceAdd, Nat.reduceMul, Nat.reduceEqDiff, Nat.reduceLeDiff, Nat.zero_le, List.length_nil, List.length_cons, Nat.zero_add, true_or, or_true, false_or, or_false, true_and, and_true, and_self, mb_01, mb_t, mb_f]
    exact k I1 h1 fr1
  rw [if_neg c3] at k hkd
  by_cases c4 : f < 758
  · rw [if_pos c4] at k hkd
    simp only [ce_34, bk_34, c_kindOf, hkd, nkE, true_implies, false_implies, not_true_eq_false, not_false_eq_true, mmE, mmE0, mmH, mT, mR, mRf, mAl, mAs, mAz, mAn, Int.reduceToNat, Int32.reduceOfInt, Int64.reduceOfInt, Int.reduceAdd, swE, Nat.reduceDiv, Nat.reduceMod, Nat.reduceAdd, Nat.reduceMul, Nat.reduceEqDiff, Nat.reduceLeDiff, Nat.zero_le, List.length_nil, List.length_cons, Nat.zero_add, true_or, or_true, false_or, or_false, true_and, and_true, and_self, mb_01, mb_t, mb_f]
    refine w_eq (by omega) c4 hnow h hn (fun I1 h1 fr1 => ?_)
    simp only [bk_34, mmE, mmE0, mmH, mT, mR, mRf, mAl, mAs, mAz, mAn, Int.reduceToNat, Int32.reduceOfInt, Int64.reduceOfInt, Int.reduceAdd, swE, Nat.reduceDiv, Nat.reduceMod, Nat.reduceAdd, Nat.reduceMul, Nat.reduceEqDiff, Nat.reduceLeDiff, Nat.zero_le, List.length_nil, List.length_cons, Nat.zero_add, true_or, or_true, false_or, or_false, true_and, and_true, and_self, mb_01, mb_t, mb_f]
    exact k I1 h1 fr1
  rw [if_neg c4] at k hkd
  by_cases c5 : f < 905
  · rw [if_pos c5] at k hkd
    have e0 : nI f - 758 = nI (f - 758) := pk_sub (b := 758) (by omega)
    simp only [ce_34, bk_34, c_kindOf, hkd, e0, nkE, true_implies, false_implies, not_true_eq_false, not_false_eq_true, mmE, mmE0, mmH, mT, mR, mRf, mAl, mAs, mAz, mAn, Int.reduceToNat, Int32.reduceOfInt, Int64.reduceOfInt, Int.reduceAdd, swE, Nat.reduceDiv, Nat.reduceMod, Nat.reduceAdd, Nat.reduceMul, Nat.reduceEqDiff, Nat.reduceLeDiff, Nat.zero_le, List.length_nil, List.length_cons, Nat.zero_add, true_or, or_true, false_or, or_false, true_and, and_true, and_self, mb_01, mb_t, mb_f]
    refine w_mid (by omega) hnow h hn (fun I1 h1 fr1 => ?_)
    simp only [bk_34, mmE, mmE0, mmH, mT, mR, mRf, mAl, mAs, mAz, mAn, Int.reduceToNat, Int32.reduceOfInt, Int64.reduceOfInt, Int.reduceAdd, swE, Nat.reduceDiv, Nat.reduceMod, Nat.reduceAdd, Nat.reduceMul, Nat.reduceEqDiff, Nat.reduceLeDiff, Nat.zero_le, List.length_nil, List.length_cons, Nat.zero_add, true_or, or_true, false_or, or_false, true_and, and_true, and_self, mb_01, mb_t, mb_f]
    exact k I1 h1 fr1
  rw [if_neg c5] at k hkd
  by_cases c6 : f < 1033
  · rw [if_pos c6] at k hkd
    have h4 : bitsN 7 (f - 905) = 4 := by
      unfold isF at hf
      rw [if_neg c1, if_neg c4, if_neg c5, if_pos c6] at hf
      simpa using hf
    have e0 : nI f - 905 = nI (f - 905) := pk_sub (b := 905) (by omega)
    simp only [ce_34, bk_34, c_kindOf, hkd, e0, nkE, true_implies, false_implies, not_true_eq_false, not_false_eq_true, mmE, mmE0, mmH, mT, mR, mRf, mAl, mAs, mAz, mAn, Int.reduceToNat, Int32.reduceOfInt, Int64.reduceOfInt, Int.reduceAdd, swE, Nat.reduceDiv, Nat.reduceMod, Nat.reduceAdd, Nat.reduceMul, Nat.reduceEqDiff, Nat.reduceLeDiff, Nat.zero_le, List.length_nil, List.length_cons, Nat.zero_add, true_or, or_true, false_or, or_false, true_and, and_true, and_self, mb_01, mb_t, mb_f]
    refine w_circ (d := d + 1) (by omega) h4 hnow h hn (fun I1 h1 fr1 => ?_)
    simp only [bk_34, mmE, mmE0, mmH, mT, mR, mRf, mAl, mAs, mAz, mAn, Int.reduceToNat, Int32.reduceOfInt, Int64.reduceOfInt, Int.reduceAdd, swE, Nat.reduceDiv, Nat.reduceMod, Nat.reduceAdd, Nat.reduceMul, Nat.reduceEqDiff, Nat.reduceLeDiff, Nat.zero_le, List.length_nil, List.length_cons, Nat.zero_add, true_or, or_true, false_or, or_false, true_and, and_true, and_self, mb_01, mb_t, mb_f]
    exact k I1 h1 fr1
  rw [if_neg c6] at k hkd
  have e0 : nI f - 1033 = nI (f - 1033) := pk_sub (b := 1033) (by omega)
  simp only [ce_34, bk_34, c_kindOf, hkd, e0, nkE, true_implies, false_implies, not_true_eq_false, not_false_eq_true, mmE, mmE0, mmH, mT, mR, mRf, mAl, mAs, mAz, mAn, Int.reduceToNat, Int32.reduceOfInt, Int64.reduceOfInt, Int.reduceAdd, swE, Nat.reduceDiv, Nat.reduceMod, Nat.reduceAdd, Nat.reduceMul, Nat.reduceEqDiff, Nat.reduceLeDiff, Nat.zero_le, List.length_nil, List.length_cons, Nat.zero_add, true_or, or_true, false_or, or_false, true_and, and_true, and_self, mb_01, mb_t, mb_f]
  refine w_btw (d := d + 1) (by omega) hnow h hn (fun I1 h1 fr1 => ?_)
  simp only [bk_34, mmE, mmE0, mmH, mT, mR, mRf, mAl, mAs, mAz, mAn, Int.reduceToNat, Int32.reduceOfInt, Int64.reduceOfInt, Int.reduceAdd, swE, Nat.reduceDiv, Nat.reduceMod, Nat.reduceAdd, Nat.reduceMul, Nat.reduceEqDiff, Nat.reduceLeDiff, Nat.zero_le, List.length_nil, List.length_cons, Nat.zero_add, true_or, or_true, false_or, or_false, true_and, and_true, and_self, mb_01, mb_t, mb_f]
  exact k I1 h1 fr1
end LI
