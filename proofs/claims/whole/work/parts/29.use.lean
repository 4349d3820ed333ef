def al_ch (np now p q via gives : Nat) (S : al_S) : al_S := (List.range' 0 (np * (np - 1) / 2)).foldl (al_chain now p q via gives) S
def al_sl (np now base p q : Nat) (S : al_S) : al_S := (List.range' 0 np).foldl (al_slide now base (pr_lo p) (pr_hi p) q) S
def al_btw (now f : Nat) (S : al_S) : al_S := al_try S now now (n_ofLine (f / 21) (pr_lo (f % 21)) (pr_hi (f % 21)))
def al_midp (now m ab : Nat) (S : al_S) (p : Nat) : al_S := al_try S now (al_at S (n_ofPairs 338 (n_pair m p) (some ab))) (n_ofPairs 548 (n_pair p (pr_lo ab)) (n_pair p (pr_hi ab)))
def al_mid (np now f : Nat) (S : al_S) : al_S := (List.range' 0 np).foldl (al_midp now (f / 21) (f % 21)) ((List.range' 0 np).foldl (al_joins np now (f / 21) (pr_hi (f % 21)) (pr_lo (f % 21))) ((List.range' 0 np).foldl (al_joins np now (f / 21) (pr_lo (f % 21)) (pr_hi (f % 21))) (al_try (al_try S now now (n_ofPairs 548 (n_pair (f / 21) (pr_lo (f % 21))) (n_pair (f / 21) (pr_hi (f % 21))))) now now (n_ofMiddle 1033 (f / 21) (pr_lo (f % 21)) (pr_hi (f % 21))))))
def al_par (np now f : Nat) (S : al_S) : al_S :=
  let S6 := al_sl np now 128 (n_great f) (n_less f) (al_sl np now 128 (n_less f) (n_great f) (al_ch np now (n_great f) (n_less f) 338 338 (al_ch np now (n_less f) (n_great f) 338 338 (al_ch np now (n_great f) (n_less f) 128 128 (al_ch np now (n_less f) (n_great f) 128 128 S)))))
  if bitsN 7 (maskN (n_less f) ||| maskN (n_great f)) = 3 then al_try S6 now now (some (maskN (n_less f) ||| maskN (n_great f))) else S6
def al_om (now m p ab : Nat) (S : al_S) : al_S := al_onMiddle now m p (pr_lo ab) (pr_hi ab) S
def al_perp (np now f : Nat) (S : al_S) : al_S :=
  al_om now (pr_hi (n_great f)) (pr_lo (n_great f)) (n_less f) (al_om now (pr_lo (n_great f)) (pr_hi (n_great f)) (n_less f) (al_om now (pr_hi (n_less f)) (pr_lo (n_less f)) (n_great f) (al_om now (pr_lo (n_less f)) (pr_hi (n_less f)) (n_great f)
    (al_sl np now 338 (n_great f) (n_less f) (al_sl np now 338 (n_less f) (n_great f) (al_ch np now (n_great f) (n_less f) 128 338 (al_ch np now (n_less f) (n_great f) 128 338 (al_ch np now (n_great f) (n_less f) 338 128 (al_ch np now (n_less f) (n_great f) 338 128 S)))))))))
def eq_s (f : Nat) : Nat := maskN (n_less f) &&& maskN (n_great f)
def eq_o (f : Nat) : Nat := ntzN (eq_s f)
def eq_a (f : Nat) : Nat := ntzN (maskN (n_less f) ^^^ eq_s f)
def eq_b (f : Nat) : Nat := ntzN (maskN (n_great f) ^^^ eq_s f)
def al_eq (np now f : Nat) (S : al_S) : al_S :=
  let S2 := al_ch np now (n_great f) (n_less f) 548 548 (al_ch np now (n_less f) (n_great f) 548 548 S)
  if eq_s f = 0 then S2 else (List.range' 0 np).foldl (al_rounds np now (eq_o f) (eq_b f) (eq_a f)) ((List.range' 0 np).foldl (al_rounds np now (eq_o f) (eq_a f) (eq_b f)) ((List.range' 0 np).foldl (al_upright now (eq_o f) (eq_a f) (eq_b f)) (al_try S2 now (al_at S2 (n_ofLine (eq_o f) (eq_a f) (eq_b f))) (n_ofMiddle 758 (eq_o f) (eq_a f) (eq_b f)))))
def al_use (np now f : Nat) (S : al_S) : al_S := if f < 128 then (List.range' 0 np).foldl (al_line np now f) S else if f < 338 then al_par np now f S else if f < 548 then al_perp np now f S else if f < 758 then al_eq np now f S else if f < 905 then al_mid np now (f - 758) S else if f < 1033 then (List.range' 0 np).foldl (al_c1 np now (f - 905)) S else al_btw now (f - 1033) S
section LH
variable {z : mm_S} {d : Nat} {I : mm_I} {J : mm_J} {np : Nat} {S : al_S} {Q : Option Value → mm_I → mm_J → Prop}
theorem div21 {f : Nat} (hf : f < 147) : nI f / 21 = nI (f / 21) ∧ nI f - nI f / 21 * 21 = nI (f % 21) ∧ f / 21 < 7 ∧ f % 21 < 21 := by
  have t : ∀ f, f < 147 → nI f / 21 = nI (f / 21) ∧ nI f - nI f / 21 * 21 = nI (f % 21) ∧ f / 21 < 7 ∧ f % 21 < 21 := by decide +kernel
  exact t f hf
theorem n21 : (¬ (21 : Int32) = 0) = True := eq_true (by decide)
theorem w_btw {f now : Nat} (hf : f < 147) (hnow : now ≤ 4) (h : rl_rep I np S) (hn : I 113 5 = nI now) (k : ∀ I', rl_rep I' np (al_btw now f S) → rl_fr I I' → Q none I' J) : mm_call z (d + 2) 51 [.ref 113, .int (nI f)] I J Q := by
  obtain ⟨d1, d2, d3, d4⟩ := div21 hf
  rw [d1] at d2
  obtain ⟨l1, l2⟩ := lo_n d4
  obtain ⟨g1, g2⟩ := hi_n d4
  have f1 : fa_ofLine (nI (f / 21)) (nI (pr_lo (f % 21))) (nI (pr_hi (f % 21))) = eI (n_ofLine (f / 21) (pr_lo (f % 21)) (pr_hi (f % 21))) := fa_ofLine_n d3 l2 g2
  simp only [ce_51, bk_51, d2, d1, n21, c_low, c_high, l1, g1, c_ofLine, f1, hn, mmE, mmE0, mmH, mT, mR, mRf, mAl, mAs, mAz, mAn, Int.reduceToNat, Int32.reduceOfInt, Int64.reduceOfInt, Int.reduceAdd, swE, Nat.reduceDiv, Nat.reduceMod, Nat.reduceAdd, Nat.reduceMul, Nat.reduceEqDiff, Nat.reduceLeDiff, Nat.zero_le, List.length_nil, List.length_cons, Nat.zero_add, true_or, or_true, false_or, or_false, true_and, and_true, and_self, mb_01, mb_t, mb_f]
  refine w_off (o := now) h hn hnow (by omega) (fun x e => isF_line d3 l2 g2 e) (fun I1 h1 fr1 => ?_)
  simp only [mmE, mmE0, mmH, mT, mR, mRf, mAl, mAs, mAz, mAn, Int.reduceToNat, Int32.reduceOfInt, Int64.reduceOfInt, Int.reduceAdd, swE, Nat.reduceDiv, Nat.reduceMod, Nat.reduceAdd, Nat.reduceMul, Nat.reduceEqDiff, Nat.reduceLeDiff, Nat.zero_le, List.length_nil, List.length_cons, Nat.zero_add, true_or, or_true, false_or, or_false, true_and, and_true, and_self, mb_01, mb_t, mb_f]
  exact k I1 h1 fr1
theorem w_midp {m ab now : Nat} {f : Int32} (hm : m < 7) (hab : ab < 21) (hnow : now ≤ 4) : ∀ (w r : Nat) (S : al_S) (I : mm_I) (ov : Option Value), r + w = np → rl_rep I np S → I 113 5 = nI now → (∀ I', rl_rep I' np ((List.range' r w).foldl (al_midp now m ab) S) → rl_fr I I' → Q none I' J) →
    mm_at z (mm_call z (d + 1)) (mm_code 48) Q 88 [some (.ref 113), some (.int f), some (.int (nI m)), some (.int (nI ab)), some (.int (nI (pr_lo ab))), some (.int (nI (pr_hi ab))), some (.int (nI r)), ov] [] I J := by
  obtain ⟨-, ha⟩ := lo_n hab
  obtain ⟨-, hb⟩ := hi_n hab
  intro w
  induction w with
  | zero =>
    intro r S I ov hr h hn k
    have hk := k I h rl_fr_rf
    have e1 : (nI np ≤ nI r) = True := eq_true (nI_le (by omega) (by have := h.2.2.1; omega))
    rw [hk_48_88]
    simp only [bk_48, h.1, e1, true_implies, not_true_eq_false, false_implies, mmE, mmE0, mmH, mT, mR, mRf, mAl, mAs, mAz, mAn, Int.reduceToNat, Int32.reduceOfInt, Int64.reduceOfInt, Int.reduceAdd, swE, Nat.reduceDiv, Nat.reduceMod, Nat.reduceAdd, Nat.reduceMul, Nat.reduceEqDiff, Nat.reduceLeDiff, Nat.zero_le, List.length_nil, List.length_cons, Nat.zero_add, true_or, or_true, false_or, or_false, true_and, and_true, and_self, mb_01, mb_t, mb_f]
    exact hk
  | succ w ih =>
    intro r S I ov hr h hn k
    have h7 := h.2.2.1
    have hr7 : r < 7 := by omega
    have hF1 : ∀ x, n_ofPairs 338 (n_pair m r) (some ab) = some x → isF x = true := fun x e => isF_pairs (Or.inr (Or.inl rfl)) (p21 hm hr7) (some21 hab) e
    have hF2 : ∀ x, n_ofPairs 548 (n_pair r (pr_lo ab)) (n_pair r (pr_hi ab)) = some x → isF x = true := fun x e => isF_pairs (Or.inr (Or.inr rfl)) (p21 hr7 ha) (p21 hr7 hb) e
    have f1 : fa_ofPairs 338 (fa_pair (nI m) (nI r)) (nI ab) = eI (n_ofPairs 338 (n_pair m r) (some ab)) := by
      rw [fa_pair_n hm hr7]
      exact fa_ofPairs_n (base := 338) (p := n_pair m r) (q := some ab) (Or.inr (Or.inl rfl)) (p21 hm hr7) (some21 hab)
    have f2 : fa_ofPairs 548 (fa_pair (nI r) (nI (pr_lo ab))) (fa_pair (nI r) (nI (pr_hi ab))) = eI (n_ofPairs 548 (n_pair r (pr_lo ab)) (n_pair r (pr_hi ab))) := by
      rw [fa_pair_n hr7 ha, fa_pair_n hr7 hb]
      exact fa_ofPairs_n (base := 548) (Or.inr (Or.inr rfl)) (p21 hr7 ha) (p21 hr7 hb)
    have e1 : (nI np ≤ nI r) = False := eq_false (nI_ge (by omega) (by omega))
    have ho6 := al_at_le h (isF_lt' hF1)
    have e2 : ((5 : Int32) ≤ nI (al_at S (n_ofPairs 338 (n_pair m r) (some ab)))) = (5 ≤ al_at S (n_ofPairs 338 (n_pair m r) (some ab))) := le_nI (a := 5) (by decide) (by omega)
    have e3 : nI r + 1 = nI (r + 1) := (nI_succ r).symm
    have hk2 : ∀ I1, rl_rep I1 np (al_midp now m ab S r) → rl_fr I I1 → ∀ ov2, mm_at z (mm_call z (d + 1)) (mm_code 48) Q 88 [some (.ref 113), some (.int f), some (.int (nI m)), some (.int (nI ab)), some (.int (nI (pr_lo ab))), some (.int (nI (pr_hi ab))), some (.int (nI (r + 1))), ov2] [] I1 J := by
      intro I1 h1 fr1 ov2
      refine ih (r + 1) _ I1 ov2 (by omega) h1 (by rw [fr1.1]; exact hn) (fun I' h2 fr2 => k I' ?_ (rl_fr_tr fr1 fr2))
      rw [List.range'_succ]
      exact h2
    rw [hk_48_88]
    simp only [bk_48, h.1, e1, c_ofPairs, c_pair, f1, f2, c_at h (isF_lt' hF1), e2, e3, true_implies, not_true_eq_false, false_implies, not_false_eq_true, mmE, mmE0, mmH, mT, mR, mRf, mAl, mAs, mAz, mAn, Int.reduceToNat, Int32.reduceOfInt, Int64.reduceOfInt, Int.reduceAdd, swE, Nat.reduceDiv, Nat.reduceMod, Nat.reduceAdd, Nat.reduceMul, Nat.reduceEqDiff, Nat.reduceLeDiff, Nat.zero_le, List.length_nil, List.length_cons, Nat.zero_add, true_or, or_true, false_or, or_false, true_and, and_true, and_self, mb_01, mb_t, mb_f]
    refine ⟨fun h5 => ?_, fun h5 => ?_⟩
    · refine hk2 I ?_ rl_fr_rf _
      unfold al_midp
      rw [al_try_no (by omega)]
      exact h
    · refine w_off h hn hnow (by omega) hF2 (fun I1 h1 fr1 => ?_)
      simp only [bk_48, e3, mmE, mmE0, mmH, mT, mR, mRf, mAl, mAs, mAz, mAn, Int.reduceToNat, Int32.reduceOfInt, Int64.reduceOfInt, Int.reduceAdd, swE, Nat.reduceDiv, Nat.reduceMod, Nat.reduceAdd, Nat.reduceMul, Nat.reduceEqDiff, Nat.reduceLeDiff, Nat.zero_le, List.length_nil, List.length_cons, Nat.zero_add, true_or, or_true, false_or, or_false, true_and, and_true, and_self, mb_01, mb_t, mb_f]
      exact hk2 I1 h1 fr1 _
theorem w_mid {f now : Nat} (hf : f < 147) (hnow : now ≤ 4) (h : rl_rep I np S) (hn : I 113 5 = nI now) (k : ∀ I', rl_rep I' np (al_mid np now f S) → rl_fr I I' → Q none I' J) : mm_call z (d + 3) 48 [.ref 113, .int (nI f)] I J Q := by
  obtain ⟨d1, d2, d3, d4⟩ := div21 hf
  rw [d1] at d2
  obtain ⟨l1, l2⟩ := lo_n d4
  obtain ⟨g1, g2⟩ := hi_n d4
  have f1 : fa_ofPairs 548 (fa_pair (nI (f / 21)) (nI (pr_lo (f % 21)))) (fa_pair (nI (f / 21)) (nI (pr_hi (f % 21)))) = eI (n_ofPairs 548 (n_pair (f / 21) (pr_lo (f % 21))) (n_pair (f / 21) (pr_hi (f % 21)))) := by
    rw [fa_pair_n d3 l2, fa_pair_n d3 g2]
    exact fa_ofPairs_n (base := 548) (Or.inr (Or.inr rfl)) (p21 d3 l2) (p21 d3 g2)
  have f2 : fa_ofMiddle 1033 (nI (f / 21)) (nI (pr_lo (f % 21))) (nI (pr_hi (f % 21))) = eI (n_ofMiddle 1033 (f / 21) (pr_lo (f % 21)) (pr_hi (f % 21))) := fa_ofMiddle_n (base := 1033) (Or.inr rfl) d3 l2 g2
  simp only [ce_48, bk_48, d2, d1, n21, c_low, c_high, l1, g1, c_pair, c_ofPairs, f1, hn, mmE, mmE0, mmH, mT, mR, mRf, mAl, mAs, mAz, mAn, Int.reduceToNat, Int32.reduceOfInt, Int64.reduceOfInt, Int.reduceAdd, swE, Nat.reduceDiv, Nat.reduceMod, Nat.reduceAdd, Nat.reduceMul, Nat.reduceEqDiff, Nat.reduceLeDiff, Nat.zero_le, List.length_nil, List.length_cons, Nat.zero_add, true_or, or_true, false_or, or_false, true_and, and_true, and_self, mb_01, mb_t, mb_f]
  refine w_off (o := now) h hn hnow (by omega) (fun x e => isF_pairs (Or.inr (Or.inr rfl)) (p21 d3 l2) (p21 d3 g2) e) (fun I1 h1 fr1 => ?_)
  have hn1 : I1 113 5 = nI now := by rw [fr1.1]; exact hn
  simp only [c_ofMiddle, f2, hn1, mmE, mmE0, mmH, mT, mR, mRf, mAl, mAs, mAz, mAn, Int.reduceToNat, Int32.reduceOfInt, Int64.reduceOfInt, Int.reduceAdd, swE, Nat.reduceDiv, Nat.reduceMod, Nat.reduceAdd, Nat.reduceMul, Nat.reduceEqDiff, Nat.reduceLeDiff, Nat.zero_le, List.length_nil, List.length_cons, Nat.zero_add, true_or, or_true, false_or, or_false, true_and, and_true, and_self, mb_01, mb_t, mb_f]
  refine w_off (o := now) h1 hn1 hnow (by omega) (fun x e => isF_middle (Or.inr rfl) d3 l2 g2 e) (fun I2 h2 fr2 => ?_)
  have hn2 : I2 113 5 = nI now := by rw [fr2.1]; exact hn1
  simp only [mmE, mmE0, mmH, mT, mR, mRf, mAl, mAs, mAz, mAn, Int.reduceToNat, Int32.reduceOfInt, Int64.reduceOfInt, Int.reduceAdd, swE, Nat.reduceDiv, Nat.reduceMod, Nat.reduceAdd, Nat.reduceMul, Nat.reduceEqDiff, Nat.reduceLeDiff, Nat.zero_le, List.length_nil, List.length_cons, Nat.zero_add, true_or, or_true, false_or, or_false, true_and, and_true, and_self, mb_01, mb_t, mb_f]
  refine w_join d3 l2 g2 hnow h2 hn2 (fun I3 h3 fr3 => ?_)
  have hn3 : I3 113 5 = nI now := by rw [fr3.1]; exact hn2
  simp only [mmE, mmE0, mmH, mT, mR, mRf, mAl, mAs, mAz, mAn, Int.reduceToNat, Int32.reduceOfInt, Int64.reduceOfInt, Int.reduceAdd, swE, Nat.reduceDiv, Nat.reduceMod, Nat.reduceAdd, Nat.reduceMul, Nat.reduceEqDiff, Nat.reduceLeDiff, Nat.zero_le, List.length_nil, List.length_cons, Nat.zero_add, true_or, or_true, false_or, or_false, true_and, and_true, and_self, mb_01, mb_t, mb_f]
  refine w_join d3 g2 l2 hnow h3 hn3 (fun I4 h4 fr4 => ?_)
  have hn4 : I4 113 5 = nI now := by rw [fr4.1]; exact hn3
  simp only [bk_48, mmE, mmE0, mmH, mT, mR, mRf, mAl, mAs, mAz, mAn, Int.reduceToNat, Int32.reduceOfInt, Int64.reduceOfInt, Int.reduceAdd, swE, Nat.reduceDiv, Nat.reduceMod, Nat.reduceAdd, Nat.reduceMul, Nat.reduceEqDiff, Nat.reduceLeDiff, Nat.zero_le, List.length_nil, List.length_cons, Nat.zero_add, true_or, or_true, false_or, or_false, true_and, and_true, and_self, mb_01, mb_t, mb_f]
  exact w_midp d3 d4 hnow np 0 _ I4 none (by omega) h4 hn4 (fun I5 h5 fr5 => k I5 h5 (rl_fr_tr fr1 (rl_fr_tr fr2 (rl_fr_tr fr3 (rl_fr_tr fr4 fr5)))))
theorem mask_or {p q : Nat} (hp : p < 21) (hq : q < 21) : nI (maskN p) ||| nI (maskN q) = nI (maskN p ||| maskN q) ∧ maskN p ||| maskN q < 128 ∧ (0 : Int32) + nI (maskN p ||| maskN q) = nI (maskN p ||| maskN q) ∧ nI (maskN p) &&& nI (maskN q) = nI (maskN p &&& maskN q) ∧ maskN p &&& maskN q < 128 ∧ maskN p < 128 := by
  have t : ∀ p, p < 21 → ∀ q, q < 21 → nI (maskN p) ||| nI (maskN q) = nI (maskN p ||| maskN q) ∧ maskN p ||| maskN q < 128 ∧ (0 : Int32) + nI (maskN p ||| maskN q) = nI (maskN p ||| maskN q) ∧ nI (maskN p) &&& nI (maskN q) = nI (maskN p &&& maskN q) ∧ maskN p &&& maskN q < 128 ∧ maskN p < 128 := by decide +kernel
  exact t p hp q hq
theorem w_par {f now : Nat} (h1 : 128 ≤ f) (h2 : f < 338) (hnow : now ≤ 4) (h : rl_rep I np S) (hn : I 113 5 = nI now) (k : ∀ I', rl_rep I' np (al_par np now f S) → rl_fr I I' → Q none I' J) : mm_call z (d + 3) 39 [.ref 113, .int (nI f)] I J Q := by
  obtain ⟨g1, g2, g3⟩ := less_n h1 (by omega : f < 758)
  have g4 : n_less f < 21 := by omega
  obtain ⟨m1, m2, m3, -⟩ := mask_or g4 g2
  simp only [ce_39, bk_39, c_greatPair h1 (by omega : f < 758), c_lessPair, g1, mmE, mmE0, mmH, mT, mR, mRf, mAl, mAs, mAz, mAn, Int.reduceToNat, Int32.reduceOfInt, Int64.reduceOfInt, Int.reduceAdd, swE, Nat.reduceDiv, Nat.reduceMod, Nat.reduceAdd, Nat.reduceMul, Nat.reduceEqDiff, Nat.reduceLeDiff, Nat.zero_le, List.length_nil, List.length_cons, Nat.zero_add, true_or, or_true, false_or, or_false, true_and, and_true, and_self, mb_01, mb_t, mb_f]
  refine w_chain (via := 128) (gives := 128) g4 g2 (Or.inl rfl) (Or.inl rfl) hnow h hn (fun I1 r1 fr1 => ?_)
  have n1 : I1 113 5 = nI now := by rw [fr1.1]; exact hn
  simp only [mmE, mmE0, mmH, mT, mR, mRf, mAl, mAs, mAz, mAn, Int.reduceToNat, Int32.reduceOfInt, Int64.reduceOfInt, Int.reduceAdd, swE, Nat.reduceDiv, Nat.reduceMod, Nat.reduceAdd, Nat.reduceMul, Nat.reduceEqDiff, Nat.reduceLeDiff, Nat.zero_le, List.length_nil, List.length_cons, Nat.zero_add, true_or, or_true, false_or, or_false, true_and, and_true, and_self, mb_01, mb_t, mb_f]
  refine w_chain (via := 128) (gives := 128) g2 g4 (Or.inl rfl) (Or.inl rfl) hnow r1 n1 (fun I2 r2 fr2 => ?_)
  have n2 : I2 113 5 = nI now := by rw [fr2.1]; exact n1
  simp only [mmE, mmE0, mmH, mT, mR, mRf, mAl, mAs, mAz, mAn, Int.reduceToNat, Int32.reduceOfInt, Int64.reduceOfInt, Int.reduceAdd, swE, Nat.reduceDiv, Nat.reduceMod, Nat.reduceAdd, Nat.reduceMul, Nat.reduceEqDiff, Nat.reduceLeDiff, Nat.zero_le, List.length_nil, List.length_cons, Nat.zero_add, true_or, or_true, false_or, or_false, true_and, and_true, and_self, mb_01, mb_t, mb_f]
  refine w_chain (via := 338) (gives := 338) g4 g2 (Or.inr (Or.inl rfl)) (Or.inr (Or.inl rfl)) hnow r2 n2 (fun I3 r3 fr3 => ?_)
  have n3 : I3 113 5 = nI now := by rw [fr3.1]; exact n2
  simp only [mmE, mmE0, mmH, mT, mR, mRf, mAl, mAs, mAz, mAn, Int.reduceToNat, Int32.reduceOfInt, Int64.reduceOfInt, Int.reduceAdd, swE, Nat.reduceDiv, Nat.reduceMod, Nat.reduceAdd, Nat.reduceMul, Nat.reduceEqDiff, Nat.reduceLeDiff, Nat.zero_le, List.length_nil, List.length_cons, Nat.zero_add, true_or, or_true, false_or, or_false, true_and, and_true, and_self, mb_01, mb_t, mb_f]
  refine w_chain (via := 338) (gives := 338) g2 g4 (Or.inr (Or.inl rfl)) (Or.inr (Or.inl rfl)) hnow r3 n3 (fun I4 r4 fr4 => ?_)
  have n4 : I4 113 5 = nI now := by rw [fr4.1]; exact n3
  simp only [mmE, mmE0, mmH, mT, mR, mRf, mAl, mAs, mAz, mAn, Int.reduceToNat, Int32.reduceOfInt, Int64.reduceOfInt, Int.reduceAdd, swE, Nat.reduceDiv, Nat.reduceMod, Nat.reduceAdd, Nat.reduceMul, Nat.reduceEqDiff, Nat.reduceLeDiff, Nat.zero_le, List.length_nil, List.length_cons, Nat.zero_add, true_or, or_true, false_or, or_false, true_and, and_true, and_self, mb_01, mb_t, mb_f]
  refine w_slide (base := 128) (Or.inl rfl) g4 g2 hnow r4 n4 (fun I5 r5 fr5 => ?_)
  have n5 : I5 113 5 = nI now := by rw [fr5.1]; exact n4
  simp only [mmE, mmE0, mmH, mT, mR, mRf, mAl, mAs, mAz, mAn, Int.reduceToNat, Int32.reduceOfInt, Int64.reduceOfInt, Int.reduceAdd, swE, Nat.reduceDiv, Nat.reduceMod, Nat.reduceAdd, Nat.reduceMul, Nat.reduceEqDiff, Nat.reduceLeDiff, Nat.zero_le, List.length_nil, List.length_cons, Nat.zero_add, true_or, or_true, false_or, or_false, true_and, and_true, and_self, mb_01, mb_t, mb_f]
  refine w_slide (base := 128) (Or.inl rfl) g2 g4 hnow r5 n5 (fun I6 r6 fr6 => ?_)
  have n6 : I6 113 5 = nI now := by rw [fr6.1]; exact n5
  have hfr : rl_fr I I6 := rl_fr_tr fr1 (rl_fr_tr fr2 (rl_fr_tr fr3 (rl_fr_tr fr4 (rl_fr_tr fr5 fr6))))
  have hb7 : bitsN 7 (maskN (n_less f) ||| maskN (n_great f)) ≤ 7 := by
    have t : ∀ m, m < 128 → bitsN 7 m ≤ 7 := by decide +kernel
    exact t _ m2
  have e1 : (nI (bitsN 7 (maskN (n_less f) ||| maskN (n_great f))) = 3) = (bitsN 7 (maskN (n_less f) ||| maskN (n_great f)) = 3) := eq_nI (b := 3) (by omega) (by decide)
  simp only [bk_39, c_maskOf g4, c_maskOf g2, m1, c_bitCount m2, m3, n6, e1, mmE, mmE0, mmH, mT, mR, mRf, mAl, mAs, mAz, mAn, Int.reduceToNat, Int32.reduceOfInt, Int64.reduceOfInt, Int.reduceAdd, swE, Nat.reduceDiv, Nat.reduceMod, Nat.reduceAdd, Nat.reduceMul, Nat.reduceEqDiff, Nat.reduceLeDiff, Nat.zero_le, List.length_nil, List.length_cons, Nat.zero_add, true_or, or_true, false_or, or_false, true_and, and_true, and_self, mb_01, mb_t, mb_f]
  refine ⟨fun q => k I6 ?_ hfr, fun q => ?_⟩
  · unfold al_par
    dsimp only
    rw [if_neg q]
    exact r6
  · refine w_off (o := now) (c := some (maskN (n_less f) ||| maskN (n_great f))) r6 n6 hnow (by omega) (fun x e => ?_) (fun I7 r7 fr7 => ?_)
    · cases e
      unfold isF
      rw [if_pos m2]
      simp [q]
    · simp only [bk_39, mmE, mmE0, mmH, mT, mR, mRf, mAl, mAs, mAz, mAn, Int.reduceToNat, Int32.reduceOfInt, Int64.reduceOfInt, Int.reduceAdd, swE, Nat.reduceDiv, Nat.reduceMod, Nat.reduceAdd, Nat.reduceMul, Nat.reduceEqDiff, Nat.reduceLeDiff, Nat.zero_le, List.length_nil, List.length_cons, Nat.zero_add, true_or, or_true, false_or, or_false, true_and, and_true, and_self, mb_01, mb_t, mb_f]
      refine k I7 ?_ (rl_fr_tr hfr fr7)
      unfold al_par
      dsimp only
      rw [if_pos q]
      exact r7
end LH
