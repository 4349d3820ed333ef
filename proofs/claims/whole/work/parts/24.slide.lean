theorem p21 {a b : Nat} (ha : a < 7) (hb : b < 7) : ∀ x, n_pair a b = some x → x < 21 := fun _ h => n_pair_lt ha hb h
theorem lo_n {p : Nat} (hp : p < 21) : fa_low (nI p) = nI (pr_lo p) ∧ pr_lo p < 7 := by
  have h : ∀ p, p < 21 → fa_low (nI p) = nI (pr_lo p) ∧ pr_lo p < 7 := by decide +kernel
  exact h p hp
theorem hi_n {p : Nat} (hp : p < 21) : fa_high (nI p) = nI (pr_hi p) ∧ pr_hi p < 7 := by
  have h : ∀ p, p < 21 → fa_high (nI p) = nI (pr_hi p) ∧ pr_hi p < 7 := by decide +kernel
  exact h p hp
def al_two (S : al_S) (now o : Nat) (c1 c2 : Option Nat) : al_S := al_try (al_try S now o c1) now o c2
def al_slide (now base a b q : Nat) (S : al_S) (c : Nat) : al_S := al_two S now (al_at S (n_ofLine a b c)) (n_ofPairs base (n_pair a c) (some q)) (n_ofPairs base (n_pair b c) (some q))
def al_slideOver (now base a b c : Nat) (S : al_S) (q : Nat) : al_S := al_two S now (al_at S (n_ofPairs base (n_pair a b) (some q))) (n_ofPairs base (n_pair a c) (some q)) (n_ofPairs base (n_pair b c) (some q))
def al_upright (now p a b : Nat) (S : al_S) (q : Nat) : al_S := al_try S now (al_at S (n_ofPairs 548 (n_pair a q) (n_pair b q))) (n_ofPairs 338 (n_pair a b) (n_pair p q))
def al_onMiddle (now m p a b : Nat) (S : al_S) : al_S := al_try S now (al_at S (n_ofMiddle 758 m a b)) (n_ofPairs 548 (n_pair p a) (n_pair p b))
section LD
variable {z : mm_S} {d : Nat} {I : mm_I} {J : mm_J} {np : Nat} {S : al_S} {Q : Option Value → mm_I → mm_J → Prop}
theorem al_two_no {now o : Nat} {c1 c2 : Option Nat} (ho : ¬ o < 5) : al_two S now o c1 c2 = S := by
  unfold al_two
  rw [al_try_no ho, al_try_no ho]
theorem w_slide_loop {base a b q now : Nat} {p : Int32} (hB : isB base) (ha : a < 7) (hb : b < 7) (hq : q < 21) (hnow : now ≤ 4) : ∀ (m r : Nat) (S : al_S) (I : mm_I) (ov : Option Value), r + m = np → rl_rep I np S → I 113 5 = nI now → (∀ I', rl_rep I' np ((List.range' r m).foldl (al_slide now base a b q) S) → rl_fr I I' → Q none I' J) →
    mm_at z (mm_call z (d + 1)) (mm_code 41) Q 15 [some (.ref 113), some (.int (nI base)), some (.int p), some (.int (nI q)), some (.int (nI a)), some (.int (nI b)), some (.int (nI r)), ov] [] I J := by
  intro m
  induction m with
  | zero =>
    intro r S I ov hr h hn k
    have hk := k I h rl_fr_rf
    have e1 : (nI np ≤ nI r) = True := eq_true (nI_le (by omega) (by have := h.2.2.1; omega))
    rw [hk_41_15]
    simp only [bk_41, h.1, e1, true_implies, not_true_eq_false, false_implies, mmE, mmE0, mmH, mT, mR, mRf, mAl, mAs, mAz, mAn, Int.reduceToNat, Int32.reduceOfInt, Int64.reduceOfInt, Int.reduceAdd, swE, Nat.reduceDiv, Nat.reduceMod, Nat.reduceAdd, Nat.reduceMul, Nat.reduceEqDiff, Nat.reduceLeDiff, Nat.zero_le, List.length_nil, List.length_cons, Nat.zero_add, true_or, or_true, false_or, or_false, true_and, and_true, and_self, mb_01, mb_t, mb_f]
    exact hk
  | succ m ih =>
    intro r S I ov hr h hn k
    have h7 := h.2.2.1
    have hr7 : r < 7 := by omega
    have hF1 : ∀ x, n_ofLine a b r = some x → isF x = true := fun x e => isF_line ha hb hr7 e
    have hF2 : ∀ x, n_ofPairs base (n_pair a r) (some q) = some x → isF x = true := fun x e => isF_pairs hB (p21 ha hr7) (some21 hq) e
    have hF3 : ∀ x, n_ofPairs base (n_pair b r) (some q) = some x → isF x = true := fun x e => isF_pairs hB (p21 hb hr7) (some21 hq) e
    have f1 : fa_ofLine (nI a) (nI b) (nI r) = eI (n_ofLine a b r) := fa_ofLine_n ha hb hr7
    have f2 : fa_ofPairs (nI base) (fa_pair (nI a) (nI r)) (nI q) = eI (n_ofPairs base (n_pair a r) (some q)) := by
      rw [fa_pair_n ha hr7]
      exact fa_ofPairs_n (base := base) (p := n_pair a r) (q := some q) hB (p21 ha hr7) (some21 hq)
    have f3 : fa_ofPairs (nI base) (fa_pair (nI b) (nI r)) (nI q) = eI (n_ofPairs base (n_pair b r) (some q)) := by
      rw [fa_pair_n hb hr7]
      exact fa_ofPairs_n (base := base) (p := n_pair b r) (q := some q) hB (p21 hb hr7) (some21 hq)
    have e1 : (nI np ≤ nI r) = False := eq_false (nI_ge (by omega) (by omega))
    have ho6 := al_at_le h (isF_lt' hF1)
    have e2 : (nI (al_at S (n_ofLine a b r)) < (5 : Int32)) = (al_at S (n_ofLine a b r) < 5) := lt_nI (b := 5) (by omega) (by decide)
    have e3 : nI r + 1 = nI (r + 1) := (nI_succ r).symm
    have hk2 : ∀ I1, rl_rep I1 np (al_slide now base a b q S r) → rl_fr I I1 → ∀ ov2, mm_at z (mm_call z (d + 1)) (mm_code 41) Q 15 [some (.ref 113), some (.int (nI base)), some (.int p), some (.int (nI q)), some (.int (nI a)), some (.int (nI b)), some (.int (nI (r + 1))), ov2] [] I1 J := by
      intro I1 h1 fr1 ov2
      refine ih (r + 1) _ I1 ov2 (by omega) h1 (by rw [fr1.1]; exact hn) (fun I' h2 fr2 => k I' ?_ (rl_fr_tr fr1 fr2))
      rw [List.range'_succ]
      exact h2
    rw [hk_41_15]
    simp only [bk_41, h.1, e1, c_ofPairs, c_pair, c_ofLine, f1, f2, f3, c_at h (isF_lt' hF1), e2, e3, true_implies, not_true_eq_false, false_implies, not_false_eq_true, mmE, mmE0, mmH, mT, mR, mRf, mAl, mAs, mAz, mAn, Int.reduceToNat, Int32.reduceOfInt, Int64.reduceOfInt, Int.reduceAdd, swE, Nat.reduceDiv, Nat.reduceMod, Nat.reduceAdd, Nat.reduceMul, Nat.reduceEqDiff, Nat.reduceLeDiff, Nat.zero_le, List.length_nil, List.length_cons, Nat.zero_add, true_or, or_true, false_or, or_false, true_and, and_true, and_self, mb_01, mb_t, mb_f]
    refine ⟨fun h5 => ?_, fun h5 => ?_⟩
    · refine w_off h hn hnow h5 hF2 (fun I1 h1 fr1 => ?_)
      simp only [bk_41, c_ofPairs, c_pair, f3, e3, mmE, mmE0, mmH, mT, mR, mRf, mAl, mAs, mAz, mAn, Int.reduceToNat, Int32.reduceOfInt, Int64.reduceOfInt, Int.reduceAdd, swE, Nat.reduceDiv, Nat.reduceMod, Nat.reduceAdd, Nat.reduceMul, Nat.reduceEqDiff, Nat.reduceLeDiff, Nat.zero_le, List.length_nil, List.length_cons, Nat.zero_add, true_or, or_true, false_or, or_false, true_and, and_true, and_self, mb_01, mb_t, mb_f]
      refine w_off h1 (by rw [fr1.1]; exact hn) hnow h5 hF3 (fun I2 h2 fr2 => ?_)
      simp only [bk_41, e3, mmE, mmE0, mmH, mT, mR, mRf, mAl, mAs, mAz, mAn, Int.reduceToNat, Int32.reduceOfInt, Int64.reduceOfInt, Int.reduceAdd, swE, Nat.reduceDiv, Nat.reduceMod, Nat.reduceAdd, Nat.reduceMul, Nat.reduceEqDiff, Nat.reduceLeDiff, Nat.zero_le, List.length_nil, List.length_cons, Nat.zero_add, true_or, or_true, false_or, or_false, true_and, and_true, and_self, mb_01, mb_t, mb_f]
      exact hk2 I2 h2 (rl_fr_tr fr1 fr2) _
    · refine hk2 I ?_ rl_fr_rf _
      unfold al_slide
      rw [al_two_no h5]
      exact h
theorem w_slide {base p q now : Nat} (hB : isB base) (hp : p < 21) (hq : q < 21) (hnow : now ≤ 4) (h : rl_rep I np S) (hn : I 113 5 = nI now) (k : ∀ I', rl_rep I' np ((List.range' 0 np).foldl (al_slide now base (pr_lo p) (pr_hi p) q) S) → rl_fr I I' → Q none I' J) : mm_call z (d + 2) 41 [.ref 113, .int (nI base), .int (nI p), .int (nI q)] I J Q := by
  simp only [ce_41, bk_41, c_low, c_high, (lo_n hp).1, (hi_n hp).1, mmE, mmE0, mmH, mT, mR, mRf, mAl, mAs, mAz, mAn, Int.reduceToNat, Int32.reduceOfInt, Int64.reduceOfInt, Int.reduceAdd, swE, Nat.reduceDiv, Nat.reduceMod, Nat.reduceAdd, Nat.reduceMul, Nat.reduceEqDiff, Nat.reduceLeDiff, Nat.zero_le, List.length_nil, List.length_cons, Nat.zero_add, true_or, or_true, false_or, or_false, true_and, and_true, and_self, mb_01, mb_t, mb_f]
  exact w_slide_loop hB (lo_n hp).2 (hi_n hp).2 hq hnow _ 0 S I none (by omega) h hn k
theorem w_slideOver_loop {base a b c now : Nat} (hB : isB base) (ha : a < 7) (hb : b < 7) (hc : c < 7) (hnow : now ≤ 4) : ∀ (m r : Nat) (S : al_S) (I : mm_I) (ov : Option Value), r + m = np * (np - 1) / 2 → rl_rep I np S → I 113 5 = nI now → (∀ I', rl_rep I' np ((List.range' r m).foldl (al_slideOver now base a b c) S) → rl_fr I I' → Q none I' J) →
    mm_at z (mm_call z (d + 1)) (mm_code 38) Q 10 [some (.ref 113), some (.int (nI base)), some (.int (nI a)), some (.int (nI b)), some (.int (nI c)), some (.int (eI (n_pair a b))), some (.int (nI r)), ov] [] I J := by
  intro m
  induction m with
  | zero =>
    intro r S I ov hr h hn k
    have hk := k I h rl_fr_rf
    have e1 : (nI (np * (np - 1) / 2) ≤ nI r) = True := eq_true (nI_le (by omega) (by have := pairs21 h.2.2.1; omega))
    rw [hk_38_10]
    simp only [bk_38, h.2.1, e1, true_implies, not_true_eq_false, false_implies, mmE, mmE0, mmH, mT, mR, mRf, mAl, mAs, mAz, mAn, Int.reduceToNat, Int32.reduceOfInt, Int64.reduceOfInt, Int.reduceAdd, swE, Nat.reduceDiv, Nat.reduceMod, Nat.reduceAdd, Nat.reduceMul, Nat.reduceEqDiff, Nat.reduceLeDiff, Nat.zero_le, List.length_nil, List.length_cons, Nat.zero_add, true_or, or_true, false_or, or_false, true_and, and_true, and_self, mb_01, mb_t, mb_f]
    exact hk
  | succ m ih =>
    intro r S I ov hr h hn k
    have h21 := pairs21 h.2.2.1
    have hr21 : r < 21 := by omega
    have hF1 : ∀ x, n_ofPairs base (n_pair a b) (some r) = some x → isF x = true := fun x e => isF_pairs hB (p21 ha hb) (some21 hr21) e
    have hF2 : ∀ x, n_ofPairs base (n_pair a c) (some r) = some x → isF x = true := fun x e => isF_pairs hB (p21 ha hc) (some21 hr21) e
    have hF3 : ∀ x, n_ofPairs base (n_pair b c) (some r) = some x → isF x = true := fun x e => isF_pairs hB (p21 hb hc) (some21 hr21) e
    have f1 : fa_ofPairs (nI base) (eI (n_pair a b)) (nI r) = eI (n_ofPairs base (n_pair a b) (some r)) := fa_ofPairs_n (base := base) (p := n_pair a b) (q := some r) hB (p21 ha hb) (some21 hr21)
    have f2 : fa_ofPairs (nI base) (fa_pair (nI a) (nI c)) (nI r) = eI (n_ofPairs base (n_pair a c) (some r)) := by
      rw [fa_pair_n ha hc]
      exact fa_ofPairs_n (base := base) (p := n_pair a c) (q := some r) hB (p21 ha hc) (some21 hr21)
    have f3 : fa_ofPairs (nI base) (fa_pair (nI b) (nI c)) (nI r) = eI (n_ofPairs base (n_pair b c) (some r)) := by
      rw [fa_pair_n hb hc]
      exact fa_ofPairs_n (base := base) (p := n_pair b c) (q := some r) hB (p21 hb hc) (some21 hr21)
    have e1 : (nI (np * (np - 1) / 2) ≤ nI r) = False := eq_false (nI_ge (by omega) (by omega))
    have ho6 := al_at_le h (isF_lt' hF1)
    have e2 : (nI (al_at S (n_ofPairs base (n_pair a b) (some r))) < (5 : Int32)) = (al_at S (n_ofPairs base (n_pair a b) (some r)) < 5) := lt_nI (b := 5) (by omega) (by decide)
    have e3 : nI r + 1 = nI (r + 1) := (nI_succ r).symm
    have hk2 : ∀ I1, rl_rep I1 np (al_slideOver now base a b c S r) → rl_fr I I1 → ∀ ov2, mm_at z (mm_call z (d + 1)) (mm_code 38) Q 10 [some (.ref 113), some (.int (nI base)), some (.int (nI a)), some (.int (nI b)), some (.int (nI c)), some (.int (eI (n_pair a b))), some (.int (nI (r + 1))), ov2] [] I1 J := by
      intro I1 h1 fr1 ov2
      refine ih (r + 1) _ I1 ov2 (by omega) h1 (by rw [fr1.1]; exact hn) (fun I' h2 fr2 => k I' ?_ (rl_fr_tr fr1 fr2))
      rw [List.range'_succ]
      exact h2
    rw [hk_38_10]
    simp only [bk_38, h.2.1, e1, c_ofPairs, c_pair, f1, f2, f3, c_at h (isF_lt' hF1), e2, e3, true_implies, not_true_eq_false, false_implies, not_false_eq_true, mmE, mmE0, mmH, mT, mR, mRf, mAl, mAs, mAz, mAn, Int.reduceToNat, Int32.reduceOfInt, Int64.reduceOfInt, Int.reduceAdd, swE, Nat.reduceDiv, Nat.reduceMod, Nat.reduceAdd, Nat.reduceMul, Nat.reduceEqDiff, Nat.reduceLeDiff, Nat.zero_le, List.length_nil, List.length_cons, Nat.zero_add, true_or, or_true, false_or, or_false, true_and, and_true, and_self, mb_01, mb_t, mb_f]
    refine ⟨fun h5 => ?_, fun h5 => ?_⟩
    · refine w_off h hn hnow h5 hF2 (fun I1 h1 fr1 => ?_)
      simp only [bk_38, c_ofPairs, c_pair, f3, e3, mmE, mmE0, mmH, mT, mR, mRf, mAl, mAs, mAz, mAn, Int.reduceToNat, Int32.reduceOfInt, Int64.reduceOfInt, Int.reduceAdd, swE, Nat.reduceDiv, Nat.reduceMod, Nat.reduceAdd, Nat.reduceMul, Nat.reduceEqDiff, Nat.reduceLeDiff, Nat.zero_le, List.length_nil, List.length_cons, Nat.zero_add, true_or, or_true, false_or, or_false, true_and, and_true, and_self, mb_01, mb_t, mb_f]
      refine w_off h1 (by rw [fr1.1]; exact hn) hnow h5 hF3 (fun I2 h2 fr2 => ?_)
      simp only [bk_38, e3, mmE, mmE0, mmH, mT, mR, mRf, mAl, mAs, mAz, mAn, Int.reduceToNat, Int32.reduceOfInt, Int64.reduceOfInt, Int.reduceAdd, swE, Nat.reduceDiv, Nat.reduceMod, Nat.reduceAdd, Nat.reduceMul, Nat.reduceEqDiff, Nat.reduceLeDiff, Nat.zero_le, List.length_nil, List.length_cons, Nat.zero_add, true_or, or_true, false_or, or_false, true_and, and_true, and_self, mb_01, mb_t, mb_f]
      exact hk2 I2 h2 (rl_fr_tr fr1 fr2) _
    · refine hk2 I ?_ rl_fr_rf _
      unfold al_slideOver
      rw [al_two_no h5]
      exact h
theorem w_slideOver {base a b c now : Nat} (hB : isB base) (ha : a < 7) (hb : b < 7) (hc : c < 7) (hnow : now ≤ 4) (h : rl_rep I np S) (hn : I 113 5 = nI now) (k : ∀ I', rl_rep I' np ((List.range' 0 (np * (np - 1) / 2)).foldl (al_slideOver now base a b c) S) → rl_fr I I' → Q none I' J) : mm_call z (d + 2) 38 [.ref 113, .int (nI base), .int (nI a), .int (nI b), .int (nI c)] I J Q := by
  simp only [ce_38, bk_38, c_pair, fa_pair_n ha hb, mmE, mmE0, mmH, mT, mR, mRf, mAl, mAs, mAz, mAn, Int.reduceToNat, Int32.reduceOfInt, Int64.reduceOfInt, Int.reduceAdd, swE, Nat.reduceDiv, Nat.reduceMod, Nat.reduceAdd, Nat.reduceMul, Nat.reduceEqDiff, Nat.reduceLeDiff, Nat.zero_le, List.length_nil, List.length_cons, Nat.zero_add, true_or, or_true, false_or, or_false, true_and, and_true, and_self, mb_01, mb_t, mb_f]
  exact w_slideOver_loop hB ha hb hc hnow _ 0 S I none (by omega) h hn k
theorem w_onMiddle {m p ab now : Nat} (hm : m < 7) (hp : p < 7) (hab : ab < 21) (hnow : now ≤ 4) (h : rl_rep I np S) (hn : I 113 5 = nI now) (k : ∀ I', rl_rep I' np (al_onMiddle now m p (pr_lo ab) (pr_hi ab) S) → rl_fr I I' → Q none I' J) : mm_call z (d + 2) 44 [.ref 113, .int (nI m), .int (nI p), .int (nI ab)] I J Q := by
  obtain ⟨l1, l2⟩ := lo_n hab
  obtain ⟨g1, g2⟩ := hi_n hab
  have hF1 : ∀ x, n_ofMiddle 758 m (pr_lo ab) (pr_hi ab) = some x → isF x = true := fun x e => isF_middle (Or.inl rfl) hm l2 g2 e
  have hF2 : ∀ x, n_ofPairs 548 (n_pair p (pr_lo ab)) (n_pair p (pr_hi ab)) = some x → isF x = true := fun x e => isF_pairs (Or.inr (Or.inr rfl)) (p21 hp l2) (p21 hp g2) e
  have f1 : fa_ofMiddle 758 (nI m) (nI (pr_lo ab)) (nI (pr_hi ab)) = eI (n_ofMiddle 758 m (pr_lo ab) (pr_hi ab)) := fa_ofMiddle_n (base := 758) (Or.inl rfl) hm l2 g2
  have f2 : fa_ofPairs 548 (fa_pair (nI p) (nI (pr_lo ab))) (fa_pair (nI p) (nI (pr_hi ab))) = eI (n_ofPairs 548 (n_pair p (pr_lo ab)) (n_pair p (pr_hi ab))) := by
    rw [fa_pair_n hp l2, fa_pair_n hp g2]
    exact fa_ofPairs_n (base := 548) (Or.inr (Or.inr rfl)) (p21 hp l2) (p21 hp g2)
  have ho6 := al_at_le h (isF_lt' hF1)
  have e2 : ((5 : Int32) ≤ nI (al_at S (n_ofMiddle 758 m (pr_lo ab) (pr_hi ab)))) = (5 ≤ al_at S (n_ofMiddle 758 m (pr_lo ab) (pr_hi ab))) := le_nI (a := 5) (by decide) (by omega)
  simp only [ce_44, bk_44, c_low, c_high, l1, g1, c_ofMiddle, c_ofPairs, c_pair, f1, f2, c_at h (isF_lt' hF1), e2, mmE, mmE0, mmH, mT, mR, mRf, mAl, mAs, mAz, mAn, Int.reduceToNat, Int32.reduceOfInt, Int64.reduceOfInt, Int.reduceAdd, swE, Nat.reduceDiv, Nat.reduceMod, Nat.reduceAdd, Nat.reduceMul, Nat.reduceEqDiff, Nat.reduceLeDiff, Nat.zero_le, List.length_nil, List.length_cons, Nat.zero_add, true_or, or_true, false_or, or_false, true_and, and_true, and_self, mb_01, mb_t, mb_f]
  refine ⟨fun h5 => k I ?_ rl_fr_rf, fun h5 => ?_⟩
  · unfold al_onMiddle
    rw [al_try_no (by omega)]
    exact h
  · refine w_off h hn hnow (by omega) hF2 (fun I1 h1 fr1 => ?_)
    simp only [bk_44, mmE, mmE0, mmH, mT, mR, mRf, mAl, mAs, mAz, mAn, Int.reduceToNat, Int32.reduceOfInt, Int64.reduceOfInt, Int.reduceAdd, swE, Nat.reduceDiv, Nat.reduceMod, Nat.reduceAdd, Nat.reduceMul, Nat.reduceEqDiff, Nat.reduceLeDiff, Nat.zero_le, List.length_nil, List.length_cons, Nat.zero_add, true_or, or_true, false_or, or_false, true_and, and_true, and_self, mb_01, mb_t, mb_f]
    exact k I1 h1 fr1
theorem w_upright_loop {p a b now : Nat} (hp : p < 7) (ha : a < 7) (hb : b < 7) (hnow : now ≤ 4) : ∀ (m r : Nat) (S : al_S) (I : mm_I) (ov : Option Value), r + m = np → rl_rep I np S → I 113 5 = nI now → (∀ I', rl_rep I' np ((List.range' r m).foldl (al_upright now p a b) S) → rl_fr I I' → Q none I' J) →
    mm_at z (mm_call z (d + 1)) (mm_code 46) Q 3 [some (.ref 113), some (.int (nI p)), some (.int (nI a)), some (.int (nI b)), some (.int (nI r)), ov] [] I J := by
  intro m
  induction m with
  | zero =>
    intro r S I ov hr h hn k
    have hk := k I h rl_fr_rf
    have e1 : (nI np ≤ nI r) = True := eq_true (nI_le (by omega) (by have := h.2.2.1; omega))
    rw [hk_46_3]
    simp only [bk_46, h.1, e1, true_implies, not_true_eq_false, false_implies, mmE, mmE0, mmH, mT, mR, mRf, mAl, mAs, mAz, mAn, Int.reduceToNat, Int32.reduceOfInt, Int64.reduceOfInt, Int.reduceAdd, swE, Nat.reduceDiv, Nat.reduceMod, Nat.reduceAdd, Nat.reduceMul, Nat.reduceEqDiff, Nat.reduceLeDiff, Nat.zero_le, List.length_nil, List.length_cons, Nat.zero_add, true_or, or_true, false_or, or_false, true_and, and_true, and_self, mb_01, mb_t, mb_f]
    exact hk
  | succ m ih =>
    intro r S I ov hr h hn k
    have h7 := h.2.2.1
    have hr7 : r < 7 := by omega
    have hF1 : ∀ x, n_ofPairs 548 (n_pair a r) (n_pair b r) = some x → isF x = true := fun x e => isF_pairs (Or.inr (Or.inr rfl)) (p21 ha hr7) (p21 hb hr7) e
    have hF2 : ∀ x, n_ofPairs 338 (n_pair a b) (n_pair p r) = some x → isF x = true := fun x e => isF_pairs (Or.inr (Or.inl rfl)) (p21 ha hb) (p21 hp hr7) e
    have f1 : fa_ofPairs 548 (fa_pair (nI a) (nI r)) (fa_pair (nI b) (nI r)) = eI (n_ofPairs 548 (n_pair a r) (n_pair b r)) := by
      rw [fa_pair_n ha hr7, fa_pair_n hb hr7]
      exact fa_ofPairs_n (base := 548) (Or.inr (Or.inr rfl)) (p21 ha hr7) (p21 hb hr7)
    have f2 : fa_ofPairs 338 (fa_pair (nI a) (nI b)) (fa_pair (nI p) (nI r)) = eI (n_ofPairs 338 (n_pair a b) (n_pair p r)) := by
      rw [fa_pair_n ha hb, fa_pair_n hp hr7]
      exact fa_ofPairs_n (base := 338) (Or.inr (Or.inl rfl)) (p21 ha hb) (p21 hp hr7)
    have e1 : (nI np ≤ nI r) = False := eq_false (nI_ge (by omega) (by omega))
    have ho6 := al_at_le h (isF_lt' hF1)
    have e2 : ((5 : Int32) ≤ nI (al_at S (n_ofPairs 548 (n_pair a r) (n_pair b r)))) = (5 ≤ al_at S (n_ofPairs 548 (n_pair a r) (n_pair b r))) := le_nI (a := 5) (by decide) (by omega)
    have e3 : nI r + 1 = nI (r + 1) := (nI_succ r).symm
    have hk2 : ∀ I1, rl_rep I1 np (al_upright now p a b S r) → rl_fr I I1 → ∀ ov2, mm_at z (mm_call z (d + 1)) (mm_code 46) Q 3 [some (.ref 113), some (.int (nI p)), some (.int (nI a)), some (.int (nI b)), some (.int (nI (r + 1))), ov2] [] I1 J := by
      intro I1 h1 fr1 ov2
      refine ih (r + 1) _ I1 ov2 (by omega) h1 (by rw [fr1.1]; exact hn) (fun I' h2 fr2 => k I' ?_ (rl_fr_tr fr1 fr2))
      rw [List.range'_succ]
      exact h2
    rw [hk_46_3]
    simp only [bk_46, h.1, e1, c_ofPairs, c_pair, f1, f2, c_at h (isF_lt' hF1), e2, e3, true_implies, not_true_eq_false, false_implies, not_false_eq_true, mmE, mmE0, mmH, mT, mR, mRf, mAl, mAs, mAz, mAn, Int.reduceToNat, Int32.reduceOfInt, Int64.reduceOfInt, Int.reduceAdd, swE, Nat.reduceDiv, Nat.reduceMod, Nat.reduceAdd, Nat.reduceMul, Nat.reduceEqDiff, Nat.reduceLeDiff, Nat.zero_le, List.length_nil, List.length_cons, Nat.zero_add, true_or, or_true, false_or, or_false, true_and, and_true, and_self, mb_01, mb_t, mb_f]
    refine ⟨fun h5 => ?_, fun h5 => ?_⟩
    · refine hk2 I ?_ rl_fr_rf _
      unfold al_upright
      rw [al_try_no (by omega)]
      exact h
    · refine w_off h hn hnow (by omega) hF2 (fun I1 h1 fr1 => ?_)
      simp only [bk_46, e3, mmE, mmE0, mmH, mT, mR, mRf, mAl, mAs, mAz, mAn, Int.reduceToNat, Int32.reduceOfInt, Int64.reduceOfInt, Int.reduceAdd, swE, Nat.reduceDiv, Nat.reduceMod, Nat.reduceAdd, Nat.reduceMul, Nat.reduceEqDiff, Nat.reduceLeDiff, Nat.zero_le, List.length_nil, List.length_cons, Nat.zero_add, true_or, or_true, false_or, or_false, true_and, and_true, and_self, mb_01, mb_t, mb_f]
      exact hk2 I1 h1 fr1 _
theorem w_upright {p a b now : Nat} (hp : p < 7) (ha : a < 7) (hb : b < 7) (hnow : now ≤ 4) (h : rl_rep I np S) (hn : I 113 5 = nI now) (k : ∀ I', rl_rep I' np ((List.range' 0 np).foldl (al_upright now p a b) S) → rl_fr I I' → Q none I' J) : mm_call z (d + 2) 46 [.ref 113, .int (nI p), .int (nI a), .int (nI b)] I J Q := by
  simp only [ce_46, bk_46, mmE, mmE0, mmH, mT, mR, mRf, mAl, mAs, mAz, mAn, Int.reduceToNat, Int32.reduceOfInt, Int64.reduceOfInt, Int.reduceAdd, swE, Nat.reduceDiv, Nat.reduceMod, Nat.reduceAdd, Nat.reduceMul, Nat.reduceEqDiff, Nat.reduceLeDiff, Nat.zero_le, List.length_nil, List.length_cons, Nat.zero_add, true_or, or_true, false_or, or_false, true_and, and_true, and_self, mb_01, mb_t, mb_f]
  exact w_upright_loop hp ha hb hnow _ 0 S I none (by omega) h hn k
end LD
