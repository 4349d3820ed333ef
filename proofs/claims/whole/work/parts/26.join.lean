def al_join (now m a b c : Nat) (S : al_S) (n : Nat) : al_S := al_try S now (al_at S (n_ofMiddle 758 n a c)) (n_ofPairs 128 (n_pair m n) (n_pair b c))
def al_joins (np now m a b : Nat) (S : al_S) (c : Nat) : al_S := (List.range' 0 np).foldl (al_join now m a b c) S
def al_round (now o a b c sec : Nat) (S : al_S) (e : Nat) : al_S := al_try S now (max sec (min (al_at S (n_ofPairs 548 (n_pair o c) (n_pair o e))) (al_at S (n_ofPairs 548 (n_pair o a) (n_pair o e))))) (n_ofCircle a b c e)
def al_rounds (np now o a b : Nat) (S : al_S) (c : Nat) : al_S := if al_at S (n_ofPairs 548 (n_pair o b) (n_pair o c)) < 5 then (List.range' 0 np).foldl (al_round now o a b c (al_at S (n_ofPairs 548 (n_pair o b) (n_pair o c)))) S else S
section LE
variable {z : mm_S} {d : Nat} {I : mm_I} {J : mm_J} {np : Nat} {S : al_S} {Q : Option Value → mm_I → mm_J → Prop}
theorem w_join_in {m a b c now : Nat} (hm : m < 7) (ha : a < 7) (hb : b < 7) (hc : c < 7) (hnow : now ≤ 4) : ∀ (w r : Nat) (S : al_S) (I : mm_I) (ov : Option Value), r + w = np → rl_rep I np S → I 113 5 = nI now → (∀ I' o5 o6, rl_rep I' np ((List.range' r w).foldl (al_join now m a b c) S) → rl_fr I I' → mm_at z (mm_call z (d + 1)) (mm_code 49) Q 3 [some (.ref 113), some (.int (nI m)), some (.int (nI a)), some (.int (nI b)), some (.int (nI (c + 1))), o5, o6] [] I' J) →
    mm_at z (mm_call z (d + 1)) (mm_code 49) Q 15 [some (.ref 113), some (.int (nI m)), some (.int (nI a)), some (.int (nI b)), some (.int (nI c)), some (.int (nI r)), ov] [] I J := by
  have e3' : nI c + 1 = nI (c + 1) := (nI_succ c).symm
  intro w
  induction w with
  | zero =>
    intro r S I ov hr h hn k
    have hk := k I (some (.int (nI r))) ov h rl_fr_rf
    have e1 : (nI np ≤ nI r) = True := eq_true (nI_le (by omega) (by have := h.2.2.1; omega))
    rw [hk_49_15]
    simp only [bk_49, h.1, e1, e3', true_implies, not_true_eq_false, false_implies, mmE, mmE0, mmH, mT, mR, mRf, mAl, mAs, mAz, mAn, Int.reduceToNat, Int32.reduceOfInt, Int64.reduceOfInt, Int.reduceAdd, swE, Nat.reduceDiv, Nat.reduceMod, Nat.reduceAdd, Nat.reduceMul, Nat.reduceEqDiff, Nat.reduceLeDiff, Nat.zero_le, List.length_nil, List.length_cons, Nat.zero_add, true_or, or_true, false_or, or_false, true_and, and_true, and_self, mb_01, mb_t, mb_f]
    exact hk
  | succ w ih =>
    intro r S I ov hr h hn k
    have h7 := h.2.2.1
    have hr7 : r < 7 := by omega
    have hF1 : ∀ x, n_ofMiddle 758 r a c = some x → isF x = true := fun x e => isF_middle (Or.inl rfl) hr7 ha hc e
    have hF2 : ∀ x, n_ofPairs 128 (n_pair m r) (n_pair b c) = some x → isF x = true := fun x e => isF_pairs (Or.inl rfl) (p21 hm hr7) (p21 hb hc) e
    have f1 : fa_ofMiddle 758 (nI r) (nI a) (nI c) = eI (n_ofMiddle 758 r a c) := fa_ofMiddle_n (base := 758) (Or.inl rfl) hr7 ha hc
    have f2 : fa_ofPairs 128 (fa_pair (nI m) (nI r)) (fa_pair (nI b) (nI c)) = eI (n_ofPairs 128 (n_pair m r) (n_pair b c)) := by
      rw [fa_pair_n hm hr7, fa_pair_n hb hc]
      exact fa_ofPairs_n (base := 128) (Or.inl rfl) (p21 hm hr7) (p21 hb hc)
    have e1 : (nI np ≤ nI r) = False := eq_false (nI_ge (by omega) (by omega))
    have ho6 := al_at_le h (isF_lt' hF1)
    have e2 : ((5 : Int32) ≤ nI (al_at S (n_ofMiddle 758 r a c))) = (5 ≤ al_at S (n_ofMiddle 758 r a c)) := le_nI (a := 5) (by decide) (by omega)
    have e3 : nI r + 1 = nI (r + 1) := (nI_succ r).symm
    have hk2 : ∀ I1, rl_rep I1 np (al_join now m a b c S r) → rl_fr I I1 → ∀ ov2, mm_at z (mm_call z (d + 1)) (mm_code 49) Q 15 [some (.ref 113), some (.int (nI m)), some (.int (nI a)), some (.int (nI b)), some (.int (nI c)), some (.int (nI (r + 1))), ov2] [] I1 J := by
      intro I1 h1 fr1 ov2
      refine ih (r + 1) _ I1 ov2 (by omega) h1 (by rw [fr1.1]; exact hn) (fun I' o5 o6 h2 fr2 => k I' o5 o6 ?_ (rl_fr_tr fr1 fr2))
      rw [List.range'_succ]
      exact h2
    rw [hk_49_15]
    simp only [bk_49, h.1, e1, c_ofMiddle, c_ofPairs, c_pair, f1, f2, c_at h (isF_lt' hF1), e2, e3, true_implies, not_true_eq_false, false_implies, not_false_eq_true, mmE, mmE0, mmH, mT, mR, mRf, mAl, mAs, mAz, mAn, Int.reduceToNat, Int32.reduceOfInt, Int64.reduceOfInt, Int.reduceAdd, swE, Nat.reduceDiv, Nat.reduceMod, Nat.reduceAdd, Nat.reduceMul, Nat.reduceEqDiff, Nat.reduceLeDiff, Nat.zero_le, List.length_nil, List.length_cons, Nat.zero_add, true_or, or_true, false_or, or_false, true_and, and_true, and_self, mb_01, mb_t, mb_f]
    refine ⟨fun h5 => ?_, fun h5 => ?_⟩
    · refine hk2 I ?_ rl_fr_rf _
      unfold al_join
      rw [al_try_no (by omega)]
      exact h
    · refine w_off h hn hnow (by omega) hF2 (fun I1 h1 fr1 => ?_)
      simp only [bk_49, e3, mmE, mmE0, mmH, mT, mR, mRf, mAl, mAs, mAz, mAn, Int.reduceToNat, Int32.reduceOfInt, Int64.reduceOfInt, Int.reduceAdd, swE, Nat.reduceDiv, Nat.reduceMod, Nat.reduceAdd, Nat.reduceMul, Nat.reduceEqDiff, Nat.reduceLeDiff, Nat.zero_le, List.length_nil, List.length_cons, Nat.zero_add, true_or, or_true, false_or, or_false, true_and, and_true, and_self, mb_01, mb_t, mb_f]
      exact hk2 I1 h1 fr1 _
theorem w_join_out {m a b now : Nat} (hm : m < 7) (ha : a < 7) (hb : b < 7) (hnow : now ≤ 4) : ∀ (w r : Nat) (S : al_S) (I : mm_I) (o5 o6 : Option Value), r + w = np → rl_rep I np S → I 113 5 = nI now → (∀ I', rl_rep I' np ((List.range' r w).foldl (al_joins np now m a b) S) → rl_fr I I' → Q none I' J) →
    mm_at z (mm_call z (d + 1)) (mm_code 49) Q 3 [some (.ref 113), some (.int (nI m)), some (.int (nI a)), some (.int (nI b)), some (.int (nI r)), o5, o6] [] I J := by
  intro w
  induction w with
  | zero =>
    intro r S I o5 o6 hr h hn k
    have hk := k I h rl_fr_rf
    have e1 : (nI np ≤ nI r) = True := eq_true (nI_le (by omega) (by have := h.2.2.1; omega))
    rw [hk_49_3]
    simp only [bk_49, h.1, e1, true_implies, not_true_eq_false, false_implies, mmE, mmE0, mmH, mT, mR, mRf, mAl, mAs, mAz, mAn, Int.reduceToNat, Int32.reduceOfInt, Int64.reduceOfInt, Int.reduceAdd, swE, Nat.reduceDiv, Nat.reduceMod, Nat.reduceAdd, Nat.reduceMul, Nat.reduceEqDiff, Nat.reduceLeDiff, Nat.zero_le, List.length_nil, List.length_cons, Nat.zero_add, true_or, or_true, false_or, or_false, true_and, and_true, and_self, mb_01, mb_t, mb_f]
    exact hk
  | succ w ih =>
    intro r S I o5 o6 hr h hn k
    have h7 := h.2.2.1
    have hr7 : r < 7 := by omega
    have e1 : (nI np ≤ nI r) = False := eq_false (nI_ge (by omega) (by omega))
    rw [hk_49_3]
    have hin := w_join_in (z := z) (d := d) (J := J) (Q := Q) hm ha hb hr7 hnow np 0 S I o6 (by omega) h hn (fun I1 p5 p6 h1 fr1 => ih (r + 1) _ I1 p5 p6 (by omega) h1 (by rw [fr1.1]; exact hn) (fun I' h2 fr2 => k I' (by rw [List.range'_succ]; exact h2) (rl_fr_tr fr1 fr2)))
    simp only [bk_49, h.1, e1, true_implies, not_true_eq_false, false_implies, not_false_eq_true, mmE, mmE0, mmH, mT, mR, mRf, mAl, mAs, mAz, mAn, Int.reduceToNat, Int32.reduceOfInt, Int64.reduceOfInt, Int.reduceAdd, swE, Nat.reduceDiv, Nat.reduceMod, Nat.reduceAdd, Nat.reduceMul, Nat.reduceEqDiff, Nat.reduceLeDiff, Nat.zero_le, List.length_nil, List.length_cons, Nat.zero_add, true_or, or_true, false_or, or_false, true_and, and_true, and_self, mb_01, mb_t, mb_f]
    cases o5 with
    | none => exact hin
    | some v => cases v <;> exact hin
theorem w_join {m a b now : Nat} (hm : m < 7) (ha : a < 7) (hb : b < 7) (hnow : now ≤ 4) (h : rl_rep I np S) (hn : I 113 5 = nI now) (k : ∀ I', rl_rep I' np ((List.range' 0 np).foldl (al_joins np now m a b) S) → rl_fr I I' → Q none I' J) : mm_call z (d + 2) 49 [.ref 113, .int (nI m), .int (nI a), .int (nI b)] I J Q := by
  simp only [ce_49, bk_49, mmE, mmE0, mmH, mT, mR, mRf, mAl, mAs, mAz, mAn, Int.reduceToNat, Int32.reduceOfInt, Int64.reduceOfInt, Int.reduceAdd, swE, Nat.reduceDiv, Nat.reduceMod, Nat.reduceAdd, Nat.reduceMul, Nat.reduceEqDiff, Nat.reduceLeDiff, Nat.zero_le, List.length_nil, List.length_cons, Nat.zero_add, true_or, or_true, false_or, or_false, true_and, and_true, and_self, mb_01, mb_t, mb_f]
  exact w_join_out hm ha hb hnow _ 0 S I none none (by omega) h hn k
theorem w_round_in {o a b c sec now : Nat} (ho : o < 7) (ha : a < 7) (hb : b < 7) (hc : c < 7) (hsec : sec < 5) (hnow : now ≤ 4) : ∀ (w r : Nat) (S : al_S) (I : mm_I) (o7 o8 o9 : Option Value), r + w = np → rl_rep I np S → I 113 5 = nI now → (∀ I' o6 o7 o8 o9, rl_rep I' np ((List.range' r w).foldl (al_round now o a b c sec) S) → rl_fr I I' → mm_at z (mm_call z (d + 1)) (mm_code 47) Q 3 [some (.ref 113), some (.int (nI o)), some (.int (nI a)), some (.int (nI b)), some (.int (nI (c + 1))), some (.int (nI sec)), o6, o7, o8, o9] [] I' J) →
    mm_at z (mm_call z (d + 1)) (mm_code 47) Q 47 [some (.ref 113), some (.int (nI o)), some (.int (nI a)), some (.int (nI b)), some (.int (nI c)), some (.int (nI sec)), some (.int (nI r)), o7, o8, o9] [] I J := by
  have e3' : nI c + 1 = nI (c + 1) := (nI_succ c).symm
  intro w
  induction w with
  | zero =>
    intro r S I o7 o8 o9 hr h hn k
    have hk := k I (some (.int (nI r))) o7 o8 o9 h rl_fr_rf
    have e1 : (nI np ≤ nI r) = True := eq_true (nI_le (by omega) (by have := h.2.2.1; omega))
    rw [hk_47_47]
    simp only [bk_47, h.1, e1, e3', true_implies, not_true_eq_false, false_implies, mmE, mmE0, mmH, mT, mR, mRf, mAl, mAs, mAz, mAn, Int.reduceToNat, Int32.reduceOfInt, Int64.reduceOfInt, Int.reduceAdd, swE, Nat.reduceDiv, Nat.reduceMod, Nat.reduceAdd, Nat.reduceMul, Nat.reduceEqDiff, Nat.reduceLeDiff, Nat.zero_le, List.length_nil, List.length_cons, Nat.zero_add, true_or, or_true, false_or, or_false, true_and, and_true, and_self, mb_01, mb_t, mb_f]
    exact hk
  | succ w ih =>
    intro r S I o7 o8 o9 hr h hn k
    have h7 := h.2.2.1
    have hr7 : r < 7 := by omega
    have hF1 : ∀ x, n_ofPairs 548 (n_pair o c) (n_pair o r) = some x → isF x = true := fun x e => isF_pairs (Or.inr (Or.inr rfl)) (p21 ho hc) (p21 ho hr7) e
    have hF2 : ∀ x, n_ofPairs 548 (n_pair o a) (n_pair o r) = some x → isF x = true := fun x e => isF_pairs (Or.inr (Or.inr rfl)) (p21 ho ha) (p21 ho hr7) e
    have hF3 : ∀ x, n_ofCircle a b c r = some x → isF x = true := fun x e => isF_circle ha hb hc hr7 e
    have f1 : fa_ofPairs 548 (fa_pair (nI o) (nI c)) (fa_pair (nI o) (nI r)) = eI (n_ofPairs 548 (n_pair o c) (n_pair o r)) := by
      rw [fa_pair_n ho hc, fa_pair_n ho hr7]
      exact fa_ofPairs_n (base := 548) (Or.inr (Or.inr rfl)) (p21 ho hc) (p21 ho hr7)
    have f2 : fa_ofPairs 548 (fa_pair (nI o) (nI a)) (fa_pair (nI o) (nI r)) = eI (n_ofPairs 548 (n_pair o a) (n_pair o r)) := by
      rw [fa_pair_n ho ha, fa_pair_n ho hr7]
      exact fa_ofPairs_n (base := 548) (Or.inr (Or.inr rfl)) (p21 ho ha) (p21 ho hr7)
    have f3 : fa_ofCircle (nI a) (nI b) (nI c) (nI r) = eI (n_ofCircle a b c r) := fa_ofCircle_n ha hb hc hr7
    have e1 : (nI np ≤ nI r) = False := eq_false (nI_ge (by omega) (by omega))
    have hx6 := al_at_le h (isF_lt' hF1)
    have hy6 := al_at_le h (isF_lt' hF2)
    have hdef : al_round now o a b c sec S r = al_try S now (max sec (min (al_at S (n_ofPairs 548 (n_pair o c) (n_pair o r))) (al_at S (n_ofPairs 548 (n_pair o a) (n_pair o r))))) (n_ofCircle a b c r) := rfl
    have cat1 := fun QQ => c_at (z := z) (d := d) (J := J) h (isF_lt' hF1) QQ
    have cat2 := fun QQ => c_at (z := z) (d := d) (J := J) h (isF_lt' hF2) QQ
    generalize al_at S (n_ofPairs 548 (n_pair o c) (n_pair o r)) = x at hx6 hdef cat1
    generalize al_at S (n_ofPairs 548 (n_pair o a) (n_pair o r)) = y at hy6 hdef cat2
    have e2 : (nI y ≤ nI x) = (y ≤ x) := le_nI (by omega) (by omega)
    have e4 : ((5 : Int32) ≤ nI x) = (5 ≤ x) := le_nI (a := 5) (by decide) (by omega)
    have e5 : ((5 : Int32) ≤ nI y) = (5 ≤ y) := le_nI (a := 5) (by decide) (by omega)
    have e6 : (nI x ≤ nI sec) = (x ≤ sec) := le_nI (by omega) (by omega)
    have e7 : (nI y ≤ nI sec) = (y ≤ sec) := le_nI (by omega) (by omega)
    have e3 : nI r + 1 = nI (r + 1) := (nI_succ r).symm
    have hk2 : ∀ I1, rl_rep I1 np (al_round now o a b c sec S r) → rl_fr I I1 → ∀ o7 o8 o9, mm_at z (mm_call z (d + 1)) (mm_code 47) Q 47 [some (.ref 113), some (.int (nI o)), some (.int (nI a)), some (.int (nI b)), some (.int (nI c)), some (.int (nI sec)), some (.int (nI (r + 1))), o7, o8, o9] [] I1 J := by
      intro I1 h1 fr1 o7 o8 o9
      refine ih (r + 1) _ I1 o7 o8 o9 (by omega) h1 (by rw [fr1.1]; exact hn) (fun I' p6 p7 p8 p9 h2 fr2 => k I' p6 p7 p8 p9 ?_ (rl_fr_tr fr1 fr2))
      rw [List.range'_succ]
      exact h2
    have fin : ∀ (t : Nat), max sec (min x y) = t → t < 5 → ∀ o7 o8 o9 : Option Value, mm_call z (d + 1) 37 [.ref 113, .int (eI (n_ofCircle a b c r)), .int (nI t)] I J (fun v I' J' => mm_at z (mm_call z (d + 1)) (mm_code 47) Q 47 [some (.ref 113), some (.int (nI o)), some (.int (nI a)), some (.int (nI b)), some (.int (nI c)), some (.int (nI sec)), some (.int (nI (r + 1))), o7, o8, o9] (v.toList ++ []) I' J') := by
      intro t ht h5 o7 o8 o9
      refine w_off h hn hnow h5 hF3 (fun I1 h1 fr1 => ?_)
      refine hk2 I1 ?_ fr1 _ _ _
      rw [hdef, ht]
      exact h1
    rw [hk_47_47]
    simp only [bk_47, h.1, e1, c_ofPairs, c_pair, c_ofCircle, f1, f2, f3, cat1, cat2, e2, e3, e4, e5, e6, e7, true_implies, not_true_eq_false, false_implies, not_false_eq_true, mmE, mmE0, mmH, mT, mR, mRf, mAl, mAs, mAz, mAn, Int.reduceToNat, Int32.reduceOfInt, Int64.reduceOfInt, Int.reduceAdd, swE, Nat.reduceDiv, Nat.reduceMod, Nat.reduceAdd, Nat.reduceMul, Nat.reduceEqDiff, Nat.reduceLeDiff, Nat.zero_le, List.length_nil, List.length_cons, Nat.zero_add, true_or, or_true, false_or, or_false, true_and, and_true, and_self, mb_01, mb_t, mb_f]
    refine ⟨fun q => ⟨fun q5 => hk2 I ?_ rl_fr_rf _ _ _, fun q5 => ⟨fun q6 => fin sec (by omega) hsec _ _ _, fun q6 => fin y (by omega) (by omega) _ _ _⟩⟩, fun q => ⟨fun q5 => hk2 I ?_ rl_fr_rf _ _ _, fun q5 => ⟨fun q6 => fin sec (by omega) hsec _ _ _, fun q6 => fin x (by omega) (by omega) _ _ _⟩⟩⟩
    · rw [hdef, al_try_no (by omega)]
      exact h
    · rw [hdef, al_try_no (by omega)]
      exact h
theorem w_round_out {o a b now : Nat} (ho : o < 7) (ha : a < 7) (hb : b < 7) (hnow : now ≤ 4) : ∀ (w r : Nat) (S : al_S) (I : mm_I) (o5 o6 o7 o8 o9 : Option Value), r + w = np → rl_rep I np S → I 113 5 = nI now → (∀ I', rl_rep I' np ((List.range' r w).foldl (al_rounds np now o a b) S) → rl_fr I I' → Q none I' J) →
    mm_at z (mm_call z (d + 1)) (mm_code 47) Q 3 [some (.ref 113), some (.int (nI o)), some (.int (nI a)), some (.int (nI b)), some (.int (nI r)), o5, o6, o7, o8, o9] [] I J := by
  intro w
  induction w with
  | zero =>
    intro r S I o5 o6 o7 o8 o9 hr h hn k
    have hk := k I h rl_fr_rf
    have e1 : (nI np ≤ nI r) = True := eq_true (nI_le (by omega) (by have := h.2.2.1; omega))
    rw [hk_47_3]
    simp only [bk_47, h.1, e1, true_implies, not_true_eq_false, false_implies, mmE, mmE0, mmH, mT, mR, mRf, mAl, mAs, mAz, mAn, Int.reduceToNat, Int32.reduceOfInt, Int64.reduceOfInt, Int.reduceAdd, swE, Nat.reduceDiv, Nat.reduceMod, Nat.reduceAdd, Nat.reduceMul, Nat.reduceEqDiff, Nat.reduceLeDiff, Nat.zero_le, List.length_nil, List.length_cons, Nat.zero_add, true_or, or_true, false_or, or_false, true_and, and_true, and_self, mb_01, mb_t, mb_f]
    exact hk
  | succ w ih =>
    intro r S I o5 o6 o7 o8 o9 hr h hn k
    have h7 := h.2.2.1
    have hr7 : r < 7 := by omega
    have hF1 : ∀ x, n_ofPairs 548 (n_pair o b) (n_pair o r) = some x → isF x = true := fun x e => isF_pairs (Or.inr (Or.inr rfl)) (p21 ho hb) (p21 ho hr7) e
    have f1 : fa_ofPairs 548 (fa_pair (nI o) (nI b)) (fa_pair (nI o) (nI r)) = eI (n_ofPairs 548 (n_pair o b) (n_pair o r)) := by
      rw [fa_pair_n ho hb, fa_pair_n ho hr7]
      exact fa_ofPairs_n (base := 548) (Or.inr (Or.inr rfl)) (p21 ho hb) (p21 ho hr7)
    have e1 : (nI np ≤ nI r) = False := eq_false (nI_ge (by omega) (by omega))
    have hx6 := al_at_le h (isF_lt' hF1)
    have e2 : (nI (al_at S (n_ofPairs 548 (n_pair o b) (n_pair o r))) < (5 : Int32)) = (al_at S (n_ofPairs 548 (n_pair o b) (n_pair o r)) < 5) := lt_nI (b := 5) (by omega) (by decide)
    have e3 : nI r + 1 = nI (r + 1) := (nI_succ r).symm
    rw [hk_47_3]
    simp only [bk_47, h.1, e1, c_ofPairs, c_pair, f1, c_at h (isF_lt' hF1), e2, e3, true_implies, not_true_eq_false, false_implies, not_false_eq_true, mmE, mmE0, mmH, mT, mR, mRf, mAl, mAs, mAz, mAn, Int.reduceToNat, Int32.reduceOfInt, Int64.reduceOfInt, Int.reduceAdd, swE, Nat.reduceDiv, Nat.reduceMod, Nat.reduceAdd, Nat.reduceMul, Nat.reduceEqDiff, Nat.reduceLeDiff, Nat.zero_le, List.length_nil, List.length_cons, Nat.zero_add, true_or, or_true, false_or, or_false, true_and, and_true, and_self, mb_01, mb_t, mb_f]
    refine ⟨fun h5 => ?_, fun h5 => ?_⟩
    · refine w_round_in ho ha hb hr7 h5 hnow np 0 S I _ _ _ (by omega) h hn (fun I1 p6 p7 p8 p9 h1 fr1 => ih (r + 1) (al_rounds np now o a b S r) I1 _ _ _ _ _ (by omega) ?_ (by rw [fr1.1]; exact hn) (fun I' h2 fr2 => k I' (by rw [List.range'_succ]; exact h2) (rl_fr_tr fr1 fr2)))
      unfold al_rounds
      rw [if_pos h5]
      exact h1
    · refine ih (r + 1) (al_rounds np now o a b S r) I _ _ _ _ _ (by omega) ?_ hn (fun I' h2 fr2 => k I' (by rw [List.range'_succ]; exact h2) fr2)
      unfold al_rounds
      rw [if_neg h5]
      exact h
theorem w_round {o a b now : Nat} (ho : o < 7) (ha : a < 7) (hb : b < 7) (hnow : now ≤ 4) (h : rl_rep I np S) (hn : I 113 5 = nI now) (k : ∀ I', rl_rep I' np ((List.range' 0 np).foldl (al_rounds np now o a b) S) → rl_fr I I' → Q none I' J) : mm_call z (d + 2) 47 [.ref 113, .int (nI o), .int (nI a), .int (nI b)] I J Q := by
  simp only [ce_47, bk_47, mmE, mmE0, mmH, mT, mR, mRf, mAl, mAs, mAz, mAn, Int.reduceToNat, Int32.reduceOfInt, Int64.reduceOfInt, Int.reduceAdd, swE, Nat.reduceDiv, Nat.reduceMod, Nat.reduceAdd, Nat.reduceMul, Nat.reduceEqDiff, Nat.reduceLeDiff, Nat.zero_le, List.length_nil, List.length_cons, Nat.zero_add, true_or, or_true, false_or, or_false, true_and, and_true, and_self, mb_01, mb_t, mb_f]
  exact w_round_out ho ha hb hnow _ 0 S I none none none none none (by omega) h hn k
end LE
