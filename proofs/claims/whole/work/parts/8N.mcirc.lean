/-! the reference's circle -/
section ME
variable {z : mm_S} {d : Nat} {J : mm_J} {s : st_T} {G : Nat → gr_T} {Q : Option Value → mm_I → mm_J → Prop}
theorem find_snocL {p : Nat → Bool} {l : List Nat} {o : Nat} : (l ++ [o]).find? p = match l.find? p with
  | some i => some i
  | none => if p o = true then some o else none := by
  rw [List.find?_append]
  cases l.find? p with
  | some i => rfl
  | none =>
    show List.find? p [o] = _
    rw [List.find?_cons, List.find?_nil]
    cases p o <;> rfl
theorem w_left_loop {I : mm_I} {r : Nat} (h1 : 1 ≤ r) (h2 : r ≤ sNr s) (hv : va s) (h : shM I s) (hG : gMs I (sNr s) G) : ∀ (w : Nat) (cur : Int32) (o4 : Option Value), w ≤ (osS s r).length → Q (some (.int (gsel (((osS s r).take w).find? fun o => decide (o ≤ sNr s) && gw G o) cur))) I J → mm_at z (mm_call z d) (mm_code 186) Q 11 [some (.ref 127), some (.int (nI r)), some (.int cur), some (.int (nI w - 1)), o4] [] I J
  | 0, cur, o4, hw, k => by
    rw [hk_186_11]
    simp only [bk_186.2.2.2, mmE, mmE0, mmH, mT, mR, mRf, mAl, mAs, mAz, mAn, Int.reduceToNat, Int32.reduceOfInt, Int64.reduceOfInt, Int.reduceAdd, swE, Nat.reduceDiv, Nat.reduceMod, Nat.reduceAdd, Nat.reduceMul, Nat.reduceEqDiff, Nat.reduceLeDiff, Nat.zero_le, List.length_nil, List.length_cons, Nat.zero_add, true_or, or_true, false_or, or_false, true_and, and_true, and_self, mb_01, mb_t, mb_f, pd0, true_implies, not_true_eq_false, not_false_eq_true, false_implies, and_true, true_and]
    exact k
  | w + 1, cur, o4, hw, k => by
    have v3 := hv.1.2.2.1
    obtain ⟨_, _, _, _, _, r6, r7⟩ := h.2.2.1 r h1 h2
    obtain ⟨_, _, _, hl6, ho⟩ := hv.2.2.2.1 r h1 h2
    have eL : (osS s r).length = (sR s r).2.2.2.length := rfl
    have hd : (osS s r).drop w = (osS s r)[w] :: (osS s r).drop (w + 1) := List.drop_eq_getElem_cons (by omega)
    obtain ⟨il, eo, mo, _, tk⟩ := osD hd
    generalize (osS s r)[w] = o at eo mo tk
    obtain ⟨o1, o2⟩ := ho o mo
    have rO := r7 w (by omega)
    rw [eo] at rO
    rw [hk_186_11]
    have c2 : (nI (sNr s) < nI o) = (sNr s < o) := lt_nI (by omega) (by omega)
    rw [tk, find_snocL] at k
    simp only [bk_186.2.1, bk_186.2.2.1, mmE, mmE0, mmH, mT, mR, mRf, mAl, mAs, mAz, mAn, Int.reduceToNat, Int32.reduceOfInt, Int64.reduceOfInt, Int.reduceAdd, swE, Nat.reduceDiv, Nat.reduceMod, Nat.reduceAdd, Nat.reduceMul, Nat.reduceEqDiff, Nat.reduceLeDiff, Nat.zero_le, List.length_nil, List.length_cons, Nat.zero_add, true_or, or_true, false_or, or_false, true_and, and_true, and_self, mb_01, mb_t, mb_f, pd1, nneg (show w < 2 ^ 31 by omega), i6, ix246 (show 6 * r + w < 246 by omega), rO, h.1.2.2, c2, pdm, true_implies, not_true_eq_false, not_false_eq_true, false_implies, and_true, true_and]
    have key := fun cur' o4 => w_left_loop h1 h2 hv h hG w cur' o4 (by omega)
    have go : ∀ v : Int32, v = (if (decide (o ≤ sNr s) && gw G o) = true then nI o else cur) → mm_at z (mm_call z d) (mm_code 186) Q 11 [some (.ref 127), some (.int (nI r)), some (.int v), some (.int (nI w - 1)), some (.int (nI o))] [] I J := by
      intro v hvv
      refine key v _ ?_
      cases e : ((osS s r).take w).find? fun o => decide (o ≤ sNr s) && gw G o with
      | some i => rw [e] at k; exact k
      | none =>
        rw [e] at k
        show Q (some (.int v)) I J
        rw [hvv]
        by_cases q : (decide (o ≤ sNr s) && gw G o) = true
        · rw [if_pos q]; dsimp only at k; rw [if_pos q] at k; exact k
        · rw [if_neg q]; dsimp only at k; rw [if_neg q] at k; exact k
    by_cases q : sNr s < o
    · simp only [eq_true q, true_implies, not_true_eq_false, not_false_eq_true, false_implies, and_true, true_and]
      exact go cur (by rw [decide_eq_false (show ¬ o ≤ sNr s by omega), Bool.false_and, if_neg (by decide)])
    · obtain ⟨⟨g1, _⟩, g2, _⟩ := hG o o1 (by omega)
      simp only [q, true_implies, not_true_eq_false, not_false_eq_true, false_implies, and_true, true_and, ix41 (show o < 41 by omega), g1, n0E (show (G o).1 < 2 ^ 31 by omega)]
      by_cases q0 : (G o).1 = 0
      · simp only [eq_true q0, true_implies, not_true_eq_false, not_false_eq_true, false_implies, and_true, true_and]
        refine go (nI o) ?_
        rw [if_pos]
        rw [decide_eq_true (show o ≤ sNr s by omega), Bool.true_and]
        exact beq_iff_eq.mpr q0
      · simp only [q0, true_implies, not_true_eq_false, not_false_eq_true, false_implies, and_true, true_and]
        refine go cur ?_
        rw [if_neg]
        rw [decide_eq_true (show o ≤ sNr s by omega), Bool.true_and]
        exact fun w => q0 (beq_iff_eq.mp w)
theorem c_left {I : mm_I} {r : Nat} (h1 : 1 ≤ r) (h2 : r ≤ sNr s) (hv : va s) (h : shM I s) (hG : gMs I (sNr s) G) (hn : gnx (sNr s) (osS s) G = none) (hw : gw G r = true) (Q : Option Value → mm_I → mm_J → Prop) : mm_call z (d + 1) 186 [.ref 127, .int (nI r)] I J Q = Q (some (.int (nI (nxc s G r)))) I J := by
  refine mm_ev ?_ Q
  have v3 := hv.1.2.2.1
  obtain ⟨_, _, _, _, _, r6, _⟩ := h.2.2.1 r h1 h2
  simp only [ce_186, bk_186.1, mmE, mmE0, mmH, mT, mR, mRf, mAl, mAs, mAz, mAn, Int.reduceToNat, Int32.reduceOfInt, Int64.reduceOfInt, Int.reduceAdd, swE, Nat.reduceDiv, Nat.reduceMod, Nat.reduceAdd, Nat.reduceMul, Nat.reduceEqDiff, Nat.reduceLeDiff, Nat.zero_le, List.length_nil, List.length_cons, Nat.zero_add, true_or, or_true, false_or, or_false, true_and, and_true, and_self, mb_01, mb_t, mb_f, ix41 (show r < 41 by omega), r6, true_implies, not_true_eq_false, not_false_eq_true, false_implies, and_true, true_and]
  refine w_left_loop (z := z) (d := d) h1 h2 hv h hG (osS s r).length 0 _ (Nat.le_refl _) ⟨?_, rfl, rfl⟩
  rw [List.take_length, (nxc_ok hv hn h1 h2 hw).2.2.2]
  rfl
theorem w_r0_loop {I : mm_I} (hv : va s) (h : shM I s) (hG : gMs I (sNr s) G) : ∀ (w : Nat) (cur : Int32) (o3 : Option Value), w ≤ sNr s → (∀ o2, mm_at z (mm_call z d) (mm_code 185) Q 37 [some (.ref 127), some (.int (gsel ((List.range' 1 w).find? (gw G)) cur)), o2, o3] [] I J) → mm_at z (mm_call z d) (mm_code 185) Q 12 [some (.ref 127), some (.int cur), some (.int (nI w)), o3] [] I J
  | 0, cur, o3, hw, K => by
    rw [hk_185_12]
    have c1 : (nI 0 ≤ 0) = True := by decide
    simp only [mmE, mmE0, mmH, mT, mR, mRf, mAl, mAs, mAz, mAn, Int.reduceToNat, Int32.reduceOfInt, Int64.reduceOfInt, Int.reduceAdd, swE, Nat.reduceDiv, Nat.reduceMod, Nat.reduceAdd, Nat.reduceMul, Nat.reduceEqDiff, Nat.reduceLeDiff, Nat.zero_le, List.length_nil, List.length_cons, Nat.zero_add, true_or, or_true, false_or, or_false, true_and, and_true, and_self, mb_01, mb_t, mb_f, c1, true_implies, not_true_eq_false, not_false_eq_true, false_implies, and_true, true_and]
    exact K _
  | w + 1, cur, o3, hw, K => by
    have v3 := hv.1.2.2.1
    rw [hk_185_12]
    have c1 : (nI (w + 1) ≤ 0) = False := by rw [show (0 : Int32) = nI 0 from rfl, le_nI (by omega) (by omega)]; exact eq_false (by omega)
    have e1 : nI (w + 1) + -1 = nI w := by rw [pdm, pd1]
    obtain ⟨⟨g1, _⟩, g2, _⟩ := hG (w + 1) (by omega) hw
    simp only [bk_185.2.1, bk_185.2.2.1, mmE, mmE0, mmH, mT, mR, mRf, mAl, mAs, mAz, mAn, Int.reduceToNat, Int32.reduceOfInt, Int64.reduceOfInt, Int.reduceAdd, swE, Nat.reduceDiv, Nat.reduceMod, Nat.reduceAdd, Nat.reduceMul, Nat.reduceEqDiff, Nat.reduceLeDiff, Nat.zero_le, List.length_nil, List.length_cons, Nat.zero_add, true_or, or_true, false_or, or_false, true_and, and_true, and_self, mb_01, mb_t, mb_f, c1, ix41 (show w + 1 < 41 by omega), g1, n0E (show (G (w + 1)).1 < 2 ^ 31 by omega), e1, true_implies, not_true_eq_false, not_false_eq_true, false_implies, and_true, true_and]
    have eF := find_snoc1 (p := gw G) (w := w)
    by_cases q0 : (G (w + 1)).1 = 0
    · rw [if_pos (show gw G (w + 1) = true from beq_iff_eq.mpr q0)] at eF
      simp only [eq_true q0, true_implies, not_true_eq_false, not_false_eq_true, false_implies, and_true, true_and]
      refine w_r0_loop hv h hG w (nI (w + 1)) o3 (by omega) (fun o2 => ?_)
      have := K o2
      rw [eF] at this
      cases e2 : (List.range' 1 w).find? (gw G) with
      | none => rw [e2] at this; exact this
      | some i => rw [e2] at this; exact this
    · rw [if_neg (show ¬ gw G (w + 1) = true from fun w => q0 (beq_iff_eq.mp w))] at eF
      simp only [q0, true_implies, not_true_eq_false, not_false_eq_true, false_implies, and_true, true_and]
      refine w_r0_loop hv h hG w cur o3 (by omega) (fun o2 => ?_)
      have := K o2
      rw [eF] at this
      cases e2 : (List.range' 1 w).find? (gw G) with
      | none => rw [e2] at this; exact this
      | some i => rw [e2] at this; exact this
theorem w_scan_loop {I : mm_I} {x : Nat → Nat} {a l : Nat} (hl : l ≤ 40) (hx : ∀ i, x i ≤ 40) (ha : a ≤ 40) (hd : ∀ i j, i < j → j < l → x i ≠ x j) (hc : ∀ i, i < l → I 155 i = nI (x i)) (hm : I 127 44 = nI l) : ∀ (w k : Nat) (cur : Int32), k + w = l → (∀ o3, mm_at z (mm_call z d) (mm_code 185) Q 107 [some (.ref 127), some (.int (nI a)), some (.int (gsel ((List.range' k w).find? fun i => x i == a) cur)), o3] [] I J) → mm_at z (mm_call z d) (mm_code 185) Q 77 [some (.ref 127), some (.int (nI a)), some (.int cur), some (.int (nI k))] [] I J
  | 0, k, cur, hk, K => by
    rw [hk_185_77]
    have c1 : (nI l ≤ nI k) = True := by rw [le_nI (by omega) (by omega)]; exact eq_true (by omega)
    simp only [mmE, mmE0, mmH, mT, mR, mRf, mAl, mAs, mAz, mAn, Int.reduceToNat, Int32.reduceOfInt, Int64.reduceOfInt, Int.reduceAdd, swE, Nat.reduceDiv, Nat.reduceMod, Nat.reduceAdd, Nat.reduceMul, Nat.reduceEqDiff, Nat.reduceLeDiff, Nat.zero_le, List.length_nil, List.length_cons, Nat.zero_add, true_or, or_true, false_or, or_false, true_and, and_true, and_self, mb_01, mb_t, mb_f, hm, c1, true_implies, not_true_eq_false, not_false_eq_true, false_implies, and_true, true_and]
    exact K _
  | w + 1, k, cur, hk, K => by
    rw [hk_185_77]
    have c1 : (nI l ≤ nI k) = False := by rw [le_nI (by omega) (by omega)]; exact eq_false (by omega)
    have e1 : (nI (x k) = nI a) = (x k = a) := eq_nI (by have := hx k; omega) (by omega)
    rw [List.range'_succ, List.find?_cons] at K
    simp only [bk_185.2.2.2.2.2.1, bk_185.2.2.2.2.2.2.1, mmE, mmE0, mmH, mT, mR, mRf, mAl, mAs, mAz, mAn, Int.reduceToNat, Int32.reduceOfInt, Int64.reduceOfInt, Int.reduceAdd, swE, Nat.reduceDiv, Nat.reduceMod, Nat.reduceAdd, Nat.reduceMul, Nat.reduceEqDiff, Nat.reduceLeDiff, Nat.zero_le, List.length_nil, List.length_cons, Nat.zero_add, true_or, or_true, false_or, or_false, true_and, and_true, and_self, mb_01, mb_t, mb_f, hm, c1, ix41 (show k < 41 by omega), hc k (by omega), e1, true_implies, not_true_eq_false, not_false_eq_true, false_implies, and_true, true_and]
    rw [← nI_succ]
    by_cases q : x k = a
    · rw [show (x k == a) = true from beq_iff_eq.mpr q] at K
      simp only [eq_true q, true_implies, not_true_eq_false, not_false_eq_true, false_implies, and_true, true_and]
      refine w_scan_loop hl hx ha hd hc hm w (k + 1) (nI k) (by omega) (fun o3 => ?_)
      have no : (List.range' (k + 1) w).find? (fun i => x i == a) = none := by
        rw [List.find?_eq_none]
        intro j hj e
        rw [List.mem_range'_1] at hj
        exact hd k j (by omega) (by omega) (q.trans (beq_iff_eq.mp e).symm)
      rw [no]
      exact K o3
    · rw [show (x k == a) = false from beq_eq_false_iff_ne.mpr q] at K
      simp only [q, true_implies, not_true_eq_false, not_false_eq_true, false_implies, and_true, true_and]
      exact w_scan_loop hl hx ha hd hc hm w (k + 1) cur (by omega) K
/-- what the circle's search changes -/
def fC (I I' : mm_I) : Prop := (∀ k, k ≠ 127 → k ≠ 155 → I' k = I k) ∧ ∀ j, j ≠ 44 → I' 127 j = I 127 j
theorem fC_tr {I I' I'' : mm_I} (h : fC I I') (h' : fC I' I'') : fC I I'' := ⟨fun k a b => (h'.1 k a b).trans (h.1 k a b), fun j a => (h'.2 j a).trans (h.2 j a)⟩
theorem fN_C {I I' : mm_I} (h : fC I I') : fN I I' := ⟨fun k a _ _ e => h.1 k a (by omega), fun j _ _ c _ => h.2 j c⟩
theorem gMs_C {I I' : mm_I} {nr : Nat} (h : gMs I nr G) (g : fC I I') : gMs I' nr G := by
  intro r a b
  refine ⟨?_, (h r a b).2⟩
  unfold gM
  rw [g.1 _ (by decide) (by decide), g.1 _ (by decide) (by decide), g.1 _ (by decide) (by decide), g.1 _ (by decide) (by decide), g.1 _ (by decide) (by decide)]
  exact (h r a b).1
theorem w_mpath {x : Nat → Nat} {U e : Nat} (hx : ∀ i, 1 ≤ x i ∧ x i ≤ sNr s ∧ gw G (x i) = true) (hnx : ∀ i, x (i + 1) = nxc s G (x i)) (hc : cy x U e) (hU : U ≤ 40) (hv : va s) (hn : gnx (sNr s) (osS s) G = none) : ∀ (w l : Nat) (I : mm_I) (o3 : Option Value), l + (w + 1) = U → shM I s → gMs I (sNr s) G → (∀ i, i < l → I 155 i = nI (x i)) → I 127 44 = nI l → (∀ I' o3, fC I I' → (∀ i, i < U → I' 155 i = nI (x i)) → I' 127 44 = nI U → mm_at z (mm_call z (d + 1)) (mm_code 185) Q 110 [some (.ref 127), some (.int (nI (x U))), some (.int (nI e)), o3] [] I' J) → mm_at z (mm_call z (d + 1)) (mm_code 185) Q 45 [some (.ref 127), some (.int (nI (x l))), some (.int (-5)), o3] [] I J
  | w, l, I, o3, hl, h, hG, hci, hm, K => by
    have v3 := hv.1.2.2.1
    have hx40 : ∀ i, x i ≤ 40 := fun i => by have := hx i; omega
    have he := hc.1
    rw [hk_185_45]
    have c1 : (0 ≤ (-5 : Int32)) = False := by decide
    have mm : mm_wI I 155 l (nI (x l)) 127 44 = nI l := by rw [mWI, if_neg (by decide)]; exact hm
    simp only [mmE, mmE0, mmH, mT, mR, mRf, mAl, mAs, mAz, mAn, Int.reduceToNat, Int32.reduceOfInt, Int64.reduceOfInt, Int.reduceAdd, swE, Nat.reduceDiv, Nat.reduceMod, Nat.reduceAdd, Nat.reduceMul, Nat.reduceEqDiff, Nat.reduceLeDiff, Nat.zero_le, List.length_nil, List.length_cons, Nat.zero_add, true_or, or_true, false_or, or_false, true_and, and_true, and_self, mb_01, mb_t, mb_f, c1, hm, mm, ix41 (show l < 41 by omega), true_implies, not_true_eq_false, not_false_eq_true, false_implies, and_true, true_and]
    rw [← nI_succ]
    have f1 : fC I (mm_wI (mm_wI I 155 l (nI (x l))) 127 44 (nI (l + 1))) := ⟨fun k a b => by funext t; rw [mWI, if_neg a, mWI, if_neg b], fun j a => by rw [mWI, if_pos rfl, if_neg a, mWI, if_neg (by decide)]⟩
    have h1 := shM_N h (fN_C f1)
    have hG1 := gMs_C hG f1
    have hci1 : ∀ i, i < l + 1 → mm_wI (mm_wI I 155 l (nI (x l))) 127 44 (nI (l + 1)) 155 i = nI (x i) := by
      intro i hi
      rw [mWI, if_neg (by decide), mWI, if_pos rfl]
      by_cases q : i = l
      · rw [if_pos q, q]
      · rw [if_neg q]; exact hci i (by omega)
    have hm1 : mm_wI (mm_wI I 155 l (nI (x l))) 127 44 (nI (l + 1)) 127 44 = nI (l + 1) := by rw [mWI, if_pos rfl, if_pos rfl]
    simp only [c_left (hx l).1 (hx l).2.1 hv h1 hG1 hn (hx l).2.2, mmE, mmE0, mmH, mT, mR, mRf, mAl, mAs, mAz, mAn, Int.reduceToNat, Int32.reduceOfInt, Int64.reduceOfInt, Int.reduceAdd, swE, Nat.reduceDiv, Nat.reduceMod, Nat.reduceAdd, Nat.reduceMul, Nat.reduceEqDiff, Nat.reduceLeDiff, Nat.zero_le, List.length_nil, List.length_cons, Nat.zero_add, true_or, or_true, false_or, or_false, true_and, and_true, and_self, mb_01, mb_t, mb_f, Option.toList_some, Option.toList_none, List.cons_append, List.nil_append]
    rw [← hnx l]
    refine w_scan_loop (z := z) (d := d + 1) (x := x) (a := x (l + 1)) (l := l + 1) (by omega) hx40 (hx40 _) (fun i j a b => hc.2.2 i j a (by omega)) hci1 hm1 (l + 1) 0 (-5) (by omega) (fun o3 => ?_)
    simp only [bk_185.2.2.2.2.2.2.2.1, mmE, mmE0, mmH, mT, mR, mRf, mAl, mAs, mAz, mAn, Int.reduceToNat, Int32.reduceOfInt, Int64.reduceOfInt, Int.reduceAdd, swE, Nat.reduceDiv, Nat.reduceMod, Nat.reduceAdd, Nat.reduceMul, Nat.reduceEqDiff, Nat.reduceLeDiff, Nat.zero_le, List.length_nil, List.length_cons, Nat.zero_add, true_or, or_true, false_or, or_false, true_and, and_true, and_self, mb_01, mb_t, mb_f]
    cases w with
    | zero =>
      have eU : l + 1 = U := by omega
      have fe : (List.range' 0 (l + 1)).find? (fun i => x i == x (l + 1)) = some e := by
        rw [eU]
        refine find_is (p := fun i => x i == x U) he (beq_iff_eq.mpr hc.2.1) (fun b hb => ?_)
        show (x b == x U) = false
        rw [beq_eq_false_iff_ne]
        intro q
        exact hc.2.2 b e hb he (q.trans hc.2.1.symm)
      rw [fe, eU]
      rw [hk_185_45]
      have c2 : (0 ≤ nI e) = True := by rw [show (0 : Int32) = nI 0 from rfl, le_nI (by omega) (by omega)]; exact eq_true (by omega)
      simp only [gsel, mmE, mmE0, mmH, mT, mR, mRf, mAl, mAs, mAz, mAn, Int.reduceToNat, Int32.reduceOfInt, Int64.reduceOfInt, Int.reduceAdd, swE, Nat.reduceDiv, Nat.reduceMod, Nat.reduceAdd, Nat.reduceMul, Nat.reduceEqDiff, Nat.reduceLeDiff, Nat.zero_le, List.length_nil, List.length_cons, Nat.zero_add, true_or, or_true, false_or, or_false, true_and, and_true, and_self, mb_01, mb_t, mb_f, c2, true_implies, not_true_eq_false, not_false_eq_true, false_implies, and_true, true_and]
      rw [eU] at f1 hci1 hm1
      exact K _ _ f1 hci1 hm1
    | succ w =>
      have fe : (List.range' 0 (l + 1)).find? (fun i => x i == x (l + 1)) = none := by
        rw [List.find?_eq_none]
        intro b hb q
        rw [List.mem_range'_1] at hb
        exact hc.2.2 b (l + 1) (by omega) (by omega) (beq_iff_eq.mp q)
      rw [fe]
      exact w_mpath hx hnx hc hU hv hn w (l + 1) _ o3 (by omega) h1 hG1 hci1 hm1 (fun I' o3 k1 k2 k3 => K I' o3 (fC_tr f1 k1) k2 k3)
theorem w_shift {x : Nat → Nat} {U e : Nat} (he : e < U) (hU : U ≤ 40) {a : Int32} : ∀ (w k : Nat) (I : mm_I), k + w = U → e ≤ k → I 127 44 = nI U → (∀ j, j < k - e → I 155 j = nI (x (e + j))) → (∀ j, k - e ≤ j → j < U → I 155 j = nI (x j)) → (∀ I', fC I I' → I' 127 44 = nI (U - e) → (∀ j, j < U - e → I' 155 j = nI (x (e + j))) → Q none I' J) → mm_at z (mm_call z d) (mm_code 185) Q 112 [some (.ref 127), some (.int a), some (.int (nI e)), some (.int (nI k))] [] I J
  | 0, k, I, hk, hek, hm, h1, h2, K => by
    rw [hk_185_112]
    have c1 : (nI U ≤ nI k) = True := by rw [le_nI (by omega) (by omega)]; exact eq_true (by omega)
    have es : nI U - nI e = nI (U - e) := nI_sub (by omega)
    simp only [bk_185.2.2.2.2.2.2.2.2.2, mmE, mmE0, mmH, mT, mR, mRf, mAl, mAs, mAz, mAn, Int.reduceToNat, Int32.reduceOfInt, Int64.reduceOfInt, Int.reduceAdd, swE, Nat.reduceDiv, Nat.reduceMod, Nat.reduceAdd, Nat.reduceMul, Nat.reduceEqDiff, Nat.reduceLeDiff, Nat.zero_le, List.length_nil, List.length_cons, Nat.zero_add, true_or, or_true, false_or, or_false, true_and, and_true, and_self, mb_01, mb_t, mb_f, hm, c1, es, true_implies, not_true_eq_false, not_false_eq_true, false_implies, and_true, true_and]
    refine K _ ⟨fun c a b => by funext t; rw [mWI, if_neg a], fun j hj => by rw [mWI, if_pos rfl, if_neg hj]⟩ (by rw [mWI, if_pos rfl, if_pos rfl]) (fun j hj => ?_)
    rw [mWI, if_neg (by decide)]
    exact h1 j (by omega)
  | w + 1, k, I, hk, hek, hm, h1, h2, K => by
    rw [hk_185_112]
    have c1 : (nI U ≤ nI k) = False := by rw [le_nI (by omega) (by omega)]; exact eq_false (by omega)
    have es : nI k - nI e = nI (k - e) := nI_sub hek
    simp only [mmE, mmE0, mmH, mT, mR, mRf, mAl, mAs, mAz, mAn, Int.reduceToNat, Int32.reduceOfInt, Int64.reduceOfInt, Int.reduceAdd, swE, Nat.reduceDiv, Nat.reduceMod, Nat.reduceAdd, Nat.reduceMul, Nat.reduceEqDiff, Nat.reduceLeDiff, Nat.zero_le, List.length_nil, List.length_cons, Nat.zero_add, true_or, or_true, false_or, or_false, true_and, and_true, and_self, mb_01, mb_t, mb_f, hm, c1, es, ix41 (show k < 41 by omega), ix41 (show k - e < 41 by omega), h2 k (by omega) (by omega), true_implies, not_true_eq_false, not_false_eq_true, false_implies, and_true, true_and]
    rw [← nI_succ]
    have fw : fC I (mm_wI I 155 (k - e) (nI (x k))) := ⟨fun c _ b => by funext t; rw [mWI, if_neg b], fun j _ => by rw [mWI, if_neg (by decide)]⟩
    refine w_shift he hU w (k + 1) _ (by omega) (by omega) (by rw [mWI, if_neg (by decide)]; exact hm) (fun j hj => ?_) (fun j a b => ?_) (fun I' k1 k2 k3 => K I' (fC_tr fw k1) k2 k3)
    · rw [mWI, if_pos rfl]
      by_cases q : j = k - e
      · rw [if_pos q, q, show e + (k - e) = k by omega]
      · rw [if_neg q]; exact h1 j (by omega)
    · rw [mWI, if_pos rfl, if_neg (by omega)]
      exact h2 j (by omega) b
theorem w_mcircle {I : mm_I} (hv : va s) (h : shM I s) (hG : gMs I (sNr s) G) (hn : gnx (sNr s) (osS s) G = none) (K : ∀ I', fC I I' → I' 127 44 = nI (ciS s G).length → (∀ i, i < (ciS s G).length → I' 155 i = nI ((ciS s G).getD i 0)) → Q none I' J) : mm_call z (d + 2) 185 [.ref 127] I J Q := by
  have v3 := hv.1.2.2.1
  have f0 : fC I (mm_wI I 127 44 0) := ⟨fun k a _ => by funext t; rw [mWI, if_neg a], fun j a => by rw [mWI, if_pos rfl, if_neg a]⟩
  have h0 := shM_N h (fN_C f0)
  have hG0 := gMs_C hG f0
  simp only [ce_185, bk_185.1, mmE, mmE0, mmH, mT, mR, mRf, mAl, mAs, mAz, mAn, Int.reduceToNat, Int32.reduceOfInt, Int64.reduceOfInt, Int.reduceAdd, swE, Nat.reduceDiv, Nat.reduceMod, Nat.reduceAdd, Nat.reduceMul, Nat.reduceEqDiff, Nat.reduceLeDiff, Nat.zero_le, List.length_nil, List.length_cons, Nat.zero_add, true_or, or_true, false_or, or_false, true_and, and_true, and_self, mb_01, mb_t, mb_f, h0.1.2.2]
  refine w_r0_loop (z := z) (d := d + 1) hv h0 hG0 (sNr s) 0 _ (Nat.le_refl _) (fun o2 => ?_)
  have es : (List.range' 1 (sNr s)).find? (gw G) = st0 s G := rfl
  rw [es]
  cases e : st0 s G with
  | none =>
    have ec : ciS s G = [] := by unfold ciS; rw [e]
    rw [ec] at K
    simp only [gsel, bk_185.2.2.2.1, mmE, mmE0, mmH, mT, mR, mRf, mAl, mAs, mAz, mAn, Int.reduceToNat, Int32.reduceOfInt, Int64.reduceOfInt, Int.reduceAdd, swE, Nat.reduceDiv, Nat.reduceMod, Nat.reduceAdd, Nat.reduceMul, Nat.reduceEqDiff, Nat.reduceLeDiff, Nat.zero_le, List.length_nil, List.length_cons, Nat.zero_add, true_or, or_true, false_or, or_false, true_and, and_true, and_self, mb_01, mb_t, mb_f, true_implies, not_true_eq_false, not_false_eq_true, false_implies, and_true, true_and]
    exact K _ f0 (by rw [mWI, if_pos rfl, if_pos rfl]; rfl) (fun i hi => by cases hi)
  | some r =>
    have hp := ph_ok hv hn e
    obtain ⟨U, c, hU, hc⟩ := cy_ex (x := ph (nxc s G) r) (nr := sNr s) (fun i => ⟨(hp i).1, (hp i).2.1⟩)
    obtain ⟨m1, m2⟩ := cyM_is hc (by omega)
    have he := hc.1
    have ec : ciS s G = (List.range' c (U - c)).map (ph (nxc s G) r) := by unfold ciS; rw [e]; dsimp only; rw [m1, m2]
    have hl : (ciS s G).length = U - c := by rw [ec, List.length_map, List.length_range']
    have r1 := (hp 0).1
    have r2 := (hp 0).2.1
    have r1 : 1 ≤ r := r1
    have r2 : r ≤ sNr s := r2
    have n0 : (nI r = 0) = False := by rw [n0E (by omega)]; exact eq_false (by omega)
    simp only [gsel, bk_185.2.2.2.1, bk_185.2.2.2.2.1, mmE, mmE0, mmH, mT, mR, mRf, mAl, mAs, mAz, mAn, Int.reduceToNat, Int32.reduceOfInt, Int64.reduceOfInt, Int.reduceAdd, swE, Nat.reduceDiv, Nat.reduceMod, Nat.reduceAdd, Nat.reduceMul, Nat.reduceEqDiff, Nat.reduceLeDiff, Nat.zero_le, List.length_nil, List.length_cons, Nat.zero_add, true_or, or_true, false_or, or_false, true_and, and_true, and_self, mb_01, mb_t, mb_f, n0, true_implies, not_true_eq_false, not_false_eq_true, false_implies, and_true, true_and]
    refine w_mpath (z := z) (d := d) (x := ph (nxc s G) r) (e := c) hp (fun i => rfl) hc (by omega) hv hn (U - 1) 0 _ _ (by omega) h0 hG0 (fun i hi => by omega) (by rw [mWI, if_pos rfl, if_pos rfl]; rfl) (fun I1 o3 k1 k2 k3 => ?_)
    simp only [bk_185.2.2.2.2.2.2.2.2.1, mmE, mmE0, mmH, mT, mR, mRf, mAl, mAs, mAz, mAn, Int.reduceToNat, Int32.reduceOfInt, Int64.reduceOfInt, Int.reduceAdd, swE, Nat.reduceDiv, Nat.reduceMod, Nat.reduceAdd, Nat.reduceMul, Nat.reduceEqDiff, Nat.reduceLeDiff, Nat.zero_le, List.length_nil, List.length_cons, Nat.zero_add, true_or, or_true, false_or, or_false, true_and, and_true, and_self, mb_01, mb_t, mb_f]
    refine w_shift (z := z) (d := d + 1) (x := ph (nxc s G) r) he (by omega) (U - c) c I1 (by omega) (Nat.le_refl _) k3 (fun j hj => by omega) (fun j a b => k2 j b) (fun I2 k4 k5 k6 => ?_)
    refine K I2 (fC_tr f0 (fC_tr k1 k4)) (by rw [k5, hl]) (fun i hi => ?_)
    rw [hl] at hi
    rw [k6 i hi, ec, List.getD_eq_getElem?_getD, List.getElem?_map, List.getElem?_range' hi]
    show _ = nI (ph (nxc s G) r (c + 1 * i))
    rw [Nat.one_mul]
end ME
