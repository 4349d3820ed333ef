/-! the class grades -/
noncomputable def GF (s : st_T) : Nat → gr_T := gsS s (sNr s)
def fnr (n : Nat) (G : Nat → gr_T) : Nat := ((List.range' 1 n).find? fun r => !((G r).2.1 == 1)).getD 0
noncomputable def o_grade (s : st_T) : op_T := if sGd s = true then (nI (fnr (sNr s) (sG s)), s) else (nI (fnr (sNr s) (GF s)), uGd (uG (uC s (ciS s (GF s))) (GF s)) true)
section GZ
variable {z : mm_S} {d : Nat} {I : mm_I} {J : mm_J} {s : st_T} {G : Nat → gr_T} {Q : Option Value → mm_I → mm_J → Prop}
theorem w_path {x : Nat → Nat} {U e : Nat} (hx : ∀ i, 1 ≤ x i ∧ x i ≤ sNr s) (hn : ∀ i, x (i + 1) = nxc s G (x i)) (hc : cy x U e) (hU : U ≤ 40) (hv : va s) : ∀ (w l : Nat) (I : mm_I), l + w = U → shC I s → gCs I (sNr s) G → (∀ i, i < l → I 126 i = nI (x i)) → (∀ I', (∀ k, k ≠ 126 → I' k = I k) → (∀ i, i < U → I' 126 i = nI (x i)) → mm_at z (mm_call z (d + 3)) (mm_code 20) Q 76 [some (.ref 112), some (.int (nI (x U))), some (.int (nI U))] [] I' J) → mm_at z (mm_call z (d + 3)) (mm_code 20) Q 41 [some (.ref 112), some (.int (nI (x l))), some (.int (nI l))] [] I J
  | 0, l, I, hl, h, hG, hci, K => by
    have v3 := hv.1.2.2.1
    have el : l = U := by omega
    subst el
    have hx40 : ∀ i, x i ≤ 40 := fun i => by have := hx i; omega
    have cp := fun (z : mm_S) (d : Nat) => c_pop (z := z) (d := d) (J := J) hU hx40 (hx40 l) hci
    have fe : (List.range' 0 l).find? (fun i => x i == x l) = some e := by
      refine find_is (p := fun i => x i == x l) hc.1 (beq_iff_eq.mpr hc.2.1) (fun b hb => ?_)
      show (x b == x l) = false
      rw [beq_eq_false_iff_ne]
      intro q
      exact hc.2.2 b e hb hc.1 (q.trans hc.2.1.symm)
    rw [fe] at cp
    have he := hc.1
    have ne : (nI ((some e : Option Nat).getD l) = nI l) = False := by
      show (nI e = nI l) = False
      rw [eq_nI (by omega) (by omega)]
      exact eq_false (by omega)
    rw [hk_20_41]
    simp only [mmE, mmE0, mmH, mT, mR, mRf, mAl, mAs, mAz, mAn, Int.reduceToNat, Int32.reduceOfInt, Int64.reduceOfInt, Int.reduceAdd, swE, Nat.reduceDiv, Nat.reduceMod, Nat.reduceAdd, Nat.reduceMul, Nat.reduceEqDiff, Nat.reduceLeDiff, Nat.zero_le, List.length_nil, List.length_cons, Nat.zero_add, true_or, or_true, false_or, or_false, true_and, and_true, and_self, mb_01, mb_t, mb_f, Option.toList_some, Option.toList_none, List.cons_append, List.nil_append, cp, ne, true_implies, not_true_eq_false, not_false_eq_true, false_implies, and_true, true_and]
    have := K I (fun _ _ => rfl) hci
    by_cases q : (40 : Int32) ≤ nI l
    · simp only [eq_true q, true_implies, not_true_eq_false, not_false_eq_true, false_implies, and_true, true_and]
      exact this
    · simp only [q, true_implies, not_true_eq_false, not_false_eq_true, false_implies, and_true, true_and]
      exact this
  | w + 1, l, I, hl, h, hG, hci, K => by
    have v3 := hv.1.2.2.1
    have hx40 : ∀ i, x i ≤ 40 := fun i => by have := hx i; omega
    have cp := fun (z : mm_S) (d : Nat) => c_pop (z := z) (d := d) (J := J) (show l ≤ 40 by omega) hx40 (hx40 l) hci
    have fe : (List.range' 0 l).find? (fun i => x i == x l) = none := by
      rw [List.find?_eq_none]
      intro b hb q
      rw [List.mem_range'_1] at hb
      exact hc.2.2 b l (by omega) (by omega) (beq_iff_eq.mp q)
    rw [fe] at cp
    have ne : (nI ((none : Option Nat).getD l) = nI l) = True := eq_true rfl
    rw [hk_20_41]
    have wc : ∀ k, k ≠ 126 → mm_wI I 126 l (nI (x l)) k = I k := fun k hk => by funext t; rw [mWI, if_neg hk]
    have h1 : shC (mm_wI I 126 l (nI (x l))) s := shC_G hv h (fun k j a b => by rw [wc k (by omega)])
    have hG1 : gCs (mm_wI I 126 l (nI (x l))) (sNr s) G := fun r a b => ⟨by unfold gC; rw [wc _ (by omega)]; exact (hG r a b).1, (hG r a b).2⟩
    simp only [mmE, mmE0, mmH, mT, mR, mRf, mAl, mAs, mAz, mAn, Int.reduceToNat, Int32.reduceOfInt, Int64.reduceOfInt, Int.reduceAdd, swE, Nat.reduceDiv, Nat.reduceMod, Nat.reduceAdd, Nat.reduceMul, Nat.reduceEqDiff, Nat.reduceLeDiff, Nat.zero_le, List.length_nil, List.length_cons, Nat.zero_add, true_or, or_true, false_or, or_false, true_and, and_true, and_self, mb_01, mb_t, mb_f, Option.toList_some, Option.toList_none, List.cons_append, List.nil_append, cp, ne, ix40 (show l < 40 by omega), c_fco (hx l).1 (hx l).2 hv h1 hG1, true_implies, not_true_eq_false, not_false_eq_true, false_implies, and_true, true_and]
    rw [← nI_succ, ← hn l]
    refine w_path hx hn hc hU hv w (l + 1) _ (by omega) h1 hG1 (fun i hi => ?_) (fun I' k1 k2 => K I' (fun k hk => (k1 k hk).trans (wc k hk)) k2)
    rw [mWI, if_pos rfl]
    by_cases q : i = l
    · rw [if_pos q, q]
    · rw [if_neg q]; exact hci i (by omega)
theorem w_fc_start (hv : va s) (h : shC I s) (hG : gCs I (sNr s) G) (K0 : st0 s G = none → Q none I J) (K1 : ∀ r, st0 s G = some r → mm_at z (mm_call z (d + 3)) (mm_code 20) Q 39 [some (.ref 112), some (.int (nI r)), none] [] I J) : ∀ (w r : Nat), 1 ≤ r → r + w = sNr s + 1 → (List.range' r w).find? (gw G) = st0 s G → mm_at z (mm_call z (d + 3)) (mm_code 20) Q 2 [some (.ref 112), some (.int (nI r)), none] [] I J
  | 0, r, h1, hr, e => by
    have v3 := hv.1.2.2.1
    rw [hk_20_2]
    have c1 : (nI (sNr s) < nI r) = True := by rw [lt_nI (by omega) (by omega)]; exact eq_true (by omega)
    have c2 : (nI r ≤ nI (sNr s)) = False := by rw [le_nI (by omega) (by omega)]; exact eq_false (by omega)
    simp only [bk_20.2.1, mmE, mmE0, mmH, mT, mR, mRf, mAl, mAs, mAz, mAn, Int.reduceToNat, Int32.reduceOfInt, Int64.reduceOfInt, Int.reduceAdd, swE, Nat.reduceDiv, Nat.reduceMod, Nat.reduceAdd, Nat.reduceMul, Nat.reduceEqDiff, Nat.reduceLeDiff, Nat.zero_le, List.length_nil, List.length_cons, Nat.zero_add, true_or, or_true, false_or, or_false, true_and, and_true, and_self, mb_01, mb_t, mb_f, h.1.2.2, c1, c2, true_implies, not_true_eq_false, not_false_eq_true, false_implies, and_true, true_and]
    exact K0 e.symm
  | w + 1, r, h1, hr, e => by
    have v3 := hv.1.2.2.1
    rw [hk_20_2]
    have c1 : (nI (sNr s) < nI r) = False := by rw [lt_nI (by omega) (by omega)]; exact eq_false (by omega)
    have c2 : (nI r ≤ nI (sNr s)) = True := by rw [le_nI (by omega) (by omega)]; exact eq_true (by omega)
    have cc := fun (z : mm_S) (d : Nat) => c_isCirc (z := z) (d := d) (J := J) h1 (show r < 1000 by omega) hv h hG
    rw [decide_eq_true (show r ≤ sNr s by omega), Bool.true_and] at cc
    rw [List.range'_succ, List.find?_cons] at e
    simp only [bk_20.2.1, mmE, mmE0, mmH, mT, mR, mRf, mAl, mAs, mAz, mAn, Int.reduceToNat, Int32.reduceOfInt, Int64.reduceOfInt, Int.reduceAdd, swE, Nat.reduceDiv, Nat.reduceMod, Nat.reduceAdd, Nat.reduceMul, Nat.reduceEqDiff, Nat.reduceLeDiff, Nat.zero_le, List.length_nil, List.length_cons, Nat.zero_add, true_or, or_true, false_or, or_false, true_and, and_true, and_self, mb_01, mb_t, mb_f, Option.toList_some, Option.toList_none, List.cons_append, List.nil_append, h.1.2.2, c1, c2, cc, mb_0, true_implies, not_true_eq_false, not_false_eq_true, false_implies, and_true, true_and]
    rw [← nI_succ]
    cases eg : gw G r with
    | true =>
      rw [eg] at e
      simp only [Bool.true_eq_false, true_implies, not_true_eq_false, not_false_eq_true, false_implies, and_true, true_and]
      exact K1 r e.symm
    | false =>
      rw [eg] at e
      simp only [true_implies, not_true_eq_false, not_false_eq_true, false_implies, and_true, true_and]
      exact w_fc_start hv h hG K0 K1 w (r + 1) (by omega) (by omega) e
theorem w_findCircle (hv : va s) (h : shC I s) (hG : gCs I (sNr s) G) (hn : gnx (sNr s) (osS s) G = none) (h0 : I 112 9 = 0) (K : ∀ I', (∀ k, k ≠ 126 → k ≠ 112 → I' k = I k) → (∀ j, j ≠ 9 → I' 112 j = I 112 j) → I' 112 9 = nI (ciS s G).length → (∀ i, i < (ciS s G).length → I' 126 i = nI ((ciS s G).getD i 0)) → (ciS s G).length ≤ 40 → (∀ c ∈ ciS s G, c ≤ 40) → Q none I' J) : mm_call z (d + 4) 20 [.ref 112] I J Q := by
  have v3 := hv.1.2.2.1
  simp only [ce_20, bk_20.1, mmE, mmE0, mmH, mT, mR, mRf, mAl, mAs, mAz, mAn, Int.reduceToNat, Int32.reduceOfInt, Int64.reduceOfInt, Int.reduceAdd, swE, Nat.reduceDiv, Nat.reduceMod, Nat.reduceAdd, Nat.reduceMul, Nat.reduceEqDiff, Nat.reduceLeDiff, Nat.zero_le, List.length_nil, List.length_cons, Nat.zero_add, true_or, or_true, false_or, or_false, true_and, and_true, and_self, mb_01, mb_t, mb_f]
  refine w_fc_start (z := z) (d := d) hv h hG (fun e => ?_) (fun r e => ?_) (sNr s) 1 (by omega) (by omega) rfl
  · have ec : ciS s G = [] := by unfold ciS; rw [e]
    rw [ec] at K
    exact K I (fun _ _ _ => rfl) (fun _ _ => rfl) h0 (fun i hi => by cases hi) (Nat.zero_le _) (fun c hc => by cases hc)
  · have hp := ph_ok hv hn e
    obtain ⟨U, c, hU, hc⟩ := cy_ex (x := ph (nxc s G) r) (nr := sNr s) (fun i => ⟨(hp i).1, (hp i).2.1⟩)
    obtain ⟨m1, m2⟩ := cyM_is hc (by omega)
    have he := hc.1
    have ec : ciS s G = (List.range' c (U - c)).map (ph (nxc s G) r) := by unfold ciS; rw [e]; dsimp only; rw [m1, m2]
    have hx40 : ∀ i, ph (nxc s G) r i ≤ 40 := fun i => by have := hp i; omega
    simp only [bk_20.2.2.1, mmE, mmE0, mmH, mT, mR, mRf, mAl, mAs, mAz, mAn, Int.reduceToNat, Int32.reduceOfInt, Int64.reduceOfInt, Int.reduceAdd, swE, Nat.reduceDiv, Nat.reduceMod, Nat.reduceAdd, Nat.reduceMul, Nat.reduceEqDiff, Nat.reduceLeDiff, Nat.zero_le, List.length_nil, List.length_cons, Nat.zero_add, true_or, or_true, false_or, or_false, true_and, and_true, and_self, mb_01, mb_t, mb_f]
    refine w_path (z := z) (d := d) (x := ph (nxc s G) r) (fun i => ⟨(hp i).1, (hp i).2.1⟩) (fun i => rfl) hc (by omega) hv U 0 I (by omega) h hG (fun i hi => by omega) (fun I1 k1 k2 => ?_)
    have cp := fun (z : mm_S) (d : Nat) => c_pop (z := z) (d := d) (J := J) (show U ≤ 40 by omega) hx40 (hx40 U) k2
    have fe : (List.range' 0 U).find? (fun i => ph (nxc s G) r i == ph (nxc s G) r U) = some c := by
      refine find_is (p := fun i => ph (nxc s G) r i == ph (nxc s G) r U) he (beq_iff_eq.mpr hc.2.1) (fun b hb => ?_)
      show (ph (nxc s G) r b == ph (nxc s G) r U) = false
      rw [beq_eq_false_iff_ne]
      intro q
      exact hc.2.2 b c hb he (q.trans hc.2.1.symm)
    rw [fe, show (some c : Option Nat).getD U = c from rfl] at cp
    have es : nI U - nI c = nI (U - c) := nI_sub (by omega)
    simp only [bk_20.2.2.2, mmE, mmE0, mmH, mT, mR, mRf, mAl, mAs, mAz, mAn, Int.reduceToNat, Int32.reduceOfInt, Int64.reduceOfInt, Int.reduceAdd, swE, Nat.reduceDiv, Nat.reduceMod, Nat.reduceAdd, Nat.reduceMul, Nat.reduceEqDiff, Nat.reduceLeDiff, Nat.zero_le, List.length_nil, List.length_cons, Nat.zero_add, true_or, or_true, false_or, or_false, true_and, and_true, and_self, mb_01, mb_t, mb_f, Option.toList_some, Option.toList_none, List.cons_append, List.nil_append, cp, ce_23, bk_23.1, es]
    refine w_cut_loop (z := z) (d := d + 2) (x := ph (nxc s G) r) (U := U) he (by omega) (U - c) 0 _ (by omega) (by rw [mWI, if_pos rfl, if_pos rfl]) (fun j hj => by omega) (fun j _ hj => by rw [mWI, if_neg (by decide)]; exact k2 j hj) (fun I2 k3 k4 => ?_)
    simp only [mmE, mmE0, mmH, mT, mR, mRf, mAl, mAs, mAz, mAn, Int.reduceToNat, Int32.reduceOfInt, Int64.reduceOfInt, Int.reduceAdd, swE, Nat.reduceDiv, Nat.reduceMod, Nat.reduceAdd, Nat.reduceMul, Nat.reduceEqDiff, Nat.reduceLeDiff, Nat.zero_le, List.length_nil, List.length_cons, Nat.zero_add, true_or, or_true, false_or, or_false, true_and, and_true, and_self, mb_01, mb_t, mb_f, Option.toList_some, Option.toList_none, List.cons_append, List.nil_append]
    have hl : (ciS s G).length = U - c := by rw [ec, List.length_map, List.length_range']
    refine K I2 (fun k a b => ?_) (fun j hj => ?_) ?_ (fun i hi => ?_) (by omega) (fun q hq => ?_)
    · rw [k3 k a]
      funext t
      rw [mWI, if_neg b, k1 k a]
    · rw [k3 _ (by decide), mWI, if_pos rfl, if_neg hj, k1 _ (by decide)]
    · rw [k3 _ (by decide), mWI, if_pos rfl, if_pos rfl, hl]
    · rw [hl] at hi
      rw [k4 i hi, ec, List.getD_eq_getElem?_getD, List.getElem?_map, List.getElem?_range' hi]
      show _ = nI (ph (nxc s G) r (c + 1 * i))
      rw [Nat.one_mul]
    · rw [ec] at hq
      obtain ⟨i, _, rfl⟩ := List.mem_map.mp hq
      exact hx40 i
theorem w_cc_loop (hv : va s) : ∀ (w r a : Nat) (I : mm_I), 1 ≤ r → r + w = sNr s + 1 → a ≤ r → shC I s → gCs I (sNr s) G → I 112 5 = nI a → (∀ I', (∀ k, k ≠ 112 → I' k = I k) → (∀ j, j ≠ 5 → I' 112 j = I 112 j) → I' 112 5 = nI (a + (List.range' r w).countP (gw G)) → Q none I' J) → mm_at z (mm_call z (d + 2)) (mm_code 19) Q 2 [some (.ref 112), some (.int (nI r))] [] I J
  | 0, r, a, I, h1, hr, ha, h, hG, hc, K => by
    have v3 := hv.1.2.2.1
    rw [hk_19_2]
    have c1 : (nI (sNr s) < nI r) = True := by rw [lt_nI (by omega) (by omega)]; exact eq_true (by omega)
    simp only [bk_19.2.2, mmE, mmE0, mmH, mT, mR, mRf, mAl, mAs, mAz, mAn, Int.reduceToNat, Int32.reduceOfInt, Int64.reduceOfInt, Int.reduceAdd, swE, Nat.reduceDiv, Nat.reduceMod, Nat.reduceAdd, Nat.reduceMul, Nat.reduceEqDiff, Nat.reduceLeDiff, Nat.zero_le, List.length_nil, List.length_cons, Nat.zero_add, true_or, or_true, false_or, or_false, true_and, and_true, and_self, mb_01, mb_t, mb_f, h.1.2.2, c1, true_implies, not_true_eq_false, not_false_eq_true, false_implies, and_true, true_and]
    exact K I (fun _ _ => rfl) (fun _ _ => rfl) hc
  | w + 1, r, a, I, h1, hr, ha, h, hG, hc, K => by
    have v3 := hv.1.2.2.1
    rw [hk_19_2]
    have c1 : (nI (sNr s) < nI r) = False := by rw [lt_nI (by omega) (by omega)]; exact eq_false (by omega)
    have cc := fun (z : mm_S) (d : Nat) => c_isCirc (z := z) (d := d) (J := J) h1 (show r < 1000 by omega) hv h hG
    rw [decide_eq_true (show r ≤ sNr s by omega), Bool.true_and] at cc
    rw [List.range'_succ, List.countP_cons] at K
    simp only [bk_19.2.1, mmE, mmE0, mmH, mT, mR, mRf, mAl, mAs, mAz, mAn, Int.reduceToNat, Int32.reduceOfInt, Int64.reduceOfInt, Int.reduceAdd, swE, Nat.reduceDiv, Nat.reduceMod, Nat.reduceAdd, Nat.reduceMul, Nat.reduceEqDiff, Nat.reduceLeDiff, Nat.zero_le, List.length_nil, List.length_cons, Nat.zero_add, true_or, or_true, false_or, or_false, true_and, and_true, and_self, mb_01, mb_t, mb_f, Option.toList_some, Option.toList_none, List.cons_append, List.nil_append, h.1.2.2, c1, cc, mb_0, hc, true_implies, not_true_eq_false, not_false_eq_true, false_implies, and_true, true_and]
    rw [← nI_succ]
    cases eg : gw G r with
    | true =>
      rw [eg, if_pos rfl] at K
      simp only [Bool.true_eq_false, true_implies, not_true_eq_false, not_false_eq_true, false_implies, and_true, true_and]
      rw [← nI_succ]
      have wc : ∀ k, k ≠ 112 → mm_wI I 112 5 (nI (a + 1)) k = I k := fun k hk => by funext t; rw [mWI, if_neg hk]
      refine w_cc_loop hv w (r + 1) (a + 1) _ (by omega) (by omega) (by omega) (shC_G hv h fG_g) (fun q x y => ⟨by unfold gC; rw [wc _ (by omega)]; exact (hG q x y).1, (hG q x y).2⟩) (by rw [mWI, if_pos rfl, if_pos rfl]) (fun I' k1 k2 k3 => K I' (fun k hk => (k1 k hk).trans (wc k hk)) (fun j hj => ?_) ?_)
      · rw [k2 j hj, mWI, if_pos rfl, if_neg hj]
      · rw [k3]
        congr 1
        omega
    | false =>
      rw [eg, if_neg (by decide)] at K
      simp only [true_implies, not_true_eq_false, not_false_eq_true, false_implies, and_true, true_and]
      exact w_cc_loop hv w (r + 1) a I (by omega) (by omega) (by omega) h hG hc K
theorem w_fnr_loop (hv : va s) (h : shC I s) (hG : gCs I (sNr s) G) : ∀ (w r : Nat) (o2 : Option Value), 1 ≤ r → r + w = sNr s + 1 → Q (some (.int (nI (((List.range' r w).find? fun r => !((G r).2.1 == 1)).getD 0)))) I J → mm_at z (mm_call z (d + 1)) (mm_code 24) Q 2 [some (.ref 112), some (.int (nI r)), o2] [] I J
  | 0, r, o2, h1, hr, k => by
    have v3 := hv.1.2.2.1
    rw [hk_24_2]
    have c1 : (nI (sNr s) < nI r) = True := by rw [lt_nI (by omega) (by omega)]; exact eq_true (by omega)
    simp only [bk_24.2.2, mmE, mmE0, mmH, mT, mR, mRf, mAl, mAs, mAz, mAn, Int.reduceToNat, Int32.reduceOfInt, Int64.reduceOfInt, Int.reduceAdd, swE, Nat.reduceDiv, Nat.reduceMod, Nat.reduceAdd, Nat.reduceMul, Nat.reduceEqDiff, Nat.reduceLeDiff, Nat.zero_le, List.length_nil, List.length_cons, Nat.zero_add, true_or, or_true, false_or, or_false, true_and, and_true, and_self, mb_01, mb_t, mb_f, h.1.2.2, c1, true_implies, not_true_eq_false, not_false_eq_true, false_implies, and_true, true_and]
    exact k
  | w + 1, r, o2, h1, hr, k => by
    have v3 := hv.1.2.2.1
    have h2 : r ≤ sNr s := by omega
    obtain ⟨t1, _⟩ := mTr4 r (by omega) h1
    obtain ⟨g1, g2, g3, _⟩ := hG r h1 h2
    have ih := fun o2 => w_fnr_loop hv h hG w (r + 1) o2 (by omega) (by omega)
    rw [nI_succ] at ih
    rw [hk_24_2]
    have c1 : (nI (sNr s) < nI r) = False := by rw [lt_nI (by omega) (by omega)]; exact eq_false (by omega)
    have e1 : (nI (G r).2.1 = 1) = ((G r).2.1 = 1) := eq_nI (b := 1) (by omega) (by omega)
    rw [List.range'_succ, List.find?_cons] at k
    simp only [bk_24.2.1, mmE, mmE0, mmH, mT, mR, mRf, mAl, mAs, mAz, mAn, Int.reduceToNat, Int32.reduceOfInt, Int64.reduceOfInt, Int.reduceAdd, swE, Nat.reduceDiv, Nat.reduceMod, Nat.reduceAdd, Nat.reduceMul, Nat.reduceEqDiff, Nat.reduceLeDiff, Nat.zero_le, List.length_nil, List.length_cons, Nat.zero_add, true_or, or_true, false_or, or_false, true_and, and_true, and_self, mb_01, mb_t, mb_f, Option.toList_some, Option.toList_none, List.cons_append, List.nil_append, h.1.2.2, c1, c_rowAt v3 h.1.2.2 h1 h2, t1, g1.2.1, e1, true_implies, not_true_eq_false, not_false_eq_true, false_implies, and_true, true_and]
    by_cases q : (G r).2.1 = 1
    · rw [show ((G r).2.1 == 1) = true from beq_iff_eq.mpr q] at k
      simp only [eq_true q, true_implies, not_true_eq_false, not_false_eq_true, false_implies, and_true, true_and]
      exact ih _ k
    · rw [show ((G r).2.1 == 1) = false from beq_eq_false_iff_ne.mpr q] at k
      simp only [q, true_implies, not_true_eq_false, not_false_eq_true, false_implies, and_true, true_and]
      exact k
theorem c_fnr (hv : va s) (h : shC I s) (hG : gCs I (sNr s) G) (Q : Option Value → mm_I → mm_J → Prop) : mm_call z (d + 2) 24 [.ref 112] I J Q = Q (some (.int (nI (fnr (sNr s) G)))) I J := by
  refine mm_ev ?_ Q
  simp only [ce_24, bk_24.1, mmE, mmE0, mmH, mT, mR, mRf, mAl, mAs, mAz, mAn, Int.reduceToNat, Int32.reduceOfInt, Int64.reduceOfInt, Int.reduceAdd, swE, Nat.reduceDiv, Nat.reduceMod, Nat.reduceAdd, Nat.reduceMul, Nat.reduceEqDiff, Nat.reduceLeDiff, Nat.zero_le, List.length_nil, List.length_cons, Nat.zero_add, true_or, or_true, false_or, or_false, true_and, and_true, and_self, mb_01, mb_t, mb_f]
  exact w_fnr_loop (z := z) (d := d) hv h hG (sNr s) 1 _ (by omega) (by omega) ⟨rfl, rfl, rfl⟩
end GZ
