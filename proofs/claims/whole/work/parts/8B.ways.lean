/-! the class's grading: quick ways, rows of a reason, settling -/
noncomputable def qwS (s : st_T) (G : Nat → gr_T) (r : Nat) : Nat := if (sR s r).2.1 = 1 then 1 else cif (S0 (sNr s) (sR s) G (sR s r).1) 2 (if (sR s r).2.1 = 2 ∧ kd (sR s r).1 = 6 ∧ ((List.range' 0 (sNf s)).any (gfS s)) = true ∧ agS s (sR s r).1 = none then 3 else 0)
theorem wI_5 {o : Option Nat} (h : ∀ x, o = some x → x < 2 ^ 31) : (wI o = -5) = (o = none) := by
  cases o with
  | none => exact propext ⟨fun _ => rfl, fun _ => rfl⟩
  | some x =>
    refine propext ⟨fun q => ?_, fun q => by cases q⟩
    have := congrArg Int32.toInt q
    rw [show wI (some x) = nI x from rfl, nI_toInt (h x rfl), show (-5 : Int32).toInt = -5 by decide] at this
    omega
theorem agS_lt {s : st_T} {f x : Nat} (h : agS s f = some x) : x < sNf s := by
  have := List.mem_of_find?_eq_some h
  rw [List.mem_range'_1] at this
  omega
theorem ok_S0 {np f : Nat} {P : Nat → Prop} {S : al_S} (h : al_ok np P S) : S.1 f = 0 ↔ P f := by
  refine ⟨fun q => ?_, fun q => h.2.2.2 f q⟩
  have := h.2.1 f (by omega)
  rw [q] at this
  exact this
section GR
variable {z : mm_S} {d : Nat} {I : mm_I} {J : mm_J} {s : st_T} {G : Nat → gr_T} {S : al_S} {Q : Option Value → mm_I → mm_J → Prop}
theorem c_quick {r : Nat} (h1 : 1 ≤ r) (h2 : r ≤ sNr s) (hv : va s) (h : shC I s) (hm : I 112 7 = gmN (gfS s) (sNf s)) (hl : rl_rep I (sNp s) S) (ho : al_ok (sNp s) (S0 (sNr s) (sR s) G) S) (Q : Option Value → mm_I → mm_J → Prop) : mm_call z (d + 6) 15 [.ref 112, .ref (4 + 2 * r)] I J Q = Q (some (.int (nI (qwS s G r)))) I J := by
  refine mm_ev ?_ Q
  have v2 := hv.1.2.1
  have v3 := hv.1.2.2.1
  obtain ⟨t1, _⟩ := mTr4 r (by omega) h1
  have hrow := h.2.2 r h1 h2
  obtain ⟨vP, v3', _⟩ := hv.2.2.2.1 r h1 h2
  have gF := isP_F hv.1.1 vP
  have f1 := isF_lt gF
  have s6 := (hl.2.2.2.1 _ f1).2
  have e1 : (nI (sR s r).2.1 = 1) = ((sR s r).2.1 = 1) := eq_nI (b := 1) (by omega) (by omega)
  have e2 : (nI (sR s r).2.1 = 2) = ((sR s r).2.1 = 2) := eq_nI (b := 2) (by omega) (by omega)
  have e6 : (nI (kd (sR s r).1) = 6) = (kd (sR s r).1 = 6) := eq_nI (b := 6) (by have := kd_lt (sR s r).1; omega) (by omega)
  have ca := fun (z : mm_S) (d : Nat) => c_at (z := z) (d := d) (J := J) (f := some (sR s r).1) hl (fun x hx => by injection hx with hx; omega)
  rw [eI_some] at ca
  have e0 : (nI (al_at S (some (sR s r).1)) = 0) = (S0 (sNr s) (sR s) G (sR s r).1) := by
    rw [n0E (by show S.1 _ < _; omega)]
    exact propext (ok_S0 ho)
  have e5 := wI_5 (o := agS s (sR s r).1) (fun x hx => by have := agS_lt hx; omega)
  simp only [ce_15, bk_15.1, bk_15.2.1, bk_15.2.2.1, bk_15.2.2.2.1, mmE, mmE0, mmH, mT, mR, mRf, mAl, mAs, mAz, mAn, Int.reduceToNat, Int32.reduceOfInt, Int64.reduceOfInt, Int.reduceAdd, swE, Nat.reduceDiv, Nat.reduceMod, Nat.reduceAdd, Nat.reduceMul, Nat.reduceEqDiff, Nat.reduceLeDiff, Nat.zero_le, List.length_nil, List.length_cons, Nat.zero_add, true_or, or_true, false_or, or_false, true_and, and_true, and_self, mb_01, mb_t, mb_f, Option.toList_some, Option.toList_none, List.cons_append, List.nil_append, t1, hrow.1, hrow.2.1, e1, e2, ca, e0, c_kindOf, kind_n f1, e6, hm, gm_0 v2]
  unfold qwS
  by_cases q1 : (sR s r).2.1 = 1
  · rw [if_pos q1]
    simp only [eq_true q1, true_implies, not_true_eq_false, not_false_eq_true, false_implies, and_true, true_and]
    rfl
  rw [if_neg q1]
  simp only [q1, true_implies, not_true_eq_false, not_false_eq_true, false_implies, and_true, true_and]
  by_cases q0 : S0 (sNr s) (sR s) G (sR s r).1
  · rw [cif_pos q0]
    simp only [eq_true q0, true_implies, not_true_eq_false, not_false_eq_true, false_implies, and_true, true_and]
    rfl
  rw [cif_neg q0]
  simp only [q0, true_implies, not_true_eq_false, not_false_eq_true, false_implies, and_true, true_and]
  have e10 : ((1 : Int32) = 0) = False := by decide
  have no : mm_at z (mm_call z (d + 5)) (mm_code 15) (fun v a b => v = some (.int (nI 0)) ∧ a = I ∧ b = J) 58 [some (.ref 112), some (.ref (4 + 2 * r)), none] [.int 0] I J := by
    simp only [bk_15.2.2.2.2.1, bk_15.2.2.2.2.2.1, bk_15.2.2.2.2.2.2, mmE, mmE0, mmH, mT, mR, mRf, mAl, mAs, mAz, mAn, Int.reduceToNat, Int32.reduceOfInt, Int64.reduceOfInt, Int.reduceAdd, swE, Nat.reduceDiv, Nat.reduceMod, Nat.reduceAdd, Nat.reduceMul, Nat.reduceEqDiff, Nat.reduceLeDiff, Nat.zero_le, List.length_nil, List.length_cons, Nat.zero_add, true_or, or_true, false_or, or_false, true_and, and_true, and_self, mb_01, mb_t, mb_f, true_implies, not_true_eq_false, not_false_eq_true, false_implies, and_true, true_and]
    rfl
  by_cases q2 : (sR s r).2.1 = 2
  · by_cases q6 : kd (sR s r).1 = 6
    · by_cases qa : (List.range' 0 (sNf s)).any (gfS s) = false
      · rw [if_neg (fun w => by rw [qa] at w; cases w.2.2.1)]
        simp only [eq_true q2, eq_true q6, eq_true qa, true_implies, not_true_eq_false, not_false_eq_true, false_implies, and_true, true_and]
        exact no
      · have qa' : (List.range' 0 (sNf s)).any (gfS s) = true := by simpa using qa
        by_cases qn : agS s (sR s r).1 = none
        · rw [if_pos ⟨q2, q6, qa', qn⟩]
          simp only [eq_true q2, eq_true q6, qa', true_implies, not_true_eq_false, not_false_eq_true, false_implies, and_true, true_and, bk_15.2.2.2.2.1, bk_15.2.2.2.2.2.1, bk_15.2.2.2.2.2.2, mmE, mmE0, mmH, mT, mR, mRf, mAl, mAs, mAz, mAn, Int.reduceToNat, Int32.reduceOfInt, Int64.reduceOfInt, Int.reduceAdd, swE, Nat.reduceDiv, Nat.reduceMod, Nat.reduceAdd, Nat.reduceMul, Nat.reduceEqDiff, Nat.reduceLeDiff, Nat.zero_le, List.length_nil, List.length_cons, Nat.zero_add, true_or, or_true, false_or, or_false, true_and, and_true, and_self, mb_01, mb_t, mb_f, Option.toList_some, Option.toList_none, List.cons_append, List.nil_append, e10, t1, hrow.1, c_against gF hv h hm, e5, eq_true qn, Bool.true_eq_false]
          rfl
        · rw [if_neg (fun w => qn w.2.2.2)]
          simp only [eq_true q2, eq_true q6, qa', true_implies, not_true_eq_false, not_false_eq_true, false_implies, and_true, true_and, bk_15.2.2.2.2.1, bk_15.2.2.2.2.2.1, bk_15.2.2.2.2.2.2, mmE, mmE0, mmH, mT, mR, mRf, mAl, mAs, mAz, mAn, Int.reduceToNat, Int32.reduceOfInt, Int64.reduceOfInt, Int.reduceAdd, swE, Nat.reduceDiv, Nat.reduceMod, Nat.reduceAdd, Nat.reduceMul, Nat.reduceEqDiff, Nat.reduceLeDiff, Nat.zero_le, List.length_nil, List.length_cons, Nat.zero_add, true_or, or_true, false_or, or_false, true_and, and_true, and_self, mb_01, mb_t, mb_f, Option.toList_some, Option.toList_none, List.cons_append, List.nil_append, e10, t1, hrow.1, c_against gF hv h hm, e5, qn, Bool.true_eq_false]
          rfl
    · rw [if_neg (fun w => q6 w.2.1)]
      simp only [eq_true q2, q6, true_implies, not_true_eq_false, not_false_eq_true, false_implies, and_true, true_and]
      exact no
  · rw [if_neg (fun w => q2 w.1)]
    simp only [q2, true_implies, not_true_eq_false, not_false_eq_true, false_implies, and_true, true_and]
    exact no
theorem rgt_nil {nr : Nat} {R : Nat → rw_T} : rgt nr R G [] = [] := rfl
theorem rgt_app {nr : Nat} {R : Nat → rw_T} {l : List Nat} {o : Nat} : rgt nr R G (l ++ [o]) = if (decide (o ≤ nr) && (G o).2.1 == 1) = true then rgt nr R G l ++ [(R o).1] else rgt nr R G l := by
  unfold rgt
  rw [List.filter_append, List.map_append]
  by_cases q : (decide (o ≤ nr) && (G o).2.1 == 1) = true
  · rw [if_pos q, List.filter_cons, if_pos q]
    rfl
  · rw [if_neg q, List.filter_cons, if_neg q]
    exact List.append_nil _
theorem rgt_len {nr : Nat} {R : Nat → rw_T} {l : List Nat} : (rgt nr R G l).length ≤ l.length := by
  unfold rgt
  rw [List.length_map]
  exact List.length_filter_le _ _
theorem w_lro_loop {r : Nat} (h1 : 1 ≤ r) (h2 : r ≤ sNr s) (hv : va s) : ∀ (l : List Nat) (i : Nat) (I : mm_I) (o3 : Option Value), (osS s r).drop i = l → i ≤ (osS s r).length → shC I s → gCs I (sNr s) G → sls I (sNp s) S (rgt (sNr s) (sR s) G ((osS s r).take i)) → (∀ I', sls I' (sNp s) S (rgt (sNr s) (sR s) G (osS s r)) → (∀ k, k ≠ 122 → k ≠ 124 → I' k = I k) → Q none I' J) → mm_at z (mm_call z (d + 2)) (mm_code 17) Q 16 [some (.ref 112), some (.ref (4 + 2 * r)), some (.int (nI i)), o3] [] I J
  | [], i, I, o3, hl, hi, h, hG, hs, K => by
    have v3 := hv.1.2.2.1
    obtain ⟨t1, _⟩ := mTr4 r (by omega) h1
    have hrow := h.2.2 r h1 h2
    have hl6 := (hv.2.2.2.1 r h1 h2).2.2.2.1
    have e : (osS s r).length ≤ i := List.drop_eq_nil_iff.mp hl
    have eL : (osS s r).length = (sR s r).2.2.2.length := rfl
    rw [hk_17_16]
    have c1 : (nI (sR s r).2.2.2.length ≤ nI i) = True := by rw [le_nI (by omega) (by omega)]; exact eq_true e
    simp only [bk_17.2.2, mmE, mmE0, mmH, mT, mR, mRf, mAl, mAs, mAz, mAn, Int.reduceToNat, Int32.reduceOfInt, Int64.reduceOfInt, Int.reduceAdd, swE, Nat.reduceDiv, Nat.reduceMod, Nat.reduceAdd, Nat.reduceMul, Nat.reduceEqDiff, Nat.reduceLeDiff, Nat.zero_le, List.length_nil, List.length_cons, Nat.zero_add, true_or, or_true, false_or, or_false, true_and, and_true, and_self, mb_01, mb_t, mb_f, t1, hrow.2.2.2.1, c1, true_implies, not_true_eq_false, not_false_eq_true, false_implies, and_true, true_and]
    rw [List.take_of_length_le e] at hs
    exact K I hs (fun _ _ _ => rfl)
  | o :: l, i, I, o3, hl, hi, h, hG, hs, K => by
    have v3 := hv.1.2.2.1
    obtain ⟨t1, t2, t3, _⟩ := mTr4 r (by omega) h1
    have hrow := h.2.2 r h1 h2
    obtain ⟨_, _, _, hl6, ho⟩ := hv.2.2.2.1 r h1 h2
    have eL : (osS s r).length = (sR s r).2.2.2.length := rfl
    have il : i < (osS s r).length := by
      rcases Nat.lt_or_ge i (osS s r).length with q | q
      · exact q
      · rw [List.drop_eq_nil_iff.mpr q] at hl; cases hl
    have ei : (osS s r)[i] = o := by
      have := List.drop_eq_getElem_cons il
      rw [hl] at this
      injection this with a b
      exact a.symm
    have eo : (sR s r).2.2.2.getD i 0 = o := by
      show (osS s r).getD i 0 = o
      rw [List.getD_eq_getElem?_getD, List.getElem?_eq_getElem il]
      exact ei
    have mo : o ∈ (sR s r).2.2.2 := List.mem_of_mem_drop (i := i) (by show o ∈ (osS s r).drop i; rw [hl]; exact List.mem_cons_self)
    obtain ⟨o1, o2⟩ := ho o mo
    have hl' : (osS s r).drop (i + 1) = l := by
      rw [← List.tail_drop, hl]
      rfl
    have tk : (osS s r).take (i + 1) = (osS s r).take i ++ [o] := by
      rw [List.take_add_one, List.getElem?_eq_getElem il, ei]
      rfl
    have lt := rgt_len (G := G) (nr := sNr s) (R := sR s) (l := (osS s r).take i)
    have lt6 : ((osS s r).take i).length = i := by rw [List.length_take]; omega
    rw [hk_17_16]
    have c1 : (nI (sR s r).2.2.2.length ≤ nI i) = False := by rw [le_nI (by omega) (by omega)]; exact eq_false (by omega)
    have cO := fun (z : mm_S) (d : Nat) => c_ofAt (z := z) (d := d) (J := J) (i := i) t1 t2 t3 hrow hl6 il
    rw [eo] at cO
    have rA := rgt_app (G := G) (nr := sNr s) (R := sR s) (l := (osS s r).take i) (o := o)
    by_cases q : o ≤ sNr s
    · obtain ⟨u1, _⟩ := mTr4 o (by omega) o1
      obtain ⟨g1, g2, g3, _⟩ := hG o o1 q
      have orow := h.2.2 o o1 q
      have oF := isF_lt (isP_F hv.1.1 (hv.2.2.2.1 o o1 q).1)
      have e1 : (nI (G o).2.1 = 1) = ((G o).2.1 = 1) := eq_nI (b := 1) (by omega) (by omega)
      simp only [bk_17.2.1, mmE, mmE0, mmH, mT, mR, mRf, mAl, mAs, mAz, mAn, Int.reduceToNat, Int32.reduceOfInt, Int64.reduceOfInt, Int.reduceAdd, swE, Nat.reduceDiv, Nat.reduceMod, Nat.reduceAdd, Nat.reduceMul, Nat.reduceEqDiff, Nat.reduceLeDiff, Nat.zero_le, List.length_nil, List.length_cons, Nat.zero_add, true_or, or_true, false_or, or_false, true_and, and_true, and_self, mb_01, mb_t, mb_f, Option.toList_some, Option.toList_none, List.cons_append, List.nil_append, t1, hrow.2.2.2.1, c1, cO, c_rowAt v3 h.1.2.2 o1 q, u1, g1.2.1, e1, orow.1, true_implies, not_true_eq_false, not_false_eq_true, false_implies, and_true, true_and]
      rw [← nI_succ]
      rw [decide_eq_true q, Bool.true_and] at rA
      by_cases q1 : (G o).2.1 = 1
      · rw [if_pos (beq_iff_eq.mpr q1)] at rA
        simp only [eq_true q1, true_implies, not_true_eq_false, not_false_eq_true, false_implies, and_true, true_and]
        refine w_list oF (by omega) hs (fun I1 k1 k2 => ?_)
        simp only [bk_17.2.1, mmE, mmE0, mmH, mT, mR, mRf, mAl, mAs, mAz, mAn, Int.reduceToNat, Int32.reduceOfInt, Int64.reduceOfInt, Int.reduceAdd, swE, Nat.reduceDiv, Nat.reduceMod, Nat.reduceAdd, Nat.reduceMul, Nat.reduceEqDiff, Nat.reduceLeDiff, Nat.zero_le, List.length_nil, List.length_cons, Nat.zero_add, true_or, or_true, false_or, or_false, true_and, and_true, and_self, mb_01, mb_t, mb_f, Option.toList_some, Option.toList_none, List.cons_append, List.nil_append]
        have sh1 : shC I1 s := ⟨⟨by rw [k2 _ (by decide) (by decide)]; exact h.1.1, by rw [k2 _ (by decide) (by decide)]; exact h.1.2.1, by rw [k2 _ (by decide) (by decide)]; exact h.1.2.2⟩, figs_c (fun k _ _ => k2 k (by omega) (by omega)) h.2.1, rows_c v3 (fun k _ _ => k2 k (by omega) (by omega)) h.2.2⟩
        have gG1 : gCs I1 (sNr s) G := fun r' a b => ⟨by unfold gC; rw [k2 _ (by omega) (by omega)]; exact (hG r' a b).1, (hG r' a b).2⟩
        refine w_lro_loop h1 h2 hv l (i + 1) I1 _ hl' il sh1 gG1 (by rw [tk, rA]; exact k1) (fun I2 k3 k4 => K I2 k3 (fun k a b => (k4 k a b).trans (k2 k a b)))
      · rw [if_neg (fun w => q1 (beq_iff_eq.mp w))] at rA
        simp only [q1, true_implies, not_true_eq_false, not_false_eq_true, false_implies, and_true, true_and]
        exact w_lro_loop h1 h2 hv l (i + 1) I _ hl' il h hG (by rw [tk, rA]; exact hs) K
    · have e : inR (sNr s) (nI o) = false := by rw [inR_nI (by omega)]; exact decide_eq_false (by omega)
      rw [decide_eq_false q, Bool.false_and, if_neg (by decide)] at rA
      simp only [bk_17.2.1, mmE, mmE0, mmH, mT, mR, mRf, mAl, mAs, mAz, mAn, Int.reduceToNat, Int32.reduceOfInt, Int64.reduceOfInt, Int.reduceAdd, swE, Nat.reduceDiv, Nat.reduceMod, Nat.reduceAdd, Nat.reduceMul, Nat.reduceEqDiff, Nat.reduceLeDiff, Nat.zero_le, List.length_nil, List.length_cons, Nat.zero_add, true_or, or_true, false_or, or_false, true_and, and_true, and_self, mb_01, mb_t, mb_f, Option.toList_some, Option.toList_none, List.cons_append, List.nil_append, t1, hrow.2.2.2.1, c1, cO, c_rowAt_no v3 h.1.2.2 e, true_implies, not_true_eq_false, not_false_eq_true, false_implies, and_true, true_and]
      rw [← nI_succ]
      exact w_lro_loop h1 h2 hv l (i + 1) I _ hl' il h hG (by rw [tk, rA]; exact hs) K
theorem w_lro {r : Nat} (h1 : 1 ≤ r) (h2 : r ≤ sNr s) (hv : va s) (h : shC I s) (hG : gCs I (sNr s) G) (hl : rl_rep I (sNp s) S) (K : ∀ I', sls I' (sNp s) S (rgt (sNr s) (sR s) G (osS s r)) → (∀ k, k ≠ 122 → k ≠ 124 → I' k = I k) → Q none I' J) : mm_call z (d + 3) 17 [.ref 112, .ref (4 + 2 * r)] I J Q := by
  have v3 := hv.1.2.2.1
  simp only [ce_17, bk_17.1, mmE, mmE0, mmH, mT, mR, mRf, mAl, mAs, mAz, mAn, Int.reduceToNat, Int32.reduceOfInt, Int64.reduceOfInt, Int.reduceAdd, swE, Nat.reduceDiv, Nat.reduceMod, Nat.reduceAdd, Nat.reduceMul, Nat.reduceEqDiff, Nat.reduceLeDiff, Nat.zero_le, List.length_nil, List.length_cons, Nat.zero_add, true_or, or_true, false_or, or_false, true_and, and_true, and_self, mb_01, mb_t, mb_f, h.1.1]
  refine w_srestart hl (fun I1 k1 k2 => ?_)
  simp only [mmE, mmE0, mmH, mT, mR, mRf, mAl, mAs, mAz, mAn, Int.reduceToNat, Int32.reduceOfInt, Int64.reduceOfInt, Int.reduceAdd, swE, Nat.reduceDiv, Nat.reduceMod, Nat.reduceAdd, Nat.reduceMul, Nat.reduceEqDiff, Nat.reduceLeDiff, Nat.zero_le, List.length_nil, List.length_cons, Nat.zero_add, true_or, or_true, false_or, or_false, true_and, and_true, and_self, mb_01, mb_t, mb_f, Option.toList_some, Option.toList_none, List.cons_append, List.nil_append]
  have sh1 : shC I1 s := ⟨⟨by rw [k2 _ (by decide)]; exact h.1.1, by rw [k2 _ (by decide)]; exact h.1.2.1, by rw [k2 _ (by decide)]; exact h.1.2.2⟩, figs_c (fun k _ _ => k2 k (by omega)) h.2.1, rows_c v3 (fun k _ _ => k2 k (by omega)) h.2.2⟩
  have gG1 : gCs I1 (sNr s) G := fun r' a b => ⟨by unfold gC; rw [k2 _ (by omega)]; exact (hG r' a b).1, (hG r' a b).2⟩
  exact w_lro_loop (z := z) (d := d) h1 h2 hv (osS s r) 0 I1 _ rfl (Nat.zero_le _) sh1 gG1 k1 (fun I2 k3 k4 => K I2 k3 (fun k a b => (k4 k a b).trans (k2 k a)))
end GR
