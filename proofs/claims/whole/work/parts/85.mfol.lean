/-! the reference's search: follows -/
def frA (I I' : mm_I) : Prop := ∀ k, k ≠ 136 → I' k = I k
theorem frA_rf {I : mm_I} : frA I I := fun _ _ => rfl
theorem frA_tr {I I' I'' : mm_I} (h : frA I I') (h' : frA I' I'') : frA I I'' := fun k hk => (h' k hk).trans (h k hk)
/-- what the reference's search needs -/
def msr (I : mm_I) (np : Nat) (V : Nat → Nat) : Prop := I 127 0 = nI np ∧ rm_lv I V ∧ mtab I ∧ np ≤ 7
theorem msr_fr {I I' : mm_I} {np : Nat} {V : Nat → Nat} (h : msr I np V) (g : frA I I') : msr I' np V := by
  obtain ⟨a, b, c, e⟩ := h
  refine ⟨?_, ?_, mtab_c (fun k _ _ => g k (by omega)) (fun k _ _ => by rw [g k (by omega)]) c, e⟩
  · rw [g _ (by decide)]; exact a
  · unfold rm_lv
    rw [g _ (by decide)]
    exact b
def mF (m : Nat) : Nat := mtF.getD m 0
theorem p2401 {np w : Nat} (hn : np ≤ 7) (hw : w ≤ 4) : np ^ w ≤ 2401 := Nat.le_trans (Nat.pow_le_pow_left hn w) (Nat.le_trans (Nat.pow_le_pow_right (by omega) hw) (by decide))
theorem ls_dg {np w n j : Nat} (hnp : 0 < np) : ls_f (dg np w n) j < np := by
  unfold ls_f
  rw [List.getD_eq_getElem?_getD]
  cases e : (dg np w n)[j]? with
  | none => exact hnp
  | some v => exact dg_lt hnp w n v (List.mem_of_getElem? e)
theorem ls_dg2 {np a b i j k : Nat} (hnp : 0 < np) : ls_f (dg np a i ++ dg np b j) k < np := by
  unfold ls_f
  rw [List.getD_eq_getElem?_getD]
  cases e : (dg np a i ++ dg np b j)[k]? with
  | none => exact hnp
  | some v =>
    rcases List.mem_append.mp (List.mem_of_getElem? e) with q | q
    · exact dg_lt hnp _ _ v q
    · exact dg_lt hnp _ _ v q
/-- letters one after another, as the reference goes -/
theorem fl_dg {np m f : Nat} {kn : Nat → Bool} (hnp : 0 < np) (hm : m < 17) : fl np m f kn = (List.range' 0 (np ^ mF m)).findSome? fun i => (List.range' 0 (np ^ (ltr m - mF m))).findSome? fun j => if gG m f kn (dg np (mF m) i ++ dg np (ltr m - mF m) j) = true then some (dg np (mF m) i ++ dg np (ltr m - mF m) j) else none := by
  have h2 : mF m ≤ ltr m := (tm_1d m hm).2.1
  have h1 : fg2 np (fun l => if gG m f kn l = true then some l else none) (ltr m) [] = fg2 np (fun l => if gG m f kn l = true then some l else none) (mF m + (ltr m - mF m)) [] := by
    rw [show mF m + (ltr m - mF m) = ltr m by omega]
  unfold fl ff
  rw [h1, fg2_add, fg2_dg hnp, List.range_eq_range']
  refine fs_congr (fun i _ => ?_)
  rw [List.nil_append, fg2_dg hnp, List.range_eq_range']
theorem gG_hd {m f : Nat} {kn : Nat → Bool} {l : List Nat} (hm : m < 17) : gG m f kn l = (gkn kn (rt_f (ls_f l) ((rul m).1.getD 0 z0)) && ((rul m).1.tail.all fun t => gkn kn (rt_f (ls_f l) t)) && rt_f (ls_f l) (rul m).2 == some f) := by
  unfold gG
  conv => lhs; rw [rul_hd hm]
  rw [List.all_cons]
theorem rul_p0 {m : Nat} (hm : m < 17) : (rul m).1.getD 0 z0 ∈ (rul m).1 := by
  have c1 := (tm_1c m hm).1.1
  match hh : (rul m).1, c1 with
  | a :: r, _ => exact List.mem_cons_self
section MFo
variable {z : mm_S} {d : Nat} {J : mm_J} {np f bl m : Nat} {V : Nat → Nat} {Q : Option Value → mm_I → mm_J → Prop}
theorem w_mf_in {i : Nat} {many : Int32} (hm : m < 17) (hnp : 0 < np) (hb : bl ≤ 6) (hf : isF f = true) (hp1 : gkn (kV V bl) (rt_f (ls_f (dg np (mF m) i)) ((rul m).1.getD 0 z0)) = true) : ∀ (w j : Nat) (I : mm_I), j + w = np ^ (ltr m - mF m) → msr I np V → mlt I (dg np (mF m) i) (mF m) → (match (List.range' j w).findSome? (fun j => if gG m f (kV V bl) (dg np (mF m) i ++ dg np (ltr m - mF m) j) = true then some (dg np (mF m) i ++ dg np (ltr m - mF m) j) else none) with
    | some lf => ∀ I', frA I I' → mlt I' lf (ltr m) → Q (some (.int 1)) I' J
    | none => ∀ I' o7, frA I I' → mm_at z (mm_call z (d + 5)) (mm_code 175) Q 130 [some (.ref 127), some (.int (nI m)), some (.int (nI (sl f))), some (.int (nI bl)), some (.int many), some (.int (nI (np ^ (ltr m - mF m)))), some (.int (nI i)), o7] [] I' J) → mm_at z (mm_call z (d + 5)) (mm_code 175) Q 74 [some (.ref 127), some (.int (nI m)), some (.int (nI (sl f))), some (.int (nI bl)), some (.int many), some (.int (nI (np ^ (ltr m - mF m)))), some (.int (nI i)), some (.int (nI j))] [] I J
  | 0, j, I, hj, h, hA, K => by
    obtain ⟨d1, d2, d3, d4, d5⟩ := tm_1d m hm
    have pr := p2401 h.2.2.2 (show ltr m - mF m ≤ 4 by unfold mF; omega)
    rw [hk_175_74]
    have c1 : (nI (np ^ (ltr m - mF m)) ≤ nI j) = True := by rw [le_nI (by omega) (by omega)]; exact eq_true (by omega)
    simp only [mmE, mmE0, mmH, mT, mR, mRf, mAl, mAs, mAz, mAn, Int.reduceToNat, Int32.reduceOfInt, Int64.reduceOfInt, Int.reduceAdd, swE, Nat.reduceDiv, Nat.reduceMod, Nat.reduceAdd, Nat.reduceMul, Nat.reduceEqDiff, Nat.reduceLeDiff, Nat.zero_le, List.length_nil, List.length_cons, Nat.zero_add, true_or, or_true, false_or, or_false, true_and, and_true, and_self, mb_01, mb_t, mb_f, c1, true_implies, not_true_eq_false, not_false_eq_true, false_implies, and_true, true_and]
    exact K I _ frA_rf
  | w + 1, j, I, hj, h, hA, K => by
    obtain ⟨d1, d2, d3, d4, d5⟩ := tm_1d m hm
    obtain ⟨t1, t2, t3, t4, t5, k7, l6⟩ := tb_rul hm
    obtain ⟨hp, hV, ht, hn7⟩ := id h
    have eF : mF m = mtF.getD m 0 := rfl
    have pr := p2401 hn7 (show ltr m - mF m ≤ 4 by omega)
    have ix17 : vp_in (nI m) 17 = True ∧ (nI m).toNatClampNeg = m := ⟨eq_true (vp_in_nI hm (by decide)), nI_clamp (by omega)⟩
    obtain ⟨b1, b2, b3, b4, b5⟩ := ht.1 m hm
    rw [d1] at b1
    rw [← eF] at b2
    rw [hk_175_74]
    have c1 : (nI (np ^ (ltr m - mF m)) ≤ nI j) = False := by rw [le_nI (by omega) (by omega)]; exact eq_false (by omega)
    simp only [mmE, mmE0, mmH, mT, mR, mRf, mAl, mAs, mAz, mAn, Int.reduceToNat, Int32.reduceOfInt, Int64.reduceOfInt, Int.reduceAdd, swE, Nat.reduceDiv, Nat.reduceMod, Nat.reduceAdd, Nat.reduceMul, Nat.reduceEqDiff, Nat.reduceLeDiff, Nat.zero_le, List.length_nil, List.length_cons, Nat.zero_add, true_or, or_true, false_or, or_false, true_and, and_true, and_self, mb_01, mb_t, mb_f, c1, ix17, b1, b2, true_implies, not_true_eq_false, not_false_eq_true, false_implies, and_true, true_and]
    refine w_assign (b := ltr m) hnp hn7 (by omega) (by omega) (by omega) hp (fun I1 g1 g2 g3 => ?_)
    have h1 := msr_fr h g1
    obtain ⟨hp1', hV1, ht1, _⟩ := id h1
    obtain ⟨e1, e2, e3, e4, e5⟩ := ht1.1 m hm
    have hlF : (dg np (mF m) i).length = mF m := dg_len _ _
    have hA1 : mlt I1 (dg np (mF m) i ++ dg np (ltr m - mF m) j) (ltr m) := by
      intro k hk
      by_cases q : k < mF m
      · rw [ls_app (by omega), g2 k (by omega)]
        exact hA k q
      · have := g3 (k - mF m) (by omega)
        rw [show mF m + (k - mF m) = k by omega] at this
        rw [this]
        unfold ls_f
        rw [List.getD_eq_getElem?_getD, List.getD_eq_getElem?_getD, List.getElem?_append_right (by omega), hlF]
    have hA1' : mlt I1 (dg np (mF m) i) (mF m) := fun k hk => by rw [g2 k (by omega)]; exact hA k hk
    have hln : ∀ k, k < ltr m → ls_f (dg np (mF m) i ++ dg np (ltr m - mF m) j) k < np := fun k _ => ls_dg2 hnp
    have hL : ltr m = pw (rul m).2 + 1 := rfl
    have m3 := (tm_1a m hm).2
    have cS := fun (z : mm_S) (d : Nat) => c_slotBy (z := z) (d := d) (J := J) (t := (rul m).2) hn7 k7 (show pw (rul m).2 < ltr m by omega) (show pw (rul m).2 < 6 by omega) hln hA1 hp1'
    have sf := (un_sl hf).2
    have eT : (eI (Option.map sl (rt_f (ls_f (dg np (mF m) i ++ dg np (ltr m - mF m) j)) (rul m).2)) = nI (sl f)) = (rt_f (ls_f (dg np (mF m) i ++ dg np (ltr m - mF m) j)) (rul m).2 = some f) := by
      cases e : rt_f (ls_f (dg np (mF m) i ++ dg np (ltr m - mF m) j)) (rul m).2 with
      | none =>
        refine propext ⟨fun q => ?_, fun q => by cases q⟩
        exact absurd q.symm (nI_m1' (by omega))
      | some g =>
        have gF := rul_rt hm (Or.inr rfl) (fun k => by have := ls_dg2 (np := np) (a := mF m) (b := ltr m - mF m) (i := i) (j := j) (k := k) hnp; omega) e
        have sg := (un_sl gF).2
        show (nI (sl g) = nI (sl f)) = _
        rw [eq_nI (by omega) (by omega), Option.some_inj]
        exact propext (sl_inj gF hf)
    have cH := fun (z : mm_S) (d : Nat) => c_holdsAll (z := z) (d := d) (J := J) hm hn7 hb hln hA1 hp1' hV1 ht1
    simp only [bk_175.2.2.1, mmE, mmE0, mmH, mT, mR, mRf, mAl, mAs, mAz, mAn, Int.reduceToNat, Int32.reduceOfInt, Int64.reduceOfInt, Int.reduceAdd, swE, Nat.reduceDiv, Nat.reduceMod, Nat.reduceAdd, Nat.reduceMul, Nat.reduceEqDiff, Nat.reduceLeDiff, Nat.zero_le, List.length_nil, List.length_cons, Nat.zero_add, true_or, or_true, false_or, or_false, true_and, and_true, and_self, mb_01, mb_t, mb_f, Option.toList_some, Option.toList_none, List.cons_append, List.nil_append, ix17, e5, m3, cS, eT, cH, mb_0, z01, true_implies, not_true_eq_false, not_false_eq_true, false_implies, and_true, true_and]
    rw [← nI_succ]
    have e1' : rt_f (ls_f (dg np (mF m) i ++ dg np (ltr m - mF m) j)) ((rul m).1.getD 0 z0) = rt_f (ls_f (dg np (mF m) i)) ((rul m).1.getD 0 z0) := rt_f_c (fun k hk => ls_app (by omega))
    have eG := gG_hd (f := f) (kn := kV V bl) (l := dg np (mF m) i ++ dg np (ltr m - mF m) j) hm
    rw [e1', hp1, Bool.true_and] at eG
    rw [List.range'_succ, List.findSome?_cons] at K
    have skip : gG m f (kV V bl) (dg np (mF m) i ++ dg np (ltr m - mF m) j) = false → mm_at z (mm_call z (d + 5)) (mm_code 175) Q 74 [some (.ref 127), some (.int (nI m)), some (.int (nI (sl f))), some (.int (nI bl)), some (.int many), some (.int (nI (np ^ (ltr m - mF m)))), some (.int (nI i)), some (.int (nI (j + 1)))] [] I1 J := by
      intro e
      rw [e, if_neg (by decide)] at K
      dsimp only at K
      refine w_mf_in hm hnp hb hf hp1 w (j + 1) I1 (by omega) h1 hA1' ?_
      cases e6 : (List.range' (j + 1) w).findSome? (fun j => if gG m f (kV V bl) (dg np (mF m) i ++ dg np (ltr m - mF m) j) = true then some (dg np (mF m) i ++ dg np (ltr m - mF m) j) else none) with
      | some lf =>
        rw [e6] at K
        exact fun I' k1 => K I' (frA_tr g1 k1)
      | none =>
        rw [e6] at K
        exact fun I' o7 k1 => K I' o7 (frA_tr g1 k1)
    by_cases q1 : rt_f (ls_f (dg np (mF m) i ++ dg np (ltr m - mF m) j)) (rul m).2 = some f
    · rw [show (rt_f (ls_f (dg np (mF m) i ++ dg np (ltr m - mF m) j)) (rul m).2 == some f) = true from beq_iff_eq.mpr q1, Bool.and_true] at eG
      simp only [eq_true q1, true_implies, not_true_eq_false, not_false_eq_true, false_implies, and_true, true_and]
      cases e7 : (rul m).1.tail.all fun t => gkn (kV V bl) (rt_f (ls_f (dg np (mF m) i ++ dg np (ltr m - mF m) j)) t) with
      | false =>
        rw [e7] at eG
        simp only [true_implies, not_true_eq_false, not_false_eq_true, false_implies, and_true, true_and]
        exact skip eG
      | true =>
        rw [e7] at eG
        simp only [Bool.true_eq_false, true_implies, not_true_eq_false, not_false_eq_true, false_implies, and_true, true_and]
        rw [eG, if_pos rfl] at K
        exact K I1 g1 hA1
    · rw [show (rt_f (ls_f (dg np (mF m) i ++ dg np (ltr m - mF m) j)) (rul m).2 == some f) = false from beq_eq_false_iff_ne.mpr q1, Bool.and_false] at eG
      simp only [q1, true_implies, not_true_eq_false, not_false_eq_true, false_implies, and_true, true_and]
      exact skip eG
theorem w_mf_out (hm : m < 17) (hb : bl ≤ 6) (hf : isF f = true) : ∀ (w i : Nat) (I : mm_I) (o7 : Option Value), i + w = np ^ mF m → msr I np V → (match (List.range' i w).findSome? (fun i => (List.range' 0 (np ^ (ltr m - mF m))).findSome? fun j => if gG m f (kV V bl) (dg np (mF m) i ++ dg np (ltr m - mF m) j) = true then some (dg np (mF m) i ++ dg np (ltr m - mF m) j) else none) with
    | some lf => ∀ I', frA I I' → mlt I' lf (ltr m) → Q (some (.int 1)) I' J
    | none => ∀ I', frA I I' → Q (some (.int 0)) I' J) → mm_at z (mm_call z (d + 5)) (mm_code 175) Q 34 [some (.ref 127), some (.int (nI m)), some (.int (nI (sl f))), some (.int (nI bl)), some (.int (nI (np ^ mF m))), some (.int (nI (np ^ (ltr m - mF m)))), some (.int (nI i)), o7] [] I J
  | 0, i, I, o7, hi, h, K => by
    obtain ⟨d1, d2, d3, d4, d5⟩ := tm_1d m hm
    have pr := p2401 h.2.2.2 (show mF m ≤ 4 from d4)
    rw [hk_175_34]
    have c1 : (nI (np ^ mF m) ≤ nI i) = True := by rw [le_nI (by omega) (by omega)]; exact eq_true (by omega)
    simp only [bk_175.2.2.2.2, mmE, mmE0, mmH, mT, mR, mRf, mAl, mAs, mAz, mAn, Int.reduceToNat, Int32.reduceOfInt, Int64.reduceOfInt, Int.reduceAdd, swE, Nat.reduceDiv, Nat.reduceMod, Nat.reduceAdd, Nat.reduceMul, Nat.reduceEqDiff, Nat.reduceLeDiff, Nat.zero_le, List.length_nil, List.length_cons, Nat.zero_add, true_or, or_true, false_or, or_false, true_and, and_true, and_self, mb_01, mb_t, mb_f, c1, z01, true_implies, not_true_eq_false, not_false_eq_true, false_implies, and_true, true_and]
    exact K I frA_rf
  | w + 1, i, I, o7, hi, h, K => by
    obtain ⟨d1, d2, d3, d4, d5⟩ := tm_1d m hm
    obtain ⟨t1, t2, t3, t4, t5, k7, l6⟩ := tb_rul hm
    obtain ⟨hp, hV, ht, hn7⟩ := id h
    have eF : mF m = mtF.getD m 0 := rfl
    have pr := p2401 hn7 (show mF m ≤ 4 from d4)
    have hnp : 0 < np := by
      rcases Nat.eq_zero_or_pos np with q | q
      · exfalso
        rw [q, Nat.zero_pow (by omega)] at hi
        omega
      · exact q
    have ix17 : vp_in (nI m) 17 = True ∧ (nI m).toNatClampNeg = m := ⟨eq_true (vp_in_nI hm (by decide)), nI_clamp (by omega)⟩
    obtain ⟨b1, b2, b3, b4, b5⟩ := ht.1 m hm
    rw [← eF] at b2
    rw [hk_175_34]
    have c1 : (nI (np ^ mF m) ≤ nI i) = False := by rw [le_nI (by omega) (by omega)]; exact eq_false (by omega)
    simp only [mmE, mmE0, mmH, mT, mR, mRf, mAl, mAs, mAz, mAn, Int.reduceToNat, Int32.reduceOfInt, Int64.reduceOfInt, Int.reduceAdd, swE, Nat.reduceDiv, Nat.reduceMod, Nat.reduceAdd, Nat.reduceMul, Nat.reduceEqDiff, Nat.reduceLeDiff, Nat.zero_le, List.length_nil, List.length_cons, Nat.zero_add, true_or, or_true, false_or, or_false, true_and, and_true, and_self, mb_01, mb_t, mb_f, c1, ix17, b2, true_implies, not_true_eq_false, not_false_eq_true, false_implies, and_true, true_and]
    refine w_assign (a := 0) (b := mF m) hnp hn7 (by omega) (by omega) (by omega) hp (fun I1 g1 g2 g3 => ?_)
    have h1 := msr_fr h g1
    obtain ⟨hp1', hV1, ht1, _⟩ := id h1
    obtain ⟨e1, e2, e3, e4, e5⟩ := ht1.1 m hm
    have hA1 : mlt I1 (dg np (mF m) i) (mF m) := by
      intro k hk
      have := g3 k (by omega)
      rw [Nat.zero_add] at this
      rw [this]
      rfl
    have m1 := (tm_1a m hm).1
    have p0m := rul_p0 hm
    have cI := fun (z : mm_S) (d : Nat) => c_isHad (z := z) (d := d) (J := J) hn7 hb (rul_k7 hm p0m) (show pw ((rul m).1.getD 0 z0) < mF m by omega) (show pw ((rul m).1.getD 0 z0) < 6 by omega) (fun k _ => ls_dg (np := np) (w := mF m) (n := i) (j := k) hnp) hA1 hp1' hV1
    simp only [bk_175.2.1, mmE, mmE0, mmH, mT, mR, mRf, mAl, mAs, mAz, mAn, Int.reduceToNat, Int32.reduceOfInt, Int64.reduceOfInt, Int.reduceAdd, swE, Nat.reduceDiv, Nat.reduceMod, Nat.reduceAdd, Nat.reduceMul, Nat.reduceEqDiff, Nat.reduceLeDiff, Nat.zero_le, List.length_nil, List.length_cons, Nat.zero_add, true_or, or_true, false_or, or_false, true_and, and_true, and_self, mb_01, mb_t, mb_f, Option.toList_some, Option.toList_none, List.cons_append, List.nil_append, ix17, e3, m1, cI, mb_0, true_implies, not_true_eq_false, not_false_eq_true, false_implies, and_true, true_and]
    rw [List.range'_succ, List.findSome?_cons] at K
    have next : ((List.range' 0 (np ^ (ltr m - mF m))).findSome? fun j => if gG m f (kV V bl) (dg np (mF m) i ++ dg np (ltr m - mF m) j) = true then some (dg np (mF m) i ++ dg np (ltr m - mF m) j) else none) = none → ∀ I' o7, frA I I' → mm_at z (mm_call z (d + 5)) (mm_code 175) Q 130 [some (.ref 127), some (.int (nI m)), some (.int (nI (sl f))), some (.int (nI bl)), some (.int (nI (np ^ mF m))), some (.int (nI (np ^ (ltr m - mF m)))), some (.int (nI i)), o7] [] I' J := by
      intro e I' o7 k1
      rw [e] at K
      dsimp only at K
      simp only [bk_175.2.2.2.1, mmE, mmE0, mmH, mT, mR, mRf, mAl, mAs, mAz, mAn, Int.reduceToNat, Int32.reduceOfInt, Int64.reduceOfInt, Int.reduceAdd, swE, Nat.reduceDiv, Nat.reduceMod, Nat.reduceAdd, Nat.reduceMul, Nat.reduceEqDiff, Nat.reduceLeDiff, Nat.zero_le, List.length_nil, List.length_cons, Nat.zero_add, true_or, or_true, false_or, or_false, true_and, and_true, and_self, mb_01, mb_t, mb_f]
      rw [← nI_succ]
      refine w_mf_out hm hb hf w (i + 1) I' o7 (by omega) (msr_fr h k1) ?_
      cases e6 : (List.range' (i + 1) w).findSome? (fun i => (List.range' 0 (np ^ (ltr m - mF m))).findSome? fun j => if gG m f (kV V bl) (dg np (mF m) i ++ dg np (ltr m - mF m) j) = true then some (dg np (mF m) i ++ dg np (ltr m - mF m) j) else none) with
      | some lf =>
        rw [e6] at K
        exact fun I2 k2 => K I2 (frA_tr k1 k2)
      | none =>
        rw [e6] at K
        exact fun I2 k2 => K I2 (frA_tr k1 k2)
    cases e8 : gkn (kV V bl) (rt_f (ls_f (dg np (mF m) i)) ((rul m).1.getD 0 z0)) with
    | false =>
      simp only [true_implies, not_true_eq_false, not_false_eq_true, false_implies, and_true, true_and]
      refine next ?_ I1 _ g1
      rw [List.findSome?_eq_none_iff]
      intro j _
      rw [if_neg]
      rw [gG_hd hm]
      have hlF : (dg np (mF m) i).length = mF m := dg_len _ _
      have e1' : rt_f (ls_f (dg np (mF m) i ++ dg np (ltr m - mF m) j)) ((rul m).1.getD 0 z0) = rt_f (ls_f (dg np (mF m) i)) ((rul m).1.getD 0 z0) := rt_f_c (fun k hk => ls_app (by omega))
      rw [e1', e8, Bool.false_and, Bool.false_and]
      decide
    | true =>
      simp only [Bool.true_eq_false, true_implies, not_true_eq_false, not_false_eq_true, false_implies, and_true, true_and]
      refine w_mf_in (z := z) (d := d) hm hnp hb hf e8 (np ^ (ltr m - mF m)) 0 I1 (by omega) h1 hA1 ?_
      cases e9 : (List.range' 0 (np ^ (ltr m - mF m))).findSome? (fun j => if gG m f (kV V bl) (dg np (mF m) i ++ dg np (ltr m - mF m) j) = true then some (dg np (mF m) i ++ dg np (ltr m - mF m) j) else none) with
      | some lf =>
        rw [e9] at K
        exact fun I2 k2 => K I2 (frA_tr g1 k2)
      | none => exact fun I2 o7 k2 => next e9 I2 o7 (frA_tr g1 k2)
theorem w_follows {I : mm_I} (hm : m < 17) (hb : bl ≤ 6) (hnp : 0 < np) (hf : isF f = true) (h : msr I np V) (K : match fl np m f (kV V bl) with
    | some lf => ∀ I', frA I I' → mlt I' lf (ltr m) → Q (some (.int 1)) I' J
    | none => ∀ I', frA I I' → Q (some (.int 0)) I' J) : mm_call z (d + 6) 175 [.ref 127, .int (nI m), .int (nI (sl f)), .int (nI bl)] I J Q := by
  obtain ⟨d1, d2, d3, d4, d5⟩ := tm_1d m hm
  obtain ⟨hp, hV, ht, hn7⟩ := id h
  have eF : mF m = mtF.getD m 0 := rfl
  obtain ⟨b1, b2, b3, b4, b5⟩ := ht.1 m hm
  have l6 := (tb_rul hm).2.2.2.2.2.2
  rw [d1] at b1
  rw [← eF] at b2
  have ix17 : vp_in (nI m) 17 = True ∧ (nI m).toNatClampNeg = m := ⟨eq_true (vp_in_nI hm (by decide)), nI_clamp (by omega)⟩
  have es : nI (ltr m) - nI (mF m) = nI (ltr m - mF m) := nI_sub (by omega)
  simp only [ce_175, bk_175.1, mmE, mmE0, mmH, mT, mR, mRf, mAl, mAs, mAz, mAn, Int.reduceToNat, Int32.reduceOfInt, Int64.reduceOfInt, Int.reduceAdd, swE, Nat.reduceDiv, Nat.reduceMod, Nat.reduceAdd, Nat.reduceMul, Nat.reduceEqDiff, Nat.reduceLeDiff, Nat.zero_le, List.length_nil, List.length_cons, Nat.zero_add, true_or, or_true, false_or, or_false, true_and, and_true, and_self, mb_01, mb_t, mb_f, Option.toList_some, Option.toList_none, List.cons_append, List.nil_append, ix17, b1, b2, es, c_power (show mF m ≤ 10 by omega) hp, c_power (show ltr m - mF m ≤ 10 by omega) hp, true_implies, not_true_eq_false, not_false_eq_true, false_implies, and_true, true_and]
  rw [fl_dg hnp hm] at K
  exact w_mf_out (z := z) (d := d) hm hb hf (np ^ mF m) 0 I _ (by omega) h K
end MFo
