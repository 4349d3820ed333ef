/-! hints: the reference goes down -/
section MD
variable {z : mm_S} {d : Nat} {J : mm_J} {np : Nat} {V : Nat → Nat} {s : st_T} {Q : Option Value → mm_I → mm_J → Prop}
theorem ix17 {m : Nat} (hm : m < 17) : vp_in (nI m) 17 = True ∧ (nI m).toNatClampNeg = m := ⟨eq_true (vp_in_nI hm (by decide)), nI_clamp (by omega)⟩
theorem c_sop {I : mm_I} {t : rt_T} {l : List Nat} {n : Nat} (hn7 : np ≤ 7) (hk : t.1 < 7) (hw : pw t < n) (hw6 : pw t < 6) (hl : ∀ j, j < n → ls_f l j < np) (hA : mlt I l n) (hp : I 127 0 = nI np) (Q : Option Value → mm_I → mm_J → Prop) : mm_call z (d + 4) 198 [.ref 127, .int (nI (cdt t))] I J Q = Q (some (.int (eI ((rt_f (ls_f l) t).map sl)))) I J := by
  refine mm_ev ?_ Q
  have b : cdt t < 2 ^ 31 := by
    unfold pw at hw6
    unfold cdt
    omega
  have c0 : (0 ≤ nI (cdt t)) = True := by rw [show (0 : Int32) = nI 0 from rfl, le_nI (by omega) b]; exact eq_true (by omega)
  simp only [ce_198, bk_198, mmE, mmE0, mmH, mT, mR, mRf, mAl, mAs, mAz, mAn, Int.reduceToNat, Int32.reduceOfInt, Int64.reduceOfInt, Int.reduceAdd, swE, Nat.reduceDiv, Nat.reduceMod, Nat.reduceAdd, Nat.reduceMul, Nat.reduceEqDiff, Nat.reduceLeDiff, Nat.zero_le, List.length_nil, List.length_cons, Nat.zero_add, true_or, or_true, false_or, or_false, true_and, and_true, and_self, mb_01, mb_t, mb_f, Option.toList_some, Option.toList_none, List.cons_append, List.nil_append, c0, c_slotBy hn7 hk hw hw6 hl hA hp, true_implies, not_true_eq_false, not_false_eq_true, false_implies, and_true, true_and]
theorem c_sop_no {I : mm_I} (Q : Option Value → mm_I → mm_J → Prop) : mm_call z (d + 4) 198 [.ref 127, .int (-1)] I J Q = Q (some (.int (-1))) I J := by
  refine mm_ev ?_ Q
  have c0 : (0 ≤ (-1 : Int32)) = False := by decide
  simp only [ce_198, bk_198, mmE, mmE0, mmH, mT, mR, mRf, mAl, mAs, mAz, mAn, Int.reduceToNat, Int32.reduceOfInt, Int64.reduceOfInt, Int.reduceAdd, swE, Nat.reduceDiv, Nat.reduceMod, Nat.reduceAdd, Nat.reduceMul, Nat.reduceEqDiff, Nat.reduceLeDiff, Nat.zero_le, List.length_nil, List.length_cons, Nat.zero_add, true_or, or_true, false_or, or_false, true_and, and_true, and_self, mb_01, mb_t, mb_f, Option.toList_some, Option.toList_none, List.cons_append, List.nil_append, c0, true_implies, not_true_eq_false, not_false_eq_true, false_implies, and_true, true_and]
theorem w_fr {from0 : Int32} {f m : Nat} {l : List Nat} {o5 o6 o7 : Option Value} (hf : isF f = true) (h0 : 0 < np) (h5 : V f ≤ 5) (hm : m < 17) (hno : ∀ k, k < m → fl np k f (fun g => decide (V g < V f)) = none) (hy : fl np m f (fun g => decide (V g < V f)) = some l) : ∀ (w k : Nat) (I : mm_I), k + w = m → msr I np V → (∀ I', frA I I' → mlt I' l (ltr m) → mm_at z (mm_call z (d + 6)) (mm_code 197) Q 39 [some (.ref 127), some (.int from0), some (.int (nI (sl f))), some (.int (nI (V f))), some (.int (nI m)), o5, o6, o7] [] I' J) → mm_at z (mm_call z (d + 6)) (mm_code 197) Q 22 [some (.ref 127), some (.int from0), some (.int (nI (sl f))), some (.int (nI (V f))), some (.int (nI k)), o5, o6, o7] [] I J
  | 0, k, I, hk, h, K => by
    have ek : k = m := by omega
    subst ek
    rw [hk_197_22]
    simp only [mmE, mmE0, mmH, mT, mR, mRf, mAl, mAs, mAz, mAn, Int.reduceToNat, Int32.reduceOfInt, Int64.reduceOfInt, Int.reduceAdd, swE, Nat.reduceDiv, Nat.reduceMod, Nat.reduceAdd, Nat.reduceMul, Nat.reduceEqDiff, Nat.reduceLeDiff, Nat.zero_le, List.length_nil, List.length_cons, Nat.zero_add, true_or, or_true, false_or, or_false, true_and, and_true, and_self, mb_01, mb_t, mb_f]
    refine w_follows (z := z) (d := d) (V := V) (bl := V f) hm (by omega) h0 hf h ?_
    have e : fl np k f (kV V (V f)) = some l := hy
    rw [e]
    intro I1 a1 a2
    have z1 : ((1 : Int32) = 0) = False := by decide
    simp only [mmE, mmE0, mmH, mT, mR, mRf, mAl, mAs, mAz, mAn, Int.reduceToNat, Int32.reduceOfInt, Int64.reduceOfInt, Int.reduceAdd, swE, Nat.reduceDiv, Nat.reduceMod, Nat.reduceAdd, Nat.reduceMul, Nat.reduceEqDiff, Nat.reduceLeDiff, Nat.zero_le, List.length_nil, List.length_cons, Nat.zero_add, true_or, or_true, false_or, or_false, true_and, and_true, and_self, mb_01, mb_t, mb_f, Option.toList_some, Option.toList_none, List.cons_append, List.nil_append, z1, true_implies, not_true_eq_false, not_false_eq_true, false_implies, and_true, true_and]
    exact K I1 a1 a2
  | w + 1, k, I, hk, h, K => by
    rw [hk_197_22]
    simp only [mmE, mmE0, mmH, mT, mR, mRf, mAl, mAs, mAz, mAn, Int.reduceToNat, Int32.reduceOfInt, Int64.reduceOfInt, Int.reduceAdd, swE, Nat.reduceDiv, Nat.reduceMod, Nat.reduceAdd, Nat.reduceMul, Nat.reduceEqDiff, Nat.reduceLeDiff, Nat.zero_le, List.length_nil, List.length_cons, Nat.zero_add, true_or, or_true, false_or, or_false, true_and, and_true, and_self, mb_01, mb_t, mb_f]
    refine w_follows (z := z) (d := d) (V := V) (bl := V f) (show k < 17 by omega) (by omega) h0 hf h ?_
    have e : fl np k f (kV V (V f)) = none := hno k (by omega)
    rw [e]
    intro I1 a1
    simp only [mmE, mmE0, mmH, mT, mR, mRf, mAl, mAs, mAz, mAn, Int.reduceToNat, Int32.reduceOfInt, Int64.reduceOfInt, Int.reduceAdd, swE, Nat.reduceDiv, Nat.reduceMod, Nat.reduceAdd, Nat.reduceMul, Nat.reduceEqDiff, Nat.reduceLeDiff, Nat.zero_le, List.length_nil, List.length_cons, Nat.zero_add, true_or, or_true, false_or, or_false, true_and, and_true, and_self, mb_01, mb_t, mb_f, Option.toList_some, Option.toList_none, List.cons_append, List.nil_append, true_implies, not_true_eq_false, not_false_eq_true, false_implies, and_true, true_and]
    rw [← nI_succ]
    exact w_fr hf h0 h5 hm hno hy w (k + 1) I1 (by omega) (msr_fr h a1) (fun I2 b1 b2 => K I2 (frA_tr a1 b1) b2)
theorem w_gd {from0 : Int32} (hO : hOk np V) : ∀ (w f : Nat) (I : mm_I) (o3 o4 o5 o6 o7 : Option Value), isP np f → V f ≤ 5 → V f ≤ w + 1 → msr I np V → (∀ I' o3 o4 o5 o6 o7, frA I I' → mm_at z (mm_call z (d + 6)) (mm_code 197) Q 153 [some (.ref 127), some (.int from0), some (.int (nI (sl (hnt np V w f)))), o3, o4, o5, o6, o7] [] I' J) → mm_at z (mm_call z (d + 6)) (mm_code 197) Q 2 [some (.ref 127), some (.int from0), some (.int (nI (sl f))), o3, o4, o5, o6, o7] [] I J := by
  intro w
  induction w with
  | zero =>
    intro f I o3 o4 o5 o6 o7 hf h5 hw h K
    have fF := isP_F h.2.2.2 hf
    have sf := (un_sl fF).2
    have el := lvm_at fF h.2.1
    rw [if_pos (show V f < 6 by omega)] at el
    have c2 : (nI (V f) ≤ 1) = True := by rw [show (1 : Int32) = nI 1 from rfl, le_nI (by omega) (by omega)]; exact eq_true (by omega)
    rw [hk_197_2]
    simp only [mmE, mmE0, mmH, mT, mR, mRf, mAl, mAs, mAz, mAn, Int.reduceToNat, Int32.reduceOfInt, Int64.reduceOfInt, Int.reduceAdd, swE, Nat.reduceDiv, Nat.reduceMod, Nat.reduceAdd, Nat.reduceMul, Nat.reduceEqDiff, Nat.reduceLeDiff, Nat.zero_le, List.length_nil, List.length_cons, Nat.zero_add, true_or, or_true, false_or, or_false, true_and, and_true, and_self, mb_01, mb_t, mb_f, ix4400 sf, el, c2, true_implies, not_true_eq_false, not_false_eq_true, false_implies, and_true, true_and]
    exact K I _ _ _ _ _ frA_rf
  | succ w ih =>
    intro f I o3 o4 o5 o6 o7 hf h5 hw h K
    have h7 := h.2.2.2
    have h0 := isP_pos hf
    have fF := isP_F h7 hf
    have sf := (un_sl fF).2
    have el := lvm_at fF h.2.1
    rw [if_pos (show V f < 6 by omega)] at el
    have c2 : (nI (V f) ≤ 1) = (V f ≤ 1) := le_nI (b := 1) (by omega) (by omega)
    rw [hk_197_2]
    simp only [mmE, mmE0, mmH, mT, mR, mRf, mAl, mAs, mAz, mAn, Int.reduceToNat, Int32.reduceOfInt, Int64.reduceOfInt, Int.reduceAdd, swE, Nat.reduceDiv, Nat.reduceMod, Nat.reduceAdd, Nat.reduceMul, Nat.reduceEqDiff, Nat.reduceLeDiff, Nat.zero_le, List.length_nil, List.length_cons, Nat.zero_add, true_or, or_true, false_or, or_false, true_and, and_true, and_self, mb_01, mb_t, mb_f, ix4400 sf, el, c2, true_implies, not_true_eq_false, not_false_eq_true, false_implies, and_true, true_and]
    by_cases q : V f ≤ 1
    · rw [hnt_1 q] at K
      simp only [eq_true q, true_implies, not_true_eq_false, not_false_eq_true, false_implies, and_true, true_and]
      exact K I _ _ _ _ _ frA_rf
    · obtain ⟨m, l, hm, hno, hy, g, e, eg, g1, g2⟩ := hO f hf (by omega) h5
      rw [hnt_S q e] at K
      simp only [q, true_implies, not_true_eq_false, not_false_eq_true, false_implies, and_true, true_and]
      refine w_fr (z := z) (d := d) fF h0 h5 hm hno hy m 0 I (by omega) h (fun I1 a1 a2 => ?_)
      have h1 := msr_fr h a1
      obtain ⟨hp, hV, ht, _⟩ := id h1
      obtain ⟨_, _, b1, b2, _⟩ := ht.1 m hm
      obtain ⟨k1, k2⟩ := fl_good hy
      obtain ⟨_, _, _, _, t5, _, l6⟩ := tb_rul hm
      have eL : ltr m = pw (rul m).2 + 1 := rfl
      have lnp : ∀ j, j < ltr m → ls_f l j < np := fun j hj => getD_lt2 k1.2 (by rw [k1.1]; exact hj)
      have pr : ∀ t, t ∈ (rul m).1 → pw t < ltr m ∧ pw t < 6 ∧ t.1 < 7 ∧ ∃ p, rt_f (ls_f l) t = some p ∧ V p < V f ∧ isF p = true := by
        intro t ht
        have := t5 t ht
        obtain ⟨p, p1, p2⟩ := gG_pr k2 ht
        exact ⟨by omega, by omega, rul_k7 hm ht, p, p1, of_decide_eq_true p2, rul_rt hm (Or.inl ht) (fun j => ls_7 h7 k1.2 j) p1⟩
      have lva : ∀ p, V p < V f → isF p = true → I1 137 (sl p) = nI (V p) := fun p p1 p2 => by rw [lvm_at p2 hV, if_pos (by omega)]
      have c0 : ∀ p, isF p = true → (nI (sl p) < 0) = False := fun p hp => nneg (by have := (un_sl hp).2; omega)
      have cl : ∀ p p', V p < V f → V p' < V f → (nI (V p) ≤ nI (V p')) = (V p ≤ V p') := fun p p' a b => le_nI (by omega) (by omega)
      have end0 : ∀ b o6 o7, b = g → mm_at z (mm_call z (d + 6)) (mm_code 197) Q 145 [some (.ref 127), some (.int from0), some (.int (nI (sl f))), some (.int (nI (V f))), some (.int (nI m)), some (.int (nI (sl b))), o6, o7] [.int (nI (sl b))] I1 J := by
        intro b o6 o7 eb
        subst eb
        simp only [bk_197.2.2.2.2.2.2.2.1, mmE, mmE0, mmH, mT, mR, mRf, mAl, mAs, mAz, mAn, Int.reduceToNat, Int32.reduceOfInt, Int64.reduceOfInt, Int.reduceAdd, swE, Nat.reduceDiv, Nat.reduceMod, Nat.reduceAdd, Nat.reduceMul, Nat.reduceEqDiff, Nat.reduceLeDiff, Nat.zero_le, List.length_nil, List.length_cons, Nat.zero_add, true_or, or_true, false_or, or_false, true_and, and_true, and_self, mb_01, mb_t, mb_f]
        exact ih b I1 _ _ _ _ _ g2 (by omega) (by omega) h1 (fun I2 o3 o4 o5 o6 o7 x => K I2 o3 o4 o5 o6 o7 (frA_tr a1 x))
      have end1 : ∀ a b o6 o7, b = g → mm_at z (mm_call z (d + 6)) (mm_code 197) Q 145 [some (.ref 127), some (.int from0), some (.int (nI (sl f))), some (.int (nI (V f))), some (.int (nI m)), some (.int a), o6, o7] [.int (nI (sl b))] I1 J := by
        intro a b o6 o7 eb
        subst eb
        simp only [bk_197.2.2.2.2.2.2.2.1, mmE, mmE0, mmH, mT, mR, mRf, mAl, mAs, mAz, mAn, Int.reduceToNat, Int32.reduceOfInt, Int64.reduceOfInt, Int.reduceAdd, swE, Nat.reduceDiv, Nat.reduceMod, Nat.reduceAdd, Nat.reduceMul, Nat.reduceEqDiff, Nat.reduceLeDiff, Nat.zero_le, List.length_nil, List.length_cons, Nat.zero_add, true_or, or_true, false_or, or_false, true_and, and_true, and_self, mb_01, mb_t, mb_f]
        exact ih b I1 _ _ _ _ _ g2 (by omega) (by omega) h1 (fun I2 o3 o4 o5 o6 o7 x => K I2 o3 o4 o5 o6 o7 (frA_tr a1 x))
      have n12 : m ≠ 12 → ∀ a b o6 o7, b = g → mm_at z (mm_call z (d + 6)) (mm_code 197) Q 94 [some (.ref 127), some (.int from0), some (.int (nI (sl f))), some (.int (nI (V f))), some (.int (nI m)), some (.int a), o6, o7] [.int (nI (sl b))] I1 J := by
        intro n a b o6 o7 eb
        have e12 : (nI m = 12) = False := by rw [show (12 : Int32) = nI 12 from rfl, eq_nI (by omega) (by omega)]; exact eq_false n
        have m1 : ((-1 : Int32) < 0) = True := by decide
        simp only [bk_197.2.2.2.1, bk_197.2.2.2.2.1, bk_197.2.2.2.2.2.1, bk_197.2.2.2.2.2.2.1, mmE, mmE0, mmH, mT, mR, mRf, mAl, mAs, mAz, mAn, Int.reduceToNat, Int32.reduceOfInt, Int64.reduceOfInt, Int.reduceAdd, swE, Nat.reduceDiv, Nat.reduceMod, Nat.reduceAdd, Nat.reduceMul, Nat.reduceEqDiff, Nat.reduceLeDiff, Nat.zero_le, List.length_nil, List.length_cons, Nat.zero_add, true_or, or_true, false_or, or_false, true_and, and_true, and_self, mb_01, mb_t, mb_f, e12, m1, true_implies, not_true_eq_false, not_false_eq_true, false_implies, and_true, true_and]
        exact end1 _ b _ _ eb
      rw [rul_hd hm] at eg
      have m0 := rul_p0 hm
      generalize et : (rul m).1.getD 0 z0 = t1 at eg m0
      obtain ⟨w1, w2, w3, p1, p1a, p1b, p1c⟩ := pr t1 m0
      have s1 := (un_sl p1c).2
      have b1' : I1 133 m = nI (cdt t1) := by rw [b1, (tm_1a m hm).1, et]
      have eS : ∀ p, eI (Option.map sl (some p)) = nI (sl p) := fun _ => rfl
      have cs1 := fun (z : mm_S) (d : Nat) => c_sop (z := z) (d := d) (J := J) h7 w3 w1 w2 lnp a2 hp
      rw [p1a, eS] at cs1
      have tlm : ∀ t, t ∈ (rul m).1.tail → t ∈ (rul m).1 := fun t ht => by rw [rul_hd hm]; exact List.mem_cons_of_mem _ ht
      simp only [bk_197.2.1, mmE, mmE0, mmH, mT, mR, mRf, mAl, mAs, mAz, mAn, Int.reduceToNat, Int32.reduceOfInt, Int64.reduceOfInt, Int.reduceAdd, swE, Nat.reduceDiv, Nat.reduceMod, Nat.reduceAdd, Nat.reduceMul, Nat.reduceEqDiff, Nat.reduceLeDiff, Nat.zero_le, List.length_nil, List.length_cons, Nat.zero_add, true_or, or_true, false_or, or_false, true_and, and_true, and_self, mb_01, mb_t, mb_f, Option.toList_some, Option.toList_none, List.cons_append, List.nil_append, ix17 hm, b1', cs1, b2, true_implies, not_true_eq_false, not_false_eq_true, false_implies, and_true, true_and]
      rcases rul_tl hm with ⟨u1, u2, u3⟩ | ⟨t2, u1, u2, u3⟩ | ⟨t2, u1, u2, u3⟩
      · have m1 : ((-1 : Int32) < 0) = True := by decide
        rw [u1, List.map_cons, List.map_nil, p1a] at eg
        simp only [u2, c_sop_no, m1, bk_197.2.2.1, mmE, mmE0, mmH, mT, mR, mRf, mAl, mAs, mAz, mAn, Int.reduceToNat, Int32.reduceOfInt, Int64.reduceOfInt, Int.reduceAdd, swE, Nat.reduceDiv, Nat.reduceMod, Nat.reduceAdd, Nat.reduceMul, Nat.reduceEqDiff, Nat.reduceLeDiff, Nat.zero_le, List.length_nil, List.length_cons, Nat.zero_add, true_or, or_true, false_or, or_false, true_and, and_true, and_self, mb_01, mb_t, mb_f, Option.toList_some, Option.toList_none, List.cons_append, List.nil_append, true_implies, not_true_eq_false, not_false_eq_true, false_implies, and_true, true_and]
        exact n12 u3 _ p1 _ _ eg.symm
      · obtain ⟨x1, x2, x3, p2, p2a, p2b, p2c⟩ := pr t2 (tlm t2 (by rw [u1]; exact List.mem_cons_self))
        have s2 := (un_sl p2c).2
        have cs2 := fun (z : mm_S) (d : Nat) => c_sop (z := z) (d := d) (J := J) h7 x3 x1 x2 lnp a2 hp
        rw [p2a, eS] at cs2
        rw [u1, List.map_cons, List.map_cons, List.map_nil, p1a, p2a] at eg
        have eg : g = if V p1 < V p2 then p2 else p1 := eg
        simp only [u2, cs2, c0 p2 p2c, ix4400 s1, ix4400 s2, lva p1 p1b p1c, lva p2 p2b p2c, cl p2 p1 p2b p1b, bk_197.2.2.1, mmE, mmE0, mmH, mT, mR, mRf, mAl, mAs, mAz, mAn, Int.reduceToNat, Int32.reduceOfInt, Int64.reduceOfInt, Int.reduceAdd, swE, Nat.reduceDiv, Nat.reduceMod, Nat.reduceAdd, Nat.reduceMul, Nat.reduceEqDiff, Nat.reduceLeDiff, Nat.zero_le, List.length_nil, List.length_cons, Nat.zero_add, true_or, or_true, false_or, or_false, true_and, and_true, and_self, mb_01, mb_t, mb_f, Option.toList_some, Option.toList_none, List.cons_append, List.nil_append, true_implies, not_true_eq_false, not_false_eq_true, false_implies, and_true, true_and]
        by_cases qq : V p2 ≤ V p1
        · rw [if_neg (by omega)] at eg
          simp only [eq_true qq, true_implies, not_true_eq_false, not_false_eq_true, false_implies, and_true, true_and]
          exact n12 u3 _ p1 _ _ eg.symm
        · rw [if_pos (by omega)] at eg
          simp only [qq, true_implies, not_true_eq_false, not_false_eq_true, false_implies, and_true, true_and]
          exact n12 u3 _ p2 _ _ eg.symm
      · obtain ⟨x1, x2, x3, p2, p2a, p2b, p2c⟩ := pr t2 (tlm t2 (by rw [u1]; exact List.mem_cons_self))
        obtain ⟨y1, y2, y3, p3, p3a, p3b, p3c⟩ := pr (3, 0, 3, 0, 4) (tlm _ (by rw [u1]; exact List.mem_cons_of_mem _ List.mem_cons_self))
        have s2 := (un_sl p2c).2
        have s3 := (un_sl p3c).2
        have cs2 := fun (z : mm_S) (d : Nat) => c_sop (z := z) (d := d) (J := J) h7 x3 x1 x2 lnp a2 hp
        rw [p2a, eS] at cs2
        have cs3 := fun (z : mm_S) (d : Nat) => c_slotBy (z := z) (d := d) (J := J) h7 y3 y1 y2 lnp a2 hp
        rw [p3a, eS] at cs3
        have e30 : nI (cdt (3, 0, 3, 0, 4)) = 30304 := by decide
        rw [e30] at cs3
        rw [u1, List.map_cons, List.map_cons, List.map_cons, List.map_nil, p1a, p2a, p3a] at eg
        have e12 : (nI m = 12) = True := by rw [u3]; exact eq_true rfl
        have y12 : ∀ b o6 o7 a, V b < V f → isF b = true → g = (if V b < V p3 then p3 else b) → mm_at z (mm_call z (d + 6)) (mm_code 197) Q 94 [some (.ref 127), some (.int from0), some (.int (nI (sl f))), some (.int (nI (V f))), some (.int (nI m)), some (.int a), o6, o7] [.int (nI (sl b))] I1 J := by
          intro b o6 o7 a hb1 hb2 hg
          have sb := (un_sl hb2).2
          simp only [bk_197.2.2.2.1, bk_197.2.2.2.2.2.1, bk_197.2.2.2.2.2.2.1, mmE, mmE0, mmH, mT, mR, mRf, mAl, mAs, mAz, mAn, Int.reduceToNat, Int32.reduceOfInt, Int64.reduceOfInt, Int.reduceAdd, swE, Nat.reduceDiv, Nat.reduceMod, Nat.reduceAdd, Nat.reduceMul, Nat.reduceEqDiff, Nat.reduceLeDiff, Nat.zero_le, List.length_nil, List.length_cons, Nat.zero_add, true_or, or_true, false_or, or_false, true_and, and_true, and_self, mb_01, mb_t, mb_f, Option.toList_some, Option.toList_none, List.cons_append, List.nil_append, e12, cs3, c0 p3 p3c, ix4400 sb, ix4400 s3, lva b hb1 hb2, lva p3 p3b p3c, cl p3 b p3b hb1, true_implies, not_true_eq_false, not_false_eq_true, false_implies, and_true, true_and]
          by_cases qq : V p3 ≤ V b
          · rw [if_neg (by omega)] at hg
            simp only [eq_true qq, true_implies, not_true_eq_false, not_false_eq_true, false_implies, and_true, true_and]
            exact end1 _ b _ _ hg.symm
          · rw [if_pos (by omega)] at hg
            simp only [qq, true_implies, not_true_eq_false, not_false_eq_true, false_implies, and_true, true_and]
            exact end1 _ p3 _ _ hg.symm
        have eg : g = (fun b => if V b < V p3 then p3 else b) (if V p1 < V p2 then p2 else p1) := eg
        simp only [u2, cs2, c0 p2 p2c, ix4400 s1, ix4400 s2, lva p1 p1b p1c, lva p2 p2b p2c, cl p2 p1 p2b p1b, bk_197.2.2.1, mmE, mmE0, mmH, mT, mR, mRf, mAl, mAs, mAz, mAn, Int.reduceToNat, Int32.reduceOfInt, Int64.reduceOfInt, Int.reduceAdd, swE, Nat.reduceDiv, Nat.reduceMod, Nat.reduceAdd, Nat.reduceMul, Nat.reduceEqDiff, Nat.reduceLeDiff, Nat.zero_le, List.length_nil, List.length_cons, Nat.zero_add, true_or, or_true, false_or, or_false, true_and, and_true, and_self, mb_01, mb_t, mb_f, Option.toList_some, Option.toList_none, List.cons_append, List.nil_append, true_implies, not_true_eq_false, not_false_eq_true, false_implies, and_true, true_and]
        by_cases qq : V p2 ≤ V p1
        · rw [if_neg (show ¬ V p1 < V p2 by omega)] at eg
          simp only [eq_true qq, true_implies, not_true_eq_false, not_false_eq_true, false_implies, and_true, true_and]
          exact y12 p1 _ _ _ p1b p1c eg
        · rw [if_pos (show V p1 < V p2 by omega)] at eg
          simp only [qq, true_implies, not_true_eq_false, not_false_eq_true, false_implies, and_true, true_and]
          exact y12 p2 _ _ _ p2b p2c eg
theorem repM_K {I I' : mm_I} (h : repM I J s) (f : fK I I') : repM I' J s := by
  have f1 : ∀ k, 127 < k → k ≠ 136 → k ≠ 157 → I' k = I k := fun k hk a b => f.1 k (by omega) a b
  obtain ⟨⟨a1, a2, a3, a4⟩, b, c, e, g, i, j, l, m⟩ := h
  refine ⟨⟨?_, ?_, ?_, ?_⟩, mfigs_c (f1 _ (by decide) (by decide) (by decide)) (f1 _ (by decide) (by decide) (by decide)) (f1 _ (by decide) (by decide) (by decide)) b, ⟨?_, c.2.1, fun i hi => ?_⟩, ⟨?_, e.2⟩, fun r r1 r2 => mrow_c (fun k _ _ => f1 k (by omega) (by omega) (by omega)) (g r r1 r2), fun q => mrow_c (fun k _ _ => f1 k (by omega) (by omega) (by omega)) (i q), ?_, fun q => rmG_c (fun k _ _ => f1 k (by omega) (by omega) (by omega)) (f1 _ (by decide) (by decide) (by decide)) (f.2 _ (by decide)) (f.2 _ (by decide)) (l q), mtab_c (fun k _ _ => f1 k (by omega) (by omega) (by omega)) (fun k _ _ => by rw [f1 k (by omega) (by omega) (by omega)]) m⟩
  · rw [f.2 _ (by decide)]; exact a1
  · rw [f.2 _ (by decide)]; exact a2
  · rw [f.2 _ (by decide)]; exact a3
  · rw [f.2 _ (by decide)]; exact a4
  · rw [f.2 _ (by decide)]; exact c.1
  · rw [f1 _ (by decide) (by decide) (by decide)]; exact c.2.2 i hi
  · rw [f.2 _ (by decide)]; exact e.1
  · rw [f.2 _ (by decide)]; exact j
theorem frM_K {I I' : mm_I} (f : fK I I') : frM I J I' J := fun k hk => ⟨f.1 k (by omega) (by omega) (by omega), rfl⟩
theorem pM_hint {I : mm_I} {x : Int32} (hv : inv s) (h : repM I J s) : mm_call z (d + 9) 195 [.ref 127, .int x] I J (okM I J (o_hint s x)) := by
  obtain ⟨⟨a1, a2, a3, a4⟩, _, _, _, _, hgo, hg, _⟩ := id h
  have v1 := hv.1.1.1
  have hk : ∀ v, okM I J (v, s) (some (.int v)) I J := fun v => ⟨rfl, h, frM_rf⟩
  unfold o_hint
  have e0 : (Int64.ofInt 0 : Int64) = 0 ∧ (Int64.ofInt 5 : Int64) = (nI 6 - 1).toInt64 := by decide
  simp only [ce_195, bk_195.1, bk_195.2.1, bk_195.2.2.1, mmE, mmE0, mmH, mT, mR, mRf, mAl, mAs, mAz, mAn, Int.reduceToNat, Int32.reduceOfInt, Int64.reduceOfInt, Int.reduceAdd, swE, Nat.reduceDiv, Nat.reduceMod, Nat.reduceAdd, Nat.reduceMul, Nat.reduceEqDiff, Nat.reduceLeDiff, Nat.zero_le, List.length_nil, List.length_cons, Nat.zero_add, true_or, or_true, false_or, or_false, true_and, and_true, and_self, mb_01, mb_t, mb_f, Option.toList_some, Option.toList_none, List.cons_append, List.nil_append, c_in, e0, in_np (show 6 ≤ 10000 by omega), mb_0, hg, a4]
  cases ei : inN 6 x with
  | false =>
    simp only [true_implies, not_true_eq_false, not_false_eq_true, false_implies, and_true, true_and, Bool.false_eq_true, if_false]
    exact hk _
  | true =>
    cases eg : sGd s with
    | false =>
      simp only [true_implies, not_true_eq_false, not_false_eq_true, false_implies, and_true, true_and, Bool.false_eq_true, Bool.true_eq_false, if_true, if_false]
      exact hk _
    | true =>
      cases eh : sHg s with
      | false =>
        simp only [true_implies, not_true_eq_false, not_false_eq_true, false_implies, and_true, true_and, Bool.false_eq_true, Bool.true_eq_false, if_true, if_false]
        exact hk _
      | true =>
        obtain ⟨m, hm, rfl⟩ := inN_t ei
        have hP := (hv.1.2.2.2.2 eh).1
        have gF := isP_F v1 hP
        have sg := (un_sl gF).2
        rw [nI_clamp (show m < 2 ^ 31 by omega)]
        simp only [true_implies, not_true_eq_false, not_false_eq_true, false_implies, and_true, true_and, Bool.true_eq_false, if_true, bk_195.2.2.2.1, mmE, mmE0, mmH, mT, mR, mRf, mAl, mAs, mAz, mAn, Int.reduceToNat, Int32.reduceOfInt, Int64.reduceOfInt, Int.reduceAdd, swE, Nat.reduceDiv, Nat.reduceMod, Nat.reduceAdd, Nat.reduceMul, Nat.reduceEqDiff, Nat.reduceLeDiff, Nat.zero_le, List.length_nil, List.length_cons, Nat.zero_add, true_or, or_true, false_or, or_false, true_and, and_true, and_self, mb_01, mb_t, mb_f]
        refine w_lva hv h eg (fun I1 k1 k2 k3 => ?_)
        have f0 := (k1.2.2.2.2.2.1 eh).2.2.1
        have el := lvm_at gF k3
        have l6 : lvF s (sR s 0).1 ≤ 6 := rt_lvl_6
        have i0 : vp_in (0 : Int32) 41 = True ∧ (0 : Int32).toNatClampNeg = 0 := ix41 (x := 0) (by omega)
        have nm0 : (nI m = 0) = (m = 0) := n0E (by omega)
        have hk1 : ∀ v, okM I J (v, s) (some (.int v)) I1 J := fun v => ⟨rfl, k1, k2⟩
        simp only [bk_195.2.2.2.2.1, bk_195.2.2.2.2.2.1, bk_195.2.2.2.2.2.2.1, bk_195.2.2.2.2.2.2.2.1, mmE, mmE0, mmH, mT, mR, mRf, mAl, mAs, mAz, mAn, Int.reduceToNat, Int32.reduceOfInt, Int64.reduceOfInt, Int.reduceAdd, swE, Nat.reduceDiv, Nat.reduceMod, Nat.reduceAdd, Nat.reduceMul, Nat.reduceEqDiff, Nat.reduceLeDiff, Nat.zero_le, List.length_nil, List.length_cons, Nat.zero_add, true_or, or_true, false_or, or_false, true_and, and_true, and_self, mb_01, mb_t, mb_f, Option.toList_some, Option.toList_none, List.cons_append, List.nil_append, i0, f0, ix4400 sg, el, nm0, true_implies, not_true_eq_false, not_false_eq_true, false_implies, and_true, true_and]
        by_cases q5 : lvF s (sR s 0).1 ≤ 5
        · have eI1 : lvI (lvF s (sR s 0).1) = nI (lvF s (sR s 0).1) := by unfold lvI; rw [if_pos q5]
          have c1 : (nI (lvF s (sR s 0).1) ≤ 0) = (lvF s (sR s 0).1 = 0) := by rw [show (0 : Int32) = nI 0 from rfl, le_nI (by omega) (by omega)]; exact propext (by omega)
          have c2 : (0 ≤ nI (lvF s (sR s 0).1)) = True := by rw [show (0 : Int32) = nI 0 from rfl, le_nI (by omega) (by omega)]; exact eq_true (by omega)
          rw [if_pos (show lvF s (sR s 0).1 < 6 by omega)]
          simp only [c1, c2, eI1, true_implies, not_true_eq_false, not_false_eq_true, false_implies, and_true, true_and]
          by_cases q0 : m = 0
          · simp only [eq_true q0, true_implies, not_true_eq_false, not_false_eq_true, false_implies, and_true, true_and, if_true]
            by_cases ql : lvF s (sR s 0).1 = 0
            · simp only [eq_true ql, true_implies, not_true_eq_false, not_false_eq_true, false_implies, and_true, true_and]
              exact hk1 _
            · simp only [ql, true_implies, not_true_eq_false, not_false_eq_true, false_implies, and_true, true_and]
              exact hk1 _
          · simp only [q0, true_implies, not_true_eq_false, not_false_eq_true, false_implies, and_true, true_and, if_false]
            by_cases ql : lvF s (sR s 0).1 = 0
            · have en : hntF s (sR s 0).1 = none := by unfold hntF; rw [if_pos (Or.inl ql)]
              rw [en]
              simp only [eq_true ql, true_implies, not_true_eq_false, not_false_eq_true, false_implies, and_true, true_and]
              exact hk1 _
            · have en : hntF s (sR s 0).1 = some (hnt (sNp s) (lvF s) 5 (sR s 0).1) := by unfold hntF; rw [if_neg (by omega)]
              rw [en]
              have hO : hOk (sNp s) (lvF s) := hOk_lvl v1
              have tP := hnt_P hO 5 _ hP q5
              have ms1 : msr I1 (sNp s) (lvF s) := ⟨k1.1.1, k3, k1.2.2.2.2.2.2.2.2, v1⟩
              simp only [ql, true_implies, not_true_eq_false, not_false_eq_true, false_implies, and_true, true_and, bk_195.2.2.2.2.2.2.2.2.1, mmE, mmE0, mmH, mT, mR, mRf, mAl, mAs, mAz, mAn, Int.reduceToNat, Int32.reduceOfInt, Int64.reduceOfInt, Int.reduceAdd, swE, Nat.reduceDiv, Nat.reduceMod, Nat.reduceAdd, Nat.reduceMul, Nat.reduceEqDiff, Nat.reduceLeDiff, Nat.zero_le, List.length_nil, List.length_cons, Nat.zero_add, true_or, or_true, false_or, or_false, true_and, and_true, and_self, mb_01, mb_t, mb_f, i0, f0, ce_197, bk_197.1]
              refine w_gd (z := z) (d := d + 1) hO 5 (sR s 0).1 I1 _ _ _ _ _ hP q5 (by omega) ms1 (fun I2 o3 o4 o5 o6 o7 a1' => ?_)
              simp only [bk_197.2.2.2.2.2.2.2.2, mmE, mmE0, mmH, mT, mR, mRf, mAl, mAs, mAz, mAn, Int.reduceToNat, Int32.reduceOfInt, Int64.reduceOfInt, Int.reduceAdd, swE, Nat.reduceDiv, Nat.reduceMod, Nat.reduceAdd, Nat.reduceMul, Nat.reduceEqDiff, Nat.reduceLeDiff, Nat.zero_le, List.length_nil, List.length_cons, Nat.zero_add, true_or, or_true, false_or, or_false, true_and, and_true, and_self, mb_01, mb_t, mb_f]
              refine w_name (z := z) (d := d + 4) v1 tP (by rw [a1' _ (by decide)]; exact ms1.1) (fun I3 b1 b2 => ?_)
              have fk := fK_tr (fK_A a1') b1
              have r3 := repM_K k1 fk
              have fr3 := frM_tr k2 (frM_K fk)
              have e1 : (nI m = 1) = (m = 1) := eq_nI (b := 1) (by omega) (by omega)
              simp only [mmE, mmE0, mmH, mT, mR, mRf, mAl, mAs, mAz, mAn, Int.reduceToNat, Int32.reduceOfInt, Int64.reduceOfInt, Int.reduceAdd, swE, Nat.reduceDiv, Nat.reduceMod, Nat.reduceAdd, Nat.reduceMul, Nat.reduceEqDiff, Nat.reduceLeDiff, Nat.zero_le, List.length_nil, List.length_cons, Nat.zero_add, true_or, or_true, false_or, or_false, true_and, and_true, and_self, mb_01, mb_t, mb_f, Option.toList_some, Option.toList_none, List.cons_append, List.nil_append, e1]
              by_cases q1 : m = 1
              · subst q1
                simp only [true_implies, not_true_eq_false, not_false_eq_true, false_implies, and_true, true_and, bk_195.2.2.2.2.2.2.2.2.2.1, bk_195.2.2.2.2.2.2.2.2.2.2, mmE, mmE0, mmH, mT, mR, mRf, mAl, mAs, mAz, mAn, Int.reduceToNat, Int32.reduceOfInt, Int64.reduceOfInt, Int.reduceAdd, swE, Nat.reduceDiv, Nat.reduceMod, Nat.reduceAdd, Nat.reduceMul, Nat.reduceEqDiff, Nat.reduceLeDiff, Nat.zero_le, List.length_nil, List.length_cons, Nat.zero_add, true_or, or_true, false_or, or_false, true_and, and_true, and_self, mb_01, mb_t, mb_f, b2.1]
                exact ⟨rfl, r3, fr3⟩
              · have es : nI m - 2 = nI (m - 2) := nI_sub (b := 2) (by omega)
                simp only [q1, true_implies, not_true_eq_false, not_false_eq_true, false_implies, and_true, true_and, bk_195.2.2.2.2.2.2.2.2.2.1, bk_195.2.2.2.2.2.2.2.2.2.2, mmE, mmE0, mmH, mT, mR, mRf, mAl, mAs, mAz, mAn, Int.reduceToNat, Int32.reduceOfInt, Int64.reduceOfInt, Int.reduceAdd, swE, Nat.reduceDiv, Nat.reduceMod, Nat.reduceAdd, Nat.reduceMul, Nat.reduceEqDiff, Nat.reduceLeDiff, Nat.zero_le, List.length_nil, List.length_cons, Nat.zero_add, true_or, or_true, false_or, or_false, true_and, and_true, and_self, mb_01, mb_t, mb_f, es, ix4 (show m - 2 < 4 by omega), b2.2 (m - 2) (by omega)]
                refine ⟨?_, r3, fr3⟩
                show some (Value.int _) = some (Value.int (if m = 1 then _ else _))
                rw [if_neg q1]
        · have en : hntF s (sR s 0).1 = none := by unfold hntF; rw [if_pos (Or.inr (by omega))]
          have eI1 : lvI (lvF s (sR s 0).1) = -5 := by unfold lvI; rw [if_neg q5]
          have c1 : ((-1 : Int32) ≤ 0) = True := by decide
          have c2 : (0 ≤ (-1 : Int32)) = False := by decide
          rw [if_neg (show ¬ lvF s (sR s 0).1 < 6 by omega), en, eI1]
          simp only [c1, c2, true_implies, not_true_eq_false, not_false_eq_true, false_implies, and_true, true_and]
          by_cases q0 : m = 0
          · simp only [eq_true q0, true_implies, not_true_eq_false, not_false_eq_true, false_implies, and_true, true_and, if_true]
            exact hk1 _
          · simp only [q0, true_implies, not_true_eq_false, not_false_eq_true, false_implies, and_true, true_and, if_false]
            exact hk1 _
end MD
