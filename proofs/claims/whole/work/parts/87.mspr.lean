/-! the reference spreads levels -/
theorem wS_noS {V : Nat → Nat} {to m : Nat} {P P2 : List Nat → Prop} (h : ∀ l, P2 l → ∀ f, gG m f (kV V to) l = false) : wS V to m (fun x => P x ∨ P2 x) = wS V to m P := by
  funext f
  unfold wS
  refine cif_c ⟨fun ⟨a, x, b, c⟩ => ⟨a, x, ?_, c⟩, fun ⟨a, x, b, c⟩ => ⟨a, x, Or.inl b, c⟩⟩
  rcases b with b | b
  · exact b
  · rw [h x b f] at c; cases c
theorem lvs_gup {W : Nat → Nat} {g v t : Nat} (hg : isF g = true) : lvs (gup W g v) t = if t = sl g then v else lvs W t := by
  by_cases q : t = sl g
  · rw [if_pos q, q, lvs_sl hg, gup_at, if_pos rfl]
  · rw [if_neg q]
    unfold lvs
    by_cases q2 : isF (un t) = true ∧ sl (un t) = t
    · rw [if_pos q2, if_pos q2, gup_at, if_neg (fun e => q (by rw [← e]; exact q2.2.symm))]
    · rw [if_neg q2, if_neg q2]
theorem rm_lv_w {I : mm_I} {W : Nat → Nat} {g v : Nat} (hg : isF g = true) (hv : v ≤ 5) (h : rm_lv I W) : rm_lv (mm_wI I 137 (sl g) (nI v)) (gup W g v) := by
  intro t ht
  rw [lvs_gup hg, mWI, if_pos rfl]
  by_cases q : t = sl g
  · rw [if_pos q, if_pos q, if_pos (by omega)]
  · rw [if_neg q, if_neg q]
    exact h t ht
def frV (I I' : mm_I) : Prop := ∀ k, k ≠ 136 → k ≠ 137 → I' k = I k
theorem frV_rf {I : mm_I} : frV I I := fun _ _ _ => rfl
theorem frV_tr {I I' I'' : mm_I} (h : frV I I') (h' : frV I' I'') : frV I I'' := fun k a b => (h' k a b).trans (h k a b)
theorem frV_A {I I' : mm_I} (h : frA I I') : frV I I' := fun k a _ => h k a
def mpt (I : mm_I) (np : Nat) : Prop := I 127 0 = nI np ∧ mtab I ∧ np ≤ 7
theorem mpt_fr {I I' : mm_I} {np : Nat} (h : mpt I np) (g : frV I I') : mpt I' np := by
  obtain ⟨a, c, e⟩ := h
  refine ⟨?_, mtab_c (fun k _ _ => g k (by omega) (by omega)) (fun k _ _ => by rw [g k (by omega) (by omega)]) c, e⟩
  rw [g _ (by decide) (by decide)]; exact a
section SPd
variable {z : mm_S} {d : Nat} {J : mm_J} {np to m : Nat} {V : Nat → Nat} {Q : Option Value → mm_I → mm_J → Prop}
theorem w_ms_in {i : Nat} {many : Int32} (hm : m < 17) (hnp : 0 < np) (hto : to ≤ 5) (hp1 : gkn (kV V to) (rt_f (ls_f (dg np (mF m) i)) ((rul m).1.getD 0 z0)) = true) : ∀ (w j : Nat) (I : mm_I) (P : List Nat → Prop) (o7 : Option Value), j + w = np ^ (ltr m - mF m) → mpt I np → rm_lv I (wS V to m P) → mlt I (dg np (mF m) i) (mF m) → (∀ I' o6 o7, frV I I' → rm_lv I' (wS V to m fun l => P l ∨ ∃ j', j ≤ j' ∧ j' < np ^ (ltr m - mF m) ∧ l = dg np (mF m) i ++ dg np (ltr m - mF m) j') → mm_at z (mm_call z (d + 5)) (mm_code 184) Q 147 [some (.ref 127), some (.int (nI m)), some (.int (nI to)), some (.int many), some (.int (nI (np ^ (ltr m - mF m)))), some (.int (nI i)), o6, o7] [] I' J) → mm_at z (mm_call z (d + 5)) (mm_code 184) Q 72 [some (.ref 127), some (.int (nI m)), some (.int (nI to)), some (.int many), some (.int (nI (np ^ (ltr m - mF m)))), some (.int (nI i)), some (.int (nI j)), o7] [] I J
  | 0, j, I, P, o7, hj, h, hV, hA, K => by
    obtain ⟨d1, d2, d3, d4, d5⟩ := tm_1d m hm
    have pr := p2401 h.2.2 (show ltr m - mF m ≤ 4 by unfold mF; omega)
    rw [hk_184_72]
    have c1 : (nI (np ^ (ltr m - mF m)) ≤ nI j) = True := by rw [le_nI (by omega) (by omega)]; exact eq_true (by omega)
    simp only [mmE, mmE0, mmH, mT, mR, mRf, mAl, mAs, mAz, mAn, Int.reduceToNat, Int32.reduceOfInt, Int64.reduceOfInt, Int.reduceAdd, swE, Nat.reduceDiv, Nat.reduceMod, Nat.reduceAdd, Nat.reduceMul, Nat.reduceEqDiff, Nat.reduceLeDiff, Nat.zero_le, List.length_nil, List.length_cons, Nat.zero_add, true_or, or_true, false_or, or_false, true_and, and_true, and_self, mb_01, mb_t, mb_f, c1, true_implies, not_true_eq_false, not_false_eq_true, false_implies, and_true, true_and]
    refine K I _ _ frV_rf ?_
    rw [wS_P (P' := P)]
    · exact hV
    · intro l
      constructor
      · rintro (q | ⟨j', a, b, _⟩)
        · exact q
        · omega
      · exact Or.inl
  | w + 1, j, I, P, o7, hj, h, hV, hA, K => by
    obtain ⟨d1, d2, d3, d4, d5⟩ := tm_1d m hm
    obtain ⟨t1, t2, t3, t4, t5, k7, l6⟩ := tb_rul hm
    obtain ⟨hp, ht, hn7⟩ := id h
    have eF : mF m = mtF.getD m 0 := rfl
    have pr := p2401 hn7 (show ltr m - mF m ≤ 4 by omega)
    have ix17 : vp_in (nI m) 17 = True ∧ (nI m).toNatClampNeg = m := ⟨eq_true (vp_in_nI hm (by decide)), nI_clamp (by omega)⟩
    obtain ⟨b1, b2, b3, b4, b5⟩ := ht.1 m hm
    rw [d1] at b1
    rw [← eF] at b2
    rw [hk_184_72]
    have c1 : (nI (np ^ (ltr m - mF m)) ≤ nI j) = False := by rw [le_nI (by omega) (by omega)]; exact eq_false (by omega)
    simp only [mmE, mmE0, mmH, mT, mR, mRf, mAl, mAs, mAz, mAn, Int.reduceToNat, Int32.reduceOfInt, Int64.reduceOfInt, Int.reduceAdd, swE, Nat.reduceDiv, Nat.reduceMod, Nat.reduceAdd, Nat.reduceMul, Nat.reduceEqDiff, Nat.reduceLeDiff, Nat.zero_le, List.length_nil, List.length_cons, Nat.zero_add, true_or, or_true, false_or, or_false, true_and, and_true, and_self, mb_01, mb_t, mb_f, c1, ix17, b1, b2, true_implies, not_true_eq_false, not_false_eq_true, false_implies, and_true, true_and]
    refine w_assign (b := ltr m) hnp hn7 (by omega) (by omega) (by omega) hp (fun I1 g1 g2 g3 => ?_)
    have h1 := mpt_fr h (frV_A g1)
    obtain ⟨hp1', ht1, _⟩ := id h1
    have hV1 : rm_lv I1 (wS V to m P) := by unfold rm_lv; rw [g1 _ (by decide)]; exact hV
    obtain ⟨e1, e2, e3, e4, e5⟩ := ht1.1 m hm
    have hlF : (dg np (mF m) i).length = mF m := dg_len _ _
    have hA1 : mlt I1 (dg np (mF m) i ++ dg np (ltr m - mF m) j) (ltr m) := by
      intro k hk
      by_cases q : k < mF m
      · rw [ls_app (by omega), g2 k (by omega)]
        exact hA k q
      · have := g3 (k - mF m) (by omega)
        rw [show mF m + (k - mF m) = k by omega] at this
        rw [this]
        unfold ls_f
        rw [List.getD_eq_getElem?_getD, List.getD_eq_getElem?_getD, List.getElem?_append_right (by omega), hlF]
    have hA1' : mlt I1 (dg np (mF m) i) (mF m) := fun k hk => by rw [g2 k (by omega)]; exact hA k hk
    have hln : ∀ k, k < ltr m → ls_f (dg np (mF m) i ++ dg np (ltr m - mF m) j) k < np := fun k _ => ls_dg2 hnp
    have hL : ltr m = pw (rul m).2 + 1 := rfl
    have m3 := (tm_1a m hm).2
    have cS := fun (z : mm_S) (d : Nat) => c_slotBy (z := z) (d := d) (J := J) (t := (rul m).2) hn7 k7 (show pw (rul m).2 < ltr m by omega) (show pw (rul m).2 < 6 by omega) hln hA1 hp1'
    have cH := fun (z : mm_S) (d : Nat) => c_holdsAll (z := z) (d := d) (J := J) hm hn7 (show to ≤ 6 by omega) hln hA1 hp1' hV1 ht1
    rw [wS_kV (by omega)] at cH
    have e1' : rt_f (ls_f (dg np (mF m) i ++ dg np (ltr m - mF m) j)) ((rul m).1.getD 0 z0) = rt_f (ls_f (dg np (mF m) i)) ((rul m).1.getD 0 z0) := rt_f_c (fun k hk => ls_app (by omega))
    have eG : ∀ f, gG m f (kV V to) (dg np (mF m) i ++ dg np (ltr m - mF m) j) = (((rul m).1.tail.all fun t => gkn (kV V to) (rt_f (ls_f (dg np (mF m) i ++ dg np (ltr m - mF m) j)) t)) && rt_f (ls_f (dg np (mF m) i ++ dg np (ltr m - mF m) j)) (rul m).2 == some f) := by
      intro f
      have := gG_hd (f := f) (kn := kV V to) (l := dg np (mF m) i ++ dg np (ltr m - mF m) j) hm
      rw [e1', hp1, Bool.true_and] at this
      exact this
    -- on with the next letters
    have next : ∀ I' o7, frV I I' → mlt I' (dg np (mF m) i) (mF m) → rm_lv I' (wS V to m fun x => P x ∨ x = dg np (mF m) i ++ dg np (ltr m - mF m) j) → mm_at z (mm_call z (d + 5)) (mm_code 184) Q 141 [some (.ref 127), some (.int (nI m)), some (.int (nI to)), some (.int many), some (.int (nI (np ^ (ltr m - mF m)))), some (.int (nI i)), some (.int (nI j)), o7] [] I' J := by
      intro I' o7 k1 k2 k3
      simp only [bk_184.2.2.1, mmE, mmE0, mmH, mT, mR, mRf, mAl, mAs, mAz, mAn, Int.reduceToNat, Int32.reduceOfInt, Int64.reduceOfInt, Int.reduceAdd, swE, Nat.reduceDiv, Nat.reduceMod, Nat.reduceAdd, Nat.reduceMul, Nat.reduceEqDiff, Nat.reduceLeDiff, Nat.zero_le, List.length_nil, List.length_cons, Nat.zero_add, true_or, or_true, false_or, or_false, true_and, and_true, and_self, mb_01, mb_t, mb_f]
      rw [← nI_succ]
      refine w_ms_in hm hnp hto hp1 w (j + 1) I' _ o7 (by omega) (mpt_fr h k1) k3 k2 (fun I2 o6 o7 k4 k5 => ?_)
      refine K I2 o6 o7 (frV_tr k1 k4) ?_
      rw [wS_P (P' := fun l => (P l ∨ l = dg np (mF m) i ++ dg np (ltr m - mF m) j) ∨ ∃ j', j + 1 ≤ j' ∧ j' < np ^ (ltr m - mF m) ∧ l = dg np (mF m) i ++ dg np (ltr m - mF m) j')]
      · exact k5
      · intro l
        constructor
        · rintro (q | ⟨j', a, b, c⟩)
          · exact Or.inl (Or.inl q)
          · by_cases e : j' = j
            · exact Or.inl (Or.inr (by rw [c, e]))
            · exact Or.inr ⟨j', by omega, b, c⟩
        · rintro ((q | q) | ⟨j', a, b, c⟩)
          · exact Or.inl q
          · exact Or.inr ⟨j, by omega, by omega, q⟩
          · exact Or.inr ⟨j', by omega, b, c⟩
    have noadd : (∀ f, gG m f (kV V to) (dg np (mF m) i ++ dg np (ltr m - mF m) j) = false) → ∀ o7, mm_at z (mm_call z (d + 5)) (mm_code 184) Q 141 [some (.ref 127), some (.int (nI m)), some (.int (nI to)), some (.int many), some (.int (nI (np ^ (ltr m - mF m)))), some (.int (nI i)), some (.int (nI j)), o7] [] I1 J := fun hh o7 => next I1 o7 (frV_A g1) hA1' (by rw [wS_no hh]; exact hV1)
    cases e : rt_f (ls_f (dg np (mF m) i ++ dg np (ltr m - mF m) j)) (rul m).2 with
    | none =>
      rw [e] at cS
      have m1 : (eI (Option.map sl (none : Option Nat)) < 0) = True := by decide
      simp only [mmE, mmE0, mmH, mT, mR, mRf, mAl, mAs, mAz, mAn, Int.reduceToNat, Int32.reduceOfInt, Int64.reduceOfInt, Int.reduceAdd, swE, Nat.reduceDiv, Nat.reduceMod, Nat.reduceAdd, Nat.reduceMul, Nat.reduceEqDiff, Nat.reduceLeDiff, Nat.zero_le, List.length_nil, List.length_cons, Nat.zero_add, true_or, or_true, false_or, or_false, true_and, and_true, and_self, mb_01, mb_t, mb_f, Option.toList_some, Option.toList_none, List.cons_append, List.nil_append, ix17, e5, m3, cS, m1, true_implies, not_true_eq_false, not_false_eq_true, false_implies, and_true, true_and]
      refine noadd (fun f => ?_) _
      rw [eG f, e]
      exact Bool.and_false _
    | some g =>
      rw [e] at cS
      have gF := rul_rt hm (Or.inr rfl) (fun k => by have := ls_dg2 (np := np) (a := mF m) (b := ltr m - mF m) (i := i) (j := j) (k := k) hnp; omega) e
      have sg := (un_sl gF).2
      rw [show eI (Option.map sl (some g)) = nI (sl g) from rfl] at cS
      have hv := hV1 (sl g) sg
      rw [lvs_sl gF] at hv
      have lge : (0 ≤ I1 137 (sl g)) = (wS V to m P g < 6) := by
        rw [hv]
        by_cases q : wS V to m P g < 6
        · rw [if_pos q, show (0 : Int32) = nI 0 from rfl, le_nI (by omega) (by omega)]
          exact propext ⟨fun _ => q, fun _ => Nat.zero_le _⟩
        · rw [if_neg q]
          exact propext ⟨fun w => absurd w (by decide), fun w => absurd w q⟩
      have gne : ∀ f, f ≠ g → gG m f (kV V to) (dg np (mF m) i ++ dg np (ltr m - mF m) j) = false := by
        intro f hf
        rw [eG f, e, show ((some g : Option Nat) == some f) = false from beq_eq_false_iff_ne.mpr (fun q => hf (by injection q with q; exact q.symm))]
        exact Bool.and_false _
      have gGg : gG m g (kV V to) (dg np (mF m) i ++ dg np (ltr m - mF m) j) = ((rul m).1.tail.all fun t => gkn (kV V to) (rt_f (ls_f (dg np (mF m) i ++ dg np (ltr m - mF m) j)) t)) := by
        rw [eG g, e, beq_self_eq_true, Bool.and_true]
      simp only [mmE, mmE0, mmH, mT, mR, mRf, mAl, mAs, mAz, mAn, Int.reduceToNat, Int32.reduceOfInt, Int64.reduceOfInt, Int.reduceAdd, swE, Nat.reduceDiv, Nat.reduceMod, Nat.reduceAdd, Nat.reduceMul, Nat.reduceEqDiff, Nat.reduceLeDiff, Nat.zero_le, List.length_nil, List.length_cons, Nat.zero_add, true_or, or_true, false_or, or_false, true_and, and_true, and_self, mb_01, mb_t, mb_f, Option.toList_some, Option.toList_none, List.cons_append, List.nil_append, ix17, e5, m3, cS, nneg (show sl g < 2 ^ 31 by omega), ix4400 sg, lge, cH, mb_0, true_implies, not_true_eq_false, not_false_eq_true, false_implies, and_true, true_and]
      cases eh : (rul m).1.tail.all fun t => gkn (kV V to) (rt_f (ls_f (dg np (mF m) i ++ dg np (ltr m - mF m) j)) t) with
      | false =>
        rw [eh] at gGg
        have all0 : ∀ f, gG m f (kV V to) (dg np (mF m) i ++ dg np (ltr m - mF m) j) = false := fun f => by
          by_cases q : f = g
          · rw [q]; exact gGg
          · exact gne f q
        by_cases q : wS V to m P g < 6
        · simp only [q, true_implies, not_true_eq_false, not_false_eq_true, false_implies, and_true, true_and]
          exact noadd all0 _
        · simp only [q, true_implies, not_true_eq_false, not_false_eq_true, false_implies, and_true, true_and]
          exact noadd all0 _
      | true =>
        rw [eh] at gGg
        have ad := wS_add (P := P) hto gGg gne
        by_cases q : wS V to m P g < 6
        · simp only [q, true_implies, not_true_eq_false, not_false_eq_true, false_implies, and_true, true_and]
          refine next I1 _ (frV_A g1) hA1' ?_
          rw [ad, if_neg (by omega)]
          exact hV1
        · simp only [q, true_implies, not_true_eq_false, not_false_eq_true, false_implies, and_true, true_and, Bool.true_eq_false]
          refine next _ _ (fun k a b => ?_) (fun k hk => ?_) ?_
          · rw [← g1 k a]
            funext x
            rw [mWI, if_neg b]
          · rw [mWI, if_neg (by decide)]
            exact hA1' k hk
          · rw [ad, if_pos (by omega)]
            exact rm_lv_w gF hto hV1
end SPd
