/-! the reference's levels -/
theorem lal_dg {np m : Nat} {l : List Nat} (hm : m < 17) (hnp : 0 < np) : lal np m l ↔ ∃ i j, i < np ^ mF m ∧ j < np ^ (ltr m - mF m) ∧ l = dg np (mF m) i ++ dg np (ltr m - mF m) j := by
  have h2 : mF m ≤ ltr m := (tm_1d m hm).2.1
  constructor
  · rintro ⟨a, b⟩
    obtain ⟨i, i1, i2⟩ := dg_all hnp (l.take (mF m)) (fun x hx => b x (List.mem_of_mem_take hx))
    obtain ⟨j, j1, j2⟩ := dg_all hnp (l.drop (mF m)) (fun x hx => b x (List.mem_of_mem_drop hx))
    have e1 : (l.take (mF m)).length = mF m := by rw [List.length_take]; omega
    have e2 : (l.drop (mF m)).length = ltr m - mF m := by rw [List.length_drop]; omega
    rw [e1] at i1 i2
    rw [e2] at j1 j2
    exact ⟨i, j, i1, j1, by rw [i2, j2, List.take_append_drop]⟩
  · rintro ⟨i, j, _, _, rfl⟩
    refine ⟨by rw [List.length_append, dg_len, dg_len]; omega, fun x hx => ?_⟩
    rcases List.mem_append.mp hx with q | q
    · exact dg_lt hnp _ _ x q
    · exact dg_lt hnp _ _ x q
section ML2
variable {z : mm_S} {d : Nat} {J : mm_J} {np to m : Nat} {V : Nat → Nat} {Q : Option Value → mm_I → mm_J → Prop}
theorem w_ms_out (hm : m < 17) (hto : to ≤ 5) : ∀ (w i : Nat) (I : mm_I) (P : List Nat → Prop) (o6 o7 : Option Value), i + w = np ^ mF m → mpt I np → rm_lv I (wS V to m P) → (∀ I', frV I I' → rm_lv I' (wS V to m fun l => P l ∨ ∃ i' j', i ≤ i' ∧ i' < np ^ mF m ∧ j' < np ^ (ltr m - mF m) ∧ l = dg np (mF m) i' ++ dg np (ltr m - mF m) j') → Q none I' J) → mm_at z (mm_call z (d + 5)) (mm_code 184) Q 33 [some (.ref 127), some (.int (nI m)), some (.int (nI to)), some (.int (nI (np ^ mF m))), some (.int (nI (np ^ (ltr m - mF m)))), some (.int (nI i)), o6, o7] [] I J
  | 0, i, I, P, o6, o7, hi, h, hV, K => by
    obtain ⟨d1, d2, d3, d4, d5⟩ := tm_1d m hm
    have pr := p2401 h.2.2 (show mF m ≤ 4 from d4)
    rw [hk_184_33]
    have c1 : (nI (np ^ mF m) ≤ nI i) = True := by rw [le_nI (by omega) (by omega)]; exact eq_true (by omega)
    simp only [bk_184.2.2.2.2, mmE, mmE0, mmH, mT, mR, mRf, mAl, mAs, mAz, mAn, Int.reduceToNat, Int32.reduceOfInt, Int64.reduceOfInt, Int.reduceAdd, swE, Nat.reduceDiv, Nat.reduceMod, Nat.reduceAdd, Nat.reduceMul, Nat.reduceEqDiff, Nat.reduceLeDiff, Nat.zero_le, List.length_nil, List.length_cons, Nat.zero_add, true_or, or_true, false_or, or_false, true_and, and_true, and_self, mb_01, mb_t, mb_f, c1, true_implies, not_true_eq_false, not_false_eq_true, false_implies, and_true, true_and]
    refine K I frV_rf ?_
    rw [wS_P (P' := P)]
    · exact hV
    · intro l
      constructor
      · rintro (q | ⟨i', j', a, b, _⟩)
        · exact q
        · omega
      · exact Or.inl
  | w + 1, i, I, P, o6, o7, hi, h, hV, K => by
    obtain ⟨d1, d2, d3, d4, d5⟩ := tm_1d m hm
    obtain ⟨t1, t2, t3, t4, t5, k7, l6⟩ := tb_rul hm
    obtain ⟨hp, ht, hn7⟩ := id h
    have eF : mF m = mtF.getD m 0 := rfl
    have pr := p2401 hn7 (show mF m ≤ 4 from d4)
    have hnp : 0 < np := by
      rcases Nat.eq_zero_or_pos np with q | q
      · exfalso
        rw [q, Nat.zero_pow (by omega)] at hi
        omega
      · exact q
    have ix17 : vp_in (nI m) 17 = True ∧ (nI m).toNatClampNeg = m := ⟨eq_true (vp_in_nI hm (by decide)), nI_clamp (by omega)⟩
    obtain ⟨b1, b2, b3, b4, b5⟩ := ht.1 m hm
    rw [← eF] at b2
    rw [hk_184_33]
    have c1 : (nI (np ^ mF m) ≤ nI i) = False := by rw [le_nI (by omega) (by omega)]; exact eq_false (by omega)
    simp only [mmE, mmE0, mmH, mT, mR, mRf, mAl, mAs, mAz, mAn, Int.reduceToNat, Int32.reduceOfInt, Int64.reduceOfInt, Int.reduceAdd, swE, Nat.reduceDiv, Nat.reduceMod, Nat.reduceAdd, Nat.reduceMul, Nat.reduceEqDiff, Nat.reduceLeDiff, Nat.zero_le, List.length_nil, List.length_cons, Nat.zero_add, true_or, or_true, false_or, or_false, true_and, and_true, and_self, mb_01, mb_t, mb_f, c1, ix17, b2, true_implies, not_true_eq_false, not_false_eq_true, false_implies, and_true, true_and]
    refine w_assign (a := 0) (b := mF m) hnp hn7 (by omega) (by omega) (by omega) hp (fun I1 g1 g2 g3 => ?_)
    have h1 := mpt_fr h (frV_A g1)
    obtain ⟨hp1', ht1, _⟩ := id h1
    have hV1 : rm_lv I1 (wS V to m P) := by unfold rm_lv; rw [g1 _ (by decide)]; exact hV
    obtain ⟨e1, e2, e3, e4, e5⟩ := ht1.1 m hm
    have hA1 : mlt I1 (dg np (mF m) i) (mF m) := by
      intro k hk
      have := g3 k (by omega)
      rw [Nat.zero_add] at this
      rw [this]
      rfl
    have m1 := (tm_1a m hm).1
    have p0m := rul_p0 hm
    have cI := fun (z : mm_S) (d : Nat) => c_isHad (z := z) (d := d) (J := J) hn7 (show to ≤ 6 by omega) (rul_k7 hm p0m) (show pw ((rul m).1.getD 0 z0) < mF m by omega) (show pw ((rul m).1.getD 0 z0) < 6 by omega) (fun k _ => ls_dg (np := np) (w := mF m) (n := i) (j := k) hnp) hA1 hp1' hV1
    rw [wS_kV (by omega)] at cI
    simp only [bk_184.2.1, mmE, mmE0, mmH, mT, mR, mRf, mAl, mAs, mAz, mAn, Int.reduceToNat, Int32.reduceOfInt, Int64.reduceOfInt, Int.reduceAdd, swE, Nat.reduceDiv, Nat.reduceMod, Nat.reduceAdd, Nat.reduceMul, Nat.reduceEqDiff, Nat.reduceLeDiff, Nat.zero_le, List.length_nil, List.length_cons, Nat.zero_add, true_or, or_true, false_or, or_false, true_and, and_true, and_self, mb_01, mb_t, mb_f, Option.toList_some, Option.toList_none, List.cons_append, List.nil_append, ix17, e3, m1, cI, mb_0, true_implies, not_true_eq_false, not_false_eq_true, false_implies, and_true, true_and]
    have next : ∀ I' o6 o7, frV I I' → rm_lv I' (wS V to m fun l => P l ∨ ∃ j', 0 ≤ j' ∧ j' < np ^ (ltr m - mF m) ∧ l = dg np (mF m) i ++ dg np (ltr m - mF m) j') → mm_at z (mm_call z (d + 5)) (mm_code 184) Q 147 [some (.ref 127), some (.int (nI m)), some (.int (nI to)), some (.int (nI (np ^ mF m))), some (.int (nI (np ^ (ltr m - mF m)))), some (.int (nI i)), o6, o7] [] I' J := by
      intro I' o6 o7 k1 k2
      simp only [bk_184.2.2.2.1, mmE, mmE0, mmH, mT, mR, mRf, mAl, mAs, mAz, mAn, Int.reduceToNat, Int32.reduceOfInt, Int64.reduceOfInt, Int.reduceAdd, swE, Nat.reduceDiv, Nat.reduceMod, Nat.reduceAdd, Nat.reduceMul, Nat.reduceEqDiff, Nat.reduceLeDiff, Nat.zero_le, List.length_nil, List.length_cons, Nat.zero_add, true_or, or_true, false_or, or_false, true_and, and_true, and_self, mb_01, mb_t, mb_f]
      rw [← nI_succ]
      refine w_ms_out hm hto w (i + 1) I' _ o6 o7 (by omega) (mpt_fr h k1) k2 (fun I2 k3 k4 => ?_)
      refine K I2 (frV_tr k1 k3) ?_
      rw [wS_P (P' := fun l => (P l ∨ ∃ j', 0 ≤ j' ∧ j' < np ^ (ltr m - mF m) ∧ l = dg np (mF m) i ++ dg np (ltr m - mF m) j') ∨ ∃ i' j', i + 1 ≤ i' ∧ i' < np ^ mF m ∧ j' < np ^ (ltr m - mF m) ∧ l = dg np (mF m) i' ++ dg np (ltr m - mF m) j')]
      · exact k4
      · intro l
        constructor
        · rintro (q | ⟨i', j', a, b, c, e⟩)
          · exact Or.inl (Or.inl q)
          · by_cases ei : i' = i
            · subst ei
              exact Or.inl (Or.inr ⟨j', Nat.zero_le _, c, e⟩)
            · exact Or.inr ⟨i', j', by omega, b, c, e⟩
        · rintro ((q | ⟨j', _, b, c⟩) | ⟨i', j', a, b, c, e⟩)
          · exact Or.inl q
          · exact Or.inr ⟨i, j', by omega, by omega, b, c⟩
          · exact Or.inr ⟨i', j', by omega, b, c, e⟩
    cases e8 : gkn (kV V to) (rt_f (ls_f (dg np (mF m) i)) ((rul m).1.getD 0 z0)) with
    | false =>
      simp only [true_implies, not_true_eq_false, not_false_eq_true, false_implies, and_true, true_and]
      refine next I1 _ _ (frV_A g1) ?_
      rw [wS_noS]
      · exact hV1
      · rintro l ⟨j, _, _, rfl⟩ f
        rw [gG_hd hm]
        have hlF : (dg np (mF m) i).length = mF m := dg_len _ _
        have e1' : rt_f (ls_f (dg np (mF m) i ++ dg np (ltr m - mF m) j)) ((rul m).1.getD 0 z0) = rt_f (ls_f (dg np (mF m) i)) ((rul m).1.getD 0 z0) := rt_f_c (fun k hk => ls_app (by omega))
        rw [e1', e8, Bool.false_and, Bool.false_and]
    | true =>
      simp only [Bool.true_eq_false, true_implies, not_true_eq_false, not_false_eq_true, false_implies, and_true, true_and]
      exact w_ms_in (z := z) (d := d) hm hnp hto e8 (np ^ (ltr m - mF m)) 0 I1 P _ (by omega) h1 hV1 hA1 (fun I2 o6 o7 k2 k3 => next I2 o6 o7 (frV_tr (frV_A g1) k2) k3)
theorem w_spr {I : mm_I} (hm : m < 17) (hto : to ≤ 5) (h : mpt I np) (hV : rm_lv I V) (K : ∀ I', frV I I' → rm_lv I' (spR np to V m) → Q none I' J) : mm_call z (d + 6) 184 [.ref 127, .int (nI m), .int (nI to)] I J Q := by
  obtain ⟨d1, d2, d3, d4, d5⟩ := tm_1d m hm
  obtain ⟨hp, ht, hn7⟩ := id h
  have eF : mF m = mtF.getD m 0 := rfl
  obtain ⟨b1, b2, b3, b4, b5⟩ := ht.1 m hm
  have l6 := (tb_rul hm).2.2.2.2.2.2
  rw [d1] at b1
  rw [← eF] at b2
  have ix17 : vp_in (nI m) 17 = True ∧ (nI m).toNatClampNeg = m := ⟨eq_true (vp_in_nI hm (by decide)), nI_clamp (by omega)⟩
  have es : nI (ltr m) - nI (mF m) = nI (ltr m - mF m) := nI_sub (by omega)
  simp only [ce_184, bk_184.1, mmE, mmE0, mmH, mT, mR, mRf, mAl, mAs, mAz, mAn, Int.reduceToNat, Int32.reduceOfInt, Int64.reduceOfInt, Int.reduceAdd, swE, Nat.reduceDiv, Nat.reduceMod, Nat.reduceAdd, Nat.reduceMul, Nat.reduceEqDiff, Nat.reduceLeDiff, Nat.zero_le, List.length_nil, List.length_cons, Nat.zero_add, true_or, or_true, false_or, or_false, true_and, and_true, and_self, mb_01, mb_t, mb_f, Option.toList_some, Option.toList_none, List.cons_append, List.nil_append, ix17, b1, b2, es, c_power (show mF m ≤ 10 by omega) hp, c_power (show ltr m - mF m ≤ 10 by omega) hp, true_implies, not_true_eq_false, not_false_eq_true, false_implies, and_true, true_and]
  refine w_ms_out (z := z) (d := d) (V := V) hm hto (np ^ mF m) 0 I (fun _ => False) _ _ (by omega) h (by rw [wS_0 (fun _ q => q)]; exact hV) (fun I1 g1 g2 => ?_)
  refine K I1 g1 ?_
  unfold spR
  rw [wS_P (P' := fun l => False ∨ ∃ i' j', 0 ≤ i' ∧ i' < np ^ mF m ∧ j' < np ^ (ltr m - mF m) ∧ l = dg np (mF m) i' ++ dg np (ltr m - mF m) j')]
  · exact g2
  · intro l
    rcases Nat.eq_zero_or_pos np with q | q
    · constructor
      · rintro ⟨a, b⟩
        exfalso
        have hL : ltr m = pw (rul m).2 + 1 := rfl
        match l, a with
        | x :: r, a =>
          have := b x List.mem_cons_self
          omega
        | [], a =>
          have : (0 : Nat) = ltr m := a
          omega
      · rintro (w | ⟨i, j, _, a, _⟩)
        · exact w.elim
        · rw [q, Nat.zero_pow (by omega)] at a
          omega
    · rw [lal_dg hm q]
      constructor
      · rintro ⟨i, j, a, b, c⟩
        exact Or.inr ⟨i, j, Nat.zero_le _, a, b, c⟩
      · rintro (w | ⟨i, j, _, a, b, c⟩)
        · exact w.elim
        · exact ⟨i, j, a, b, c⟩
theorem w_su_in {most n : Nat} (hn : n ≤ 5) : ∀ (w r : Nat) (I : mm_I) (V : Nat → Nat), r + w = 17 → mpt I np → rm_lv I V → (∀ I' o3, frV I I' → rm_lv I' ((List.range' r w).foldl (spR np n) V) → mm_at z (mm_call z (d + 6)) (mm_code 183) Q 27 [some (.ref 127), some (.int (nI most)), some (.int (nI n)), o3] [] I' J) → mm_at z (mm_call z (d + 6)) (mm_code 183) Q 9 [some (.ref 127), some (.int (nI most)), some (.int (nI n)), some (.int (nI r))] [] I J
  | 0, r, I, V, hr, h, hV, K => by
    rw [hk_183_9]
    have c1 : (17 ≤ nI r) = True := by rw [show (17 : Int32) = nI 17 from rfl, le_nI (by omega) (by omega)]; exact eq_true (by omega)
    simp only [mmE, mmE0, mmH, mT, mR, mRf, mAl, mAs, mAz, mAn, Int.reduceToNat, Int32.reduceOfInt, Int64.reduceOfInt, Int.reduceAdd, swE, Nat.reduceDiv, Nat.reduceMod, Nat.reduceAdd, Nat.reduceMul, Nat.reduceEqDiff, Nat.reduceLeDiff, Nat.zero_le, List.length_nil, List.length_cons, Nat.zero_add, true_or, or_true, false_or, or_false, true_and, and_true, and_self, mb_01, mb_t, mb_f, c1, true_implies, not_true_eq_false, not_false_eq_true, false_implies, and_true, true_and]
    exact K I _ frV_rf hV
  | w + 1, r, I, V, hr, h, hV, K => by
    rw [hk_183_9]
    have c1 : (17 ≤ nI r) = False := by rw [show (17 : Int32) = nI 17 from rfl, le_nI (by omega) (by omega)]; exact eq_false (by omega)
    simp only [mmE, mmE0, mmH, mT, mR, mRf, mAl, mAs, mAz, mAn, Int.reduceToNat, Int32.reduceOfInt, Int64.reduceOfInt, Int.reduceAdd, swE, Nat.reduceDiv, Nat.reduceMod, Nat.reduceAdd, Nat.reduceMul, Nat.reduceEqDiff, Nat.reduceLeDiff, Nat.zero_le, List.length_nil, List.length_cons, Nat.zero_add, true_or, or_true, false_or, or_false, true_and, and_true, and_self, mb_01, mb_t, mb_f, c1, true_implies, not_true_eq_false, not_false_eq_true, false_implies, and_true, true_and]
    refine w_spr (show r < 17 by omega) hn h hV (fun I1 g1 g2 => ?_)
    simp only [mmE, mmE0, mmH, mT, mR, mRf, mAl, mAs, mAz, mAn, Int.reduceToNat, Int32.reduceOfInt, Int64.reduceOfInt, Int.reduceAdd, swE, Nat.reduceDiv, Nat.reduceMod, Nat.reduceAdd, Nat.reduceMul, Nat.reduceEqDiff, Nat.reduceLeDiff, Nat.zero_le, List.length_nil, List.length_cons, Nat.zero_add, true_or, or_true, false_or, or_false, true_and, and_true, and_self, mb_01, mb_t, mb_f, Option.toList_some, Option.toList_none, List.cons_append, List.nil_append]
    rw [← nI_succ]
    refine w_su_in hn w (r + 1) I1 _ (by omega) (mpt_fr h g1) g2 (fun I2 o3 k1 k2 => ?_)
    rw [List.range'_succ, List.foldl_cons] at K
    exact K I2 o3 (frV_tr g1 k1) k2
theorem w_su_out {most : Nat} (hm5 : most ≤ 5) : ∀ (w n : Nat) (I : mm_I) (V : Nat → Nat) (o3 : Option Value), 1 ≤ n → n + w = most + 1 → mpt I np → rm_lv I V → (∀ I', frV I I' → rm_lv I' ((List.range' n w).foldl (fun V n => spL np n V) V) → Q none I' J) → mm_at z (mm_call z (d + 6)) (mm_code 183) Q 2 [some (.ref 127), some (.int (nI most)), some (.int (nI n)), o3] [] I J
  | 0, n, I, V, o3, h1, hn, h, hV, K => by
    rw [hk_183_2]
    have c1 : (nI most < nI n) = True := by rw [lt_nI (by omega) (by omega)]; exact eq_true (by omega)
    simp only [bk_183.2.2, mmE, mmE0, mmH, mT, mR, mRf, mAl, mAs, mAz, mAn, Int.reduceToNat, Int32.reduceOfInt, Int64.reduceOfInt, Int.reduceAdd, swE, Nat.reduceDiv, Nat.reduceMod, Nat.reduceAdd, Nat.reduceMul, Nat.reduceEqDiff, Nat.reduceLeDiff, Nat.zero_le, List.length_nil, List.length_cons, Nat.zero_add, true_or, or_true, false_or, or_false, true_and, and_true, and_self, mb_01, mb_t, mb_f, c1, true_implies, not_true_eq_false, not_false_eq_true, false_implies, and_true, true_and]
    exact K I frV_rf hV
  | w + 1, n, I, V, o3, h1, hn, h, hV, K => by
    rw [hk_183_2]
    have c1 : (nI most < nI n) = False := by rw [lt_nI (by omega) (by omega)]; exact eq_false (by omega)
    simp only [mmE, mmE0, mmH, mT, mR, mRf, mAl, mAs, mAz, mAn, Int.reduceToNat, Int32.reduceOfInt, Int64.reduceOfInt, Int.reduceAdd, swE, Nat.reduceDiv, Nat.reduceMod, Nat.reduceAdd, Nat.reduceMul, Nat.reduceEqDiff, Nat.reduceLeDiff, Nat.zero_le, List.length_nil, List.length_cons, Nat.zero_add, true_or, or_true, false_or, or_false, true_and, and_true, and_self, mb_01, mb_t, mb_f, c1, true_implies, not_true_eq_false, not_false_eq_true, false_implies, and_true, true_and]
    refine w_su_in (z := z) (d := d) (show n ≤ 5 by omega) 17 0 I V rfl h hV (fun I1 o3 g1 g2 => ?_)
    simp only [bk_183.2.1, mmE, mmE0, mmH, mT, mR, mRf, mAl, mAs, mAz, mAn, Int.reduceToNat, Int32.reduceOfInt, Int64.reduceOfInt, Int.reduceAdd, swE, Nat.reduceDiv, Nat.reduceMod, Nat.reduceAdd, Nat.reduceMul, Nat.reduceEqDiff, Nat.reduceLeDiff, Nat.zero_le, List.length_nil, List.length_cons, Nat.zero_add, true_or, or_true, false_or, or_false, true_and, and_true, and_self, mb_01, mb_t, mb_f]
    rw [← nI_succ]
    refine w_su_out hm5 w (n + 1) I1 _ o3 (by omega) (by omega) (mpt_fr h g1) g2 (fun I2 k1 k2 => ?_)
    rw [List.range'_succ, List.foldl_cons] at K
    exact K I2 (frV_tr g1 k1) k2
theorem lvN_fold {np : Nat} {S0 : Nat → Prop} : ∀ (w n : Nat), n + w ≤ 5 → (List.range' (n + 1) w).foldl (fun V n => spL np n V) (lvN np S0 n) = lvN np S0 (n + w)
  | 0, n, _ => rfl
  | w + 1, n, h => by
    rw [List.range'_succ, List.foldl_cons, lvN_S (by omega), lvN_fold w (n + 1) (by omega)]
    congr 1
    omega
theorem w_spreadUpTo {I : mm_I} {most : Nat} {S0 : Nat → Prop} (hm5 : most ≤ 5) (h : mpt I np) (hV : rm_lv I (lvN np S0 0)) (K : ∀ I', frV I I' → rm_lv I' (lvN np S0 most) → Q none I' J) : mm_call z (d + 7) 183 [.ref 127, .int (nI most)] I J Q := by
  simp only [ce_183, bk_183.1, mmE, mmE0, mmH, mT, mR, mRf, mAl, mAs, mAz, mAn, Int.reduceToNat, Int32.reduceOfInt, Int64.reduceOfInt, Int.reduceAdd, swE, Nat.reduceDiv, Nat.reduceMod, Nat.reduceAdd, Nat.reduceMul, Nat.reduceEqDiff, Nat.reduceLeDiff, Nat.zero_le, List.length_nil, List.length_cons, Nat.zero_add, true_or, or_true, false_or, or_false, true_and, and_true, and_self, mb_01, mb_t, mb_f]
  refine w_su_out (z := z) (d := d) hm5 most 1 I _ _ (by omega) (by omega) h hV (fun I1 g1 g2 => ?_)
  have e := lvN_fold (np := np) (S0 := S0) most 0 (by omega)
  rw [Nat.zero_add, Nat.zero_add] at e
  rw [e] at g2
  exact K I1 g1 g2
end ML2
