/-! the class's reader: reasons -/
section RS
variable {z : mm_S} {d : Nat} {I : mm_I} {J : mm_J} {T : Nat → Nat} {n lg np : Nat} {W : Nat → Nat → List Nat} {Q : Option Value → mm_I → mm_J → Prop}
theorem w_addOf {f re m : Nat} {ru : Int32} {os : List Nat} (hl : os.length < 6) (h : rC_row I 110 (f, re, ru, os)) (k : ∀ I', rC_row I' 110 (f, re, ru, os ++ [m]) → (∀ k, k ≠ 110 → k ≠ 111 → I' k = I k) → Q none I' J) : mm_call z (d + 1) 64 [.ref 110, .int (nI m)] I J Q := by
  obtain ⟨h1, h2, h3, h4, h5⟩ := h
  have h4' : I 110 3 = nI os.length := h4
  have c1 : (nI os.length < 6) = True := eq_true (nI_lt (b := 6) hl (by decide))
  have c2 : vp_in (nI os.length) 6 = True := eq_true (vp_in_nI hl (by decide))
  have c3 : (nI os.length).toNatClampNeg = os.length := nI_clamp (by omega)
  have c4 : mm_wI I 111 os.length (nI m) 110 3 = nI os.length := by rw [mWI, if_neg (by decide)]; exact h4
  simp only [ce_64, bk_64, mmE, mmE0, mmH, mT, mR, mRf, mAl, mAs, mAz, mAn, Int.reduceToNat, Int32.reduceOfInt, Int64.reduceOfInt, Int.reduceAdd, swE, Nat.reduceDiv, Nat.reduceMod, Nat.reduceAdd, Nat.reduceMul, Nat.reduceEqDiff, Nat.reduceLeDiff, Nat.zero_le, List.length_nil, List.length_cons, Nat.zero_add, true_or, or_true, false_or, or_false, true_and, and_true, and_self, mb_01, mb_t, mb_f, h4', nneg (show os.length < 2 ^ 31 by omega), c1, c2, c3, c4, true_implies, not_true_eq_false, not_false_eq_true, false_implies, and_true, true_and]
  refine k _ ⟨?_, ?_, ?_, ?_, fun q hq => ?_⟩ (fun c q1 q2 => ?_)
  · rw [mWI, if_pos rfl, if_neg (by decide), mWI, if_neg (by decide)]; exact h1
  · rw [mWI, if_pos rfl, if_neg (by decide), mWI, if_neg (by decide)]; exact h2
  · rw [mWI, if_pos rfl, if_neg (by decide), mWI, if_neg (by decide)]; exact h3
  · rw [mWI, if_pos rfl, if_pos rfl]
    show _ = nI (os ++ [m]).length
    rw [List.length_append, ← nI_succ]
    rfl
  · have hq : q < (os ++ [m]).length := hq
    rw [List.length_append] at hq
    have hq : q < os.length + 1 := hq
    rw [mWI, if_neg (by decide), mWI, if_pos rfl]
    show _ = nI ((os ++ [m]).getD q 0)
    by_cases e : q = os.length
    · rw [if_pos e, e, List.getD_eq_getElem?_getD, List.getElem?_append_right (Nat.le_refl _), Nat.sub_self]
      rfl
    · rw [if_neg e, List.getD_eq_getElem?_getD, List.getElem?_append_left (by omega), ← List.getD_eq_getElem?_getD]
      exact h5 q (by show q < os.length; omega)
  · funext x
    rw [mWI, if_neg q1, mWI, if_neg q2]
theorem rC_fr {I' : mm_I} {x : rw_T} {c : Nat} (h : rC_row I c x) (e1 : I' c = I c) (e2 : I' (c + 1) = I (c + 1)) : rC_row I' c x := by
  unfold rC_row
  rw [e1, e2]
  exact h
theorem w_ofs {f m : Nat} : ∀ (w : Nat) (os : List Nat) (i : Nat) (I : mm_I) (J : mm_J), os.length + w = 6 → i ≤ n → enC I J T n lg W np → I 104 2 = nI i → rC_row I 110 (f, 3, nI m, os) → (match rdO T n m w os i with
    | .error p => ∀ I' J', rd_fr I J I' J' → Q (some (.int (nI p))) I' J'
    | .ok x => ∀ I' J', rd_fr I J I' J' → rC_row I' 110 (f, x) → Q (some (.int (-1))) I' J') → mm_at z (mm_call z (d + 3)) (mm_code 61) Q 2 [some (.ref 108), some (.int (nI os.length))] [] I J
  | 0, os, i, I, J, hw, hi, h, hat, hr, K => by
    rw [hk_61_2]
    have c1 : (6 ≤ nI os.length) = True := by rw [show (6 : Int32) = nI 6 from rfl, le_nI (by omega) (by omega)]; exact eq_true (by omega)
    simp only [ce_61, bk_61, mmE, mmE0, mmH, mT, mR, mRf, mAl, mAs, mAz, mAn, Int.reduceToNat, Int32.reduceOfInt, Int64.reduceOfInt, Int.reduceAdd, swE, Nat.reduceDiv, Nat.reduceMod, Nat.reduceAdd, Nat.reduceMul, Nat.reduceEqDiff, Nat.reduceLeDiff, Nat.zero_le, List.length_nil, List.length_cons, Nat.zero_add, true_or, or_true, false_or, or_false, true_and, and_true, and_self, mb_01, mb_t, mb_f, c1, true_implies, not_true_eq_false, false_implies, and_true]
    refine w_readEnd (α := Nat) (x := 0) h hi hat (fun I' J' f' f2 => ?_)
    simp only [ce_61, bk_61, mmE, mmE0, mmH, mT, mR, mRf, mAl, mAs, mAz, mAn, Int.reduceToNat, Int32.reduceOfInt, Int64.reduceOfInt, Int.reduceAdd, swE, Nat.reduceDiv, Nat.reduceMod, Nat.reduceAdd, Nat.reduceMul, Nat.reduceEqDiff, Nat.reduceLeDiff, Nat.zero_le, List.length_nil, List.length_cons, Nat.zero_add, true_or, or_true, false_or, or_false, true_and, and_true, and_self, mb_01, mb_t, mb_f, Option.toList_some, List.cons_append, List.nil_append]
    unfold rdO rdE at K
    by_cases q : tk_s (tk_c T n i) = 0
    · rw [if_pos q] at K ⊢
      exact K I' J' f' (rC_fr hr (f2 _ (by decide)) (f2 _ (by decide)))
    · rw [if_neg q] at K ⊢
      exact K I' J' f'
  | w + 1, os, i, I, J, hw, hi, h, hat, hr, K => by
    rw [hk_61_2]
    have c1 : (6 ≤ nI os.length) = False := by rw [show (6 : Int32) = nI 6 from rfl, le_nI (by omega) (by omega)]; exact eq_false (by omega)
    have c2 : (nI os.length ≤ 0) = (os = []) := by
      rw [show (0 : Int32) = nI 0 from rfl, le_nI (by omega) (by omega), ← List.length_eq_zero_iff]
      exact propext (by omega)
    simp only [mmE, mmE0, mmH, mT, mR, mRf, mAl, mAs, mAz, mAn, Int.reduceToNat, Int32.reduceOfInt, Int64.reduceOfInt, Int.reduceAdd, swE, Nat.reduceDiv, Nat.reduceMod, Nat.reduceAdd, Nat.reduceMul, Nat.reduceEqDiff, Nat.reduceLeDiff, Nat.zero_le, List.length_nil, List.length_cons, Nat.zero_add, true_or, or_true, false_or, or_false, true_and, and_true, and_self, mb_01, mb_t, mb_f, c1, true_implies, not_true_eq_false, not_false_eq_true, false_implies, and_true, true_and]
    refine w_nx h hi hat (fun I1 J1 f1 f1' h1 t1 l1 => ?_)
    have hr1 := rC_fr hr (f1' _ (by decide)) (f1' _ (by decide))
    simp only [ce_61, bk_61, mmE, mmE0, mmH, mT, mR, mRf, mAl, mAs, mAz, mAn, Int.reduceToNat, Int32.reduceOfInt, Int64.reduceOfInt, Int.reduceAdd, swE, Nat.reduceDiv, Nat.reduceMod, Nat.reduceAdd, Nat.reduceMul, Nat.reduceEqDiff, Nat.reduceLeDiff, Nat.zero_le, List.length_nil, List.length_cons, Nat.zero_add, true_or, or_true, false_or, or_false, true_and, and_true, and_self, mb_01, mb_t, mb_f, c2, t1.2.2.1, tsE, List.nil_append, Option.toList_none]
    unfold rdO at K
    -- a number, or a fault
    have step : ¬ (os ≠ [] ∧ tk_s (tk_c T n i) = 0) → mm_at z (mm_call z (d + 3)) (mm_code 61) Q 31 [some (.ref 108), some (.int (nI os.length))] [] I1 J1 := by
      intro hno
      rw [if_neg hno] at K
      simp only [bk_61.2.1, bk_61.2.2.1, bk_61.2.2.2.1, bk_61.2.2.2.2, mmE, mmE0, mmH, mT, mR, mRf, mAl, mAs, mAz, mAn, Int.reduceToNat, Int32.reduceOfInt, Int64.reduceOfInt, Int.reduceAdd, swE, Nat.reduceDiv, Nat.reduceMod, Nat.reduceAdd, Nat.reduceMul, Nat.reduceEqDiff, Nat.reduceLeDiff, Nat.zero_le, List.length_nil, List.length_cons, Nat.zero_add, true_or, or_true, false_or, or_false, true_and, and_true, and_self, mb_01, mb_t, mb_f, t1.2.2.1, tsE]
      by_cases q3 : tk_s (tk_c T n i) = 3
      · obtain ⟨v1, v2⟩ := tk_nv (Or.inr q3)
        have hv : J1 104 5 = lN (tk_n (tk_c T n i)) := by rw [t1.2.2.2, v1]
        have e1 : (lN (tk_n (tk_c T n i)) < 1) = (tk_n (tk_c T n i) < 1) := lQ_lt (b := 1) (by omega) (by omega)
        simp only [q3, hv, lc_ge, e1, true_implies, not_true_eq_false, not_false_eq_true, false_implies, and_true, true_and]
        by_cases qn : tk_n (tk_c T n i) < 1
        · rw [if_neg (fun q => by omega)] at K
          simp only [qn, t1.2.1, true_implies, not_true_eq_false, not_false_eq_true, false_implies, and_true, true_and]
          exact K I1 J1 f1
        · rw [if_pos ⟨q3, by omega⟩] at K
          simp only [qn, lN_i, true_implies, not_true_eq_false, not_false_eq_true, false_implies, and_true, true_and]
          refine w_addOf (by omega) hr1 (fun I2 r2 f2 => ?_)
          have f2' : rd_fr I1 J1 I2 J1 := ⟨fun c _ _ c1 c2 => f2 c c1 c2, fun j _ => by rw [f2 _ (by decide) (by decide)], fun _ _ _ _ => rfl⟩
          simp only [bk_61.2.1, bk_61.2.2.1, bk_61.2.2.2.1, bk_61.2.2.2.2, mmE, mmE0, mmH, mT, mR, mRf, mAl, mAs, mAz, mAn, Int.reduceToNat, Int32.reduceOfInt, Int64.reduceOfInt, Int.reduceAdd, swE, Nat.reduceDiv, Nat.reduceMod, Nat.reduceAdd, Nat.reduceMul, Nat.reduceEqDiff, Nat.reduceLeDiff, Nat.zero_le, List.length_nil, List.length_cons, Nat.zero_add, true_or, or_true, false_or, or_false, true_and, and_true, and_self, mb_01, mb_t, mb_f, List.nil_append, Option.toList_none]
          have hl : (os ++ [tk_n (tk_c T n i)]).length = os.length + 1 := by rw [List.length_append]; rfl
          have ih := w_ofs (f := f) (m := m) w (os ++ [tk_n (tk_c T n i)]) (tk_e T n i) I2 J1 (by omega) l1 (enC_fr h1 f2') (by rw [f2 _ (by decide) (by decide)]; exact t1.1) r2
          rw [hl, nI_succ] at ih
          refine ih ?_
          cases e : rdO T n m w (os ++ [tk_n (tk_c T n i)]) (tk_e T n i) with
          | error p =>
            rw [e] at K
            exact fun I' J' f' => K I' J' (rd_tr f1 (rd_tr f2' f'))
          | ok x =>
            rw [e] at K
            exact fun I' J' f' r' => K I' J' (rd_tr f1 (rd_tr f2' f')) r'
      · rw [if_neg (fun q => q3 q.1)] at K
        simp only [q3, t1.2.1, true_implies, not_true_eq_false, not_false_eq_true, false_implies, and_true, true_and]
        exact K I1 J1 f1
    by_cases q0 : os = []
    · have := step (fun q => q.1 q0)
      simp only [bk_61.2.1, bk_61.2.2.1, bk_61.2.2.2.1, bk_61.2.2.2.2, mmE, mmE0, mmH, mT, mR, mRf, mAl, mAs, mAz, mAn, Int.reduceToNat, Int32.reduceOfInt, Int64.reduceOfInt, Int.reduceAdd, swE, Nat.reduceDiv, Nat.reduceMod, Nat.reduceAdd, Nat.reduceMul, Nat.reduceEqDiff, Nat.reduceLeDiff, Nat.zero_le, List.length_nil, List.length_cons, Nat.zero_add, true_or, or_true, false_or, or_false, true_and, and_true, and_self, mb_01, mb_t, mb_f, t1.2.2.1, tsE] at this
      simp only [q0, true_implies, not_true_eq_false, not_false_eq_true, false_implies, and_true, true_and]
      rw [q0] at this
      exact this
    · by_cases q1 : tk_s (tk_c T n i) = 0
      · rw [if_pos ⟨q0, q1⟩] at K
        simp only [q0, q1, true_implies, not_true_eq_false, not_false_eq_true, false_implies, and_true, true_and]
        exact K I1 J1 f1 hr1
      · have := step (fun q => q1 q.2)
        simp only [bk_61.2.1, bk_61.2.2.1, bk_61.2.2.2.1, bk_61.2.2.2.2, mmE, mmE0, mmH, mT, mR, mRf, mAl, mAs, mAz, mAn, Int.reduceToNat, Int32.reduceOfInt, Int64.reduceOfInt, Int.reduceAdd, swE, Nat.reduceDiv, Nat.reduceMod, Nat.reduceAdd, Nat.reduceMul, Nat.reduceEqDiff, Nat.reduceLeDiff, Nat.zero_le, List.length_nil, List.length_cons, Nat.zero_add, true_or, or_true, false_or, or_false, true_and, and_true, and_self, mb_01, mb_t, mb_f, t1.2.2.1, tsE] at this
        simp only [q0, q1, true_implies, not_true_eq_false, not_false_eq_true, false_implies, and_true, true_and]
        exact this
theorem w_rule {i f : Nat} {ru : Int32} (hlg : lg < 2) (hW : rw_W W) (hi : i ≤ n) (h : enC I J T n lg W np) (hat : I 104 2 = nI i) (hr : rC_row I 110 (f, 3, ru, [])) (K : match rdU T n (W lg) i with
    | .error p => ∀ I' J', rd_fr I J I' J' → Q (some (.int (nI p))) I' J'
    | .ok x => ∀ I' J', rd_fr I J I' J' → rC_row I' 110 (f, x) → Q (some (.int (-1))) I' J') : mm_call z (d + 5) 60 [.ref 108] I J Q := by
  simp only [ce_60, bk_60, mmE, mmE0, mmH, mT, mR, mRf, mAl, mAs, mAz, mAn, Int.reduceToNat, Int32.reduceOfInt, Int64.reduceOfInt, Int.reduceAdd, swE, Nat.reduceDiv, Nat.reduceMod, Nat.reduceAdd, Nat.reduceMul, Nat.reduceEqDiff, Nat.reduceLeDiff, Nat.zero_le, List.length_nil, List.length_cons, Nat.zero_add, true_or, or_true, false_or, or_false, true_and, and_true, and_self, mb_01, mb_t, mb_f]
  refine w_nx h hi hat (fun I1 J1 f1 f1' h1 t1 l1 => ?_)
  have hr1 := rC_fr hr (f1' _ (by decide)) (f1' _ (by decide))
  simp only [ce_60, bk_60, mmE, mmE0, mmH, mT, mR, mRf, mAl, mAs, mAz, mAn, Int.reduceToNat, Int32.reduceOfInt, Int64.reduceOfInt, Int.reduceAdd, swE, Nat.reduceDiv, Nat.reduceMod, Nat.reduceAdd, Nat.reduceMul, Nat.reduceEqDiff, Nat.reduceLeDiff, Nat.zero_le, List.length_nil, List.length_cons, Nat.zero_add, true_or, or_true, false_or, or_false, true_and, and_true, and_self, mb_01, mb_t, mb_f, t1.2.2.1, tsE, List.nil_append, Option.toList_none]
  unfold rdU at K
  by_cases q3 : tk_s (tk_c T n i) = 3
  · obtain ⟨v1, v2⟩ := tk_nv (Or.inr q3)
    have hv : J1 104 5 = lN (tk_n (tk_c T n i)) := by rw [t1.2.2.2, v1]
    have e1 : (lN (tk_n (tk_c T n i)) < 17) = (tk_n (tk_c T n i) < 17) := lQ_lt (b := 17) (by omega) (by omega)
    simp only [q3, hv, lc_lt, e1, true_implies, not_true_eq_false, not_false_eq_true, false_implies, and_true, true_and]
    by_cases qn : tk_n (tk_c T n i) < 17
    · rw [if_pos ⟨q3, qn⟩] at K
      simp only [qn, lN_i, true_implies, not_true_eq_false, not_false_eq_true, false_implies, and_true, true_and]
      have fw : rd_fr I1 J1 (mm_wI I1 110 2 (nI (tk_n (tk_c T n i)))) J1 := rd_w (Or.inr (Or.inl rfl))
      have rw1 : rC_row (mm_wI I1 110 2 (nI (tk_n (tk_c T n i)))) 110 (f, 3, nI (tk_n (tk_c T n i)), []) := by
        obtain ⟨r1, r2, r3, r4, r5⟩ := hr1
        refine ⟨?_, ?_, ?_, ?_, fun q hq => by cases hq⟩
        · rw [mWI, if_pos rfl, if_neg (by decide)]; exact r1
        · rw [mWI, if_pos rfl, if_neg (by decide)]; exact r2
        · rw [mWI, if_pos rfl, if_pos rfl]
        · rw [mWI, if_pos rfl, if_neg (by decide)]; exact r4
      refine w_nx (enC_fr h1 fw) l1 (by rw [mWI, if_neg (by decide)]; exact t1.1) (fun I2 J2 f2 f2' h2 t2 l2 => ?_)
      have hr2 := rC_fr rw1 (f2' _ (by decide)) (f2' _ (by decide))
      have f12 := rd_tr f1 (rd_tr fw f2)
      simp only [ce_60, bk_60, mmE, mmE0, mmH, mT, mR, mRf, mAl, mAs, mAz, mAn, Int.reduceToNat, Int32.reduceOfInt, Int64.reduceOfInt, Int.reduceAdd, swE, Nat.reduceDiv, Nat.reduceMod, Nat.reduceAdd, Nat.reduceMul, Nat.reduceEqDiff, Nat.reduceLeDiff, Nat.zero_le, List.length_nil, List.length_cons, Nat.zero_add, true_or, or_true, false_or, or_false, true_and, and_true, and_self, mb_01, mb_t, mb_f, t2.2.2.1, tsE, c_word hlg hW h2 t2, List.nil_append, Option.toList_none, Option.toList_some, List.cons_append]
      by_cases q0 : tk_s (tk_c T n (tk_e T n i)) = 0
      · rw [if_pos q0] at K
        simp only [q0, true_implies, not_true_eq_false, not_false_eq_true, false_implies, and_true, true_and]
        exact K I2 J2 f12 hr2
      · rw [if_neg q0] at K
        simp only [q0, true_implies, not_true_eq_false, not_false_eq_true, false_implies, and_true, true_and]
        have e10 : (eI (rdW T n (W lg) (tk_e T n i)) = 10) = (rdW T n (W lg) (tk_e T n i) = some 10) := by
          cases e : rdW T n (W lg) (tk_e T n i) with
          | none => exact propext ⟨fun q => absurd q (by decide), fun q => by cases q⟩
          | some kk =>
            have kk11 : kk < 11 := by
              unfold rdW at e
              split at e
              · exact (wh_lt e).1
              · cases e
            rw [eI_some, show (10 : Int32) = nI 10 from rfl, eq_nI (by omega) (by omega), Option.some_inj]
        simp only [e10]
        by_cases q10 : rdW T n (W lg) (tk_e T n i) = some 10
        · rw [if_pos q10] at K
          simp only [q10, true_implies, not_true_eq_false, not_false_eq_true, false_implies, and_true, true_and]
          simp only [ce_61, bk_61, mmE, mmE0, mmH, mT, mR, mRf, mAl, mAs, mAz, mAn, Int.reduceToNat, Int32.reduceOfInt, Int64.reduceOfInt, Int.reduceAdd, swE, Nat.reduceDiv, Nat.reduceMod, Nat.reduceAdd, Nat.reduceMul, Nat.reduceEqDiff, Nat.reduceLeDiff, Nat.zero_le, List.length_nil, List.length_cons, Nat.zero_add, true_or, or_true, false_or, or_false, true_and, and_true, and_self, mb_01, mb_t, mb_f]
          refine w_ofs (z := z) (d := d) (f := f) (m := tk_n (tk_c T n i)) 6 [] (tk_e T n (tk_e T n i)) I2 J2 rfl l2 h2 t2.1 hr2 ?_
          cases e : rdO T n (tk_n (tk_c T n i)) 6 [] (tk_e T n (tk_e T n i)) with
          | error p =>
            rw [e] at K
            intro I' J' f'
            simp only [ce_60, bk_60, mmE, mmE0, mmH, mT, mR, mRf, mAl, mAs, mAz, mAn, Int.reduceToNat, Int32.reduceOfInt, Int64.reduceOfInt, Int.reduceAdd, swE, Nat.reduceDiv, Nat.reduceMod, Nat.reduceAdd, Nat.reduceMul, Nat.reduceEqDiff, Nat.reduceLeDiff, Nat.zero_le, List.length_nil, List.length_cons, Nat.zero_add, true_or, or_true, false_or, or_false, true_and, and_true, and_self, mb_01, mb_t, mb_f, Option.toList_some, List.cons_append, List.nil_append]
            exact K I' J' (rd_tr f12 f')
          | ok x =>
            rw [e] at K
            intro I' J' f' r'
            simp only [ce_60, bk_60, mmE, mmE0, mmH, mT, mR, mRf, mAl, mAs, mAz, mAn, Int.reduceToNat, Int32.reduceOfInt, Int64.reduceOfInt, Int.reduceAdd, swE, Nat.reduceDiv, Nat.reduceMod, Nat.reduceAdd, Nat.reduceMul, Nat.reduceEqDiff, Nat.reduceLeDiff, Nat.zero_le, List.length_nil, List.length_cons, Nat.zero_add, true_or, or_true, false_or, or_false, true_and, and_true, and_self, mb_01, mb_t, mb_f, Option.toList_some, List.cons_append, List.nil_append]
            exact K I' J' (rd_tr f12 f') r'
        · rw [if_neg q10] at K
          simp only [q10, t2.2.1, true_implies, not_true_eq_false, not_false_eq_true, false_implies, and_true, true_and]
          exact K I2 J2 f12
    · rw [if_neg (fun q => qn q.2)] at K
      simp only [qn, t1.2.1, true_implies, not_true_eq_false, not_false_eq_true, false_implies, and_true, true_and]
      exact K I1 J1 f1
  · rw [if_neg (fun q => q3 q.1)] at K
    simp only [q3, t1.2.1, true_implies, not_true_eq_false, not_false_eq_true, false_implies, and_true, true_and]
    exact K I1 J1 f1
theorem rC_re {f re : Nat} {ru : Int32} {os : List Nat} (x : Nat) (h : rC_row I 110 (f, re, ru, os)) : rC_row (mm_wI I 110 1 (nI x)) 110 (f, x, ru, os) := by
  obtain ⟨r1, r2, r3, r4, r5⟩ := h
  refine ⟨?_, ?_, ?_, ?_, fun q hq => ?_⟩
  · rw [mWI, if_pos rfl, if_neg (by decide)]; exact r1
  · rw [mWI, if_pos rfl, if_pos rfl]
  · rw [mWI, if_pos rfl, if_neg (by decide)]; exact r3
  · rw [mWI, if_pos rfl, if_neg (by decide)]; exact r4
  · rw [mWI, if_neg (by decide)]; exact r5 q hq
theorem w_reason {i f : Nat} (hlg : lg < 2) (hW : rw_W W) (hi : i ≤ n) (h : enC I J T n lg W np) (hat : I 104 2 = nI i) (hr : rC_row I 110 (f, 0, -5, [])) (K : match rdR T n (W lg) i with
    | .error p => ∀ I' J', rd_fr I J I' J' → Q (some (.int (nI p))) I' J'
    | .ok x => ∀ I' J', rd_fr I J I' J' → rC_row I' 110 (f, x) → Q (some (.int (-1))) I' J') : mm_call z (d + 6) 59 [.ref 108] I J Q := by
  simp only [ce_59, bk_59, mmE, mmE0, mmH, mT, mR, mRf, mAl, mAs, mAz, mAn, Int.reduceToNat, Int32.reduceOfInt, Int64.reduceOfInt, Int.reduceAdd, swE, Nat.reduceDiv, Nat.reduceMod, Nat.reduceAdd, Nat.reduceMul, Nat.reduceEqDiff, Nat.reduceLeDiff, Nat.zero_le, List.length_nil, List.length_cons, Nat.zero_add, true_or, or_true, false_or, or_false, true_and, and_true, and_self, mb_01, mb_t, mb_f]
  refine w_nx h hi hat (fun I1 J1 f1 f1' h1 t1 l1 => ?_)
  have hr1 := rC_fr hr (f1' _ (by decide)) (f1' _ (by decide))
  simp only [bk_59.1, bk_59.2.1, bk_59.2.2.2.2.2, mmE, mmE0, mmH, mT, mR, mRf, mAl, mAs, mAz, mAn, Int.reduceToNat, Int32.reduceOfInt, Int64.reduceOfInt, Int.reduceAdd, swE, Nat.reduceDiv, Nat.reduceMod, Nat.reduceAdd, Nat.reduceMul, Nat.reduceEqDiff, Nat.reduceLeDiff, Nat.zero_le, List.length_nil, List.length_cons, Nat.zero_add, true_or, or_true, false_or, or_false, true_and, and_true, and_self, mb_01, mb_t, mb_f, t1.2.2.1, tsE, c_word hlg hW h1 t1, List.nil_append, Option.toList_none, Option.toList_some, List.cons_append]
  unfold rdR at K
  by_cases q0 : tk_s (tk_c T n i) = 0
  · rw [if_pos q0] at K
    simp only [q0, true_implies, not_true_eq_false, not_false_eq_true, false_implies, and_true, true_and]
    exact K I1 J1 f1 hr1
  rw [if_neg q0] at K
  simp only [q0, true_implies, not_true_eq_false, not_false_eq_true, false_implies, and_true, true_and]
  have eE : ∀ c, c < 11 → (eI (rdW T n (W lg) i) = nI c) = (rdW T n (W lg) i = some c) := by
    intro c hc
    cases e : rdW T n (W lg) i with
    | none =>
      refine propext ⟨fun q => ?_, fun q => by cases q⟩
      have := congrArg Int32.toInt q
      rw [nI_toInt (by omega), show (eI none).toInt = -1 by decide] at this
      omega
    | some kk =>
      have kk11 : kk < 11 := by
        unfold rdW at e
        split at e
        · exact (wh_lt e).1
        · cases e
      rw [eI_some, eq_nI (by omega) (by omega), Option.some_inj]
  have e7 : (eI (rdW T n (W lg) i) = 7) = (rdW T n (W lg) i = some 7) := eE 7 (by omega)
  have e8 : (eI (rdW T n (W lg) i) = 8) = (rdW T n (W lg) i = some 8) := eE 8 (by omega)
  have e9 : (eI (rdW T n (W lg) i) = 9) = (rdW T n (W lg) i = some 9) := eE 9 (by omega)
  simp only [e7, e8, e9]
  have fw : ∀ x, rd_fr I1 J1 (mm_wI I1 110 1 (nI x)) J1 := fun x => rd_w (Or.inr (Or.inl rfl))
  have en : ∀ x, enC (mm_wI I1 110 1 (nI x)) J1 T n lg W np := fun x => enC_fr h1 (fw x)
  have ea : ∀ x, mm_wI I1 110 1 (nI x) 104 2 = nI (tk_e T n i) := fun x => by rw [mWI, if_neg (by decide)]; exact t1.1
  by_cases q7 : rdW T n (W lg) i = some 7
  · rw [if_pos q7] at K
    have e78 : ((some 7 : Option Nat) = some 8) = False ∧ ((some 7 : Option Nat) = some 9) = False := by decide
    simp only [q7, e78, bk_59.2.2.1, mmE, mmE0, mmH, mT, mR, mRf, mAl, mAs, mAz, mAn, Int.reduceToNat, Int32.reduceOfInt, Int64.reduceOfInt, Int.reduceAdd, swE, Nat.reduceDiv, Nat.reduceMod, Nat.reduceAdd, Nat.reduceMul, Nat.reduceEqDiff, Nat.reduceLeDiff, Nat.zero_le, List.length_nil, List.length_cons, Nat.zero_add, true_or, or_true, false_or, or_false, true_and, and_true, and_self, mb_01, mb_t, mb_f, true_implies, not_true_eq_false, not_false_eq_true, false_implies, and_true, true_and]
    refine w_readEnd (α := Nat) (x := 0) (en 1) l1 (ea 1) (fun I' J' f' f2 => ?_)
    simp only [ce_59, bk_59, mmE, mmE0, mmH, mT, mR, mRf, mAl, mAs, mAz, mAn, Int.reduceToNat, Int32.reduceOfInt, Int64.reduceOfInt, Int.reduceAdd, swE, Nat.reduceDiv, Nat.reduceMod, Nat.reduceAdd, Nat.reduceMul, Nat.reduceEqDiff, Nat.reduceLeDiff, Nat.zero_le, List.length_nil, List.length_cons, Nat.zero_add, true_or, or_true, false_or, or_false, true_and, and_true, and_self, mb_01, mb_t, mb_f, Option.toList_some, Option.toList_none, List.cons_append, List.nil_append]
    unfold rdE at K
    by_cases q : tk_s (tk_c T n (tk_e T n i)) = 0
    · rw [if_pos q] at K ⊢
      exact K I' J' (rd_tr f1 (rd_tr (fw 1) f')) (rC_fr (rC_re 1 hr1) (f2 _ (by decide)) (f2 _ (by decide)))
    · rw [if_neg q] at K ⊢
      exact K I' J' (rd_tr f1 (rd_tr (fw 1) f'))
  rw [if_neg q7] at K
  by_cases q8 : rdW T n (W lg) i = some 8
  · rw [if_pos q8] at K
    have e78 : ((some 8 : Option Nat) = some 7) = False ∧ ((some 8 : Option Nat) = some 9) = False := by decide
    simp only [q8, e78, bk_59.2.2.2.1, mmE, mmE0, mmH, mT, mR, mRf, mAl, mAs, mAz, mAn, Int.reduceToNat, Int32.reduceOfInt, Int64.reduceOfInt, Int.reduceAdd, swE, Nat.reduceDiv, Nat.reduceMod, Nat.reduceAdd, Nat.reduceMul, Nat.reduceEqDiff, Nat.reduceLeDiff, Nat.zero_le, List.length_nil, List.length_cons, Nat.zero_add, true_or, or_true, false_or, or_false, true_and, and_true, and_self, mb_01, mb_t, mb_f, true_implies, not_true_eq_false, not_false_eq_true, false_implies, and_true, true_and]
    refine w_readEnd (α := Nat) (x := 0) (en 2) l1 (ea 2) (fun I' J' f' f2 => ?_)
    simp only [ce_59, bk_59, mmE, mmE0, mmH, mT, mR, mRf, mAl, mAs, mAz, mAn, Int.reduceToNat, Int32.reduceOfInt, Int64.reduceOfInt, Int.reduceAdd, swE, Nat.reduceDiv, Nat.reduceMod, Nat.reduceAdd, Nat.reduceMul, Nat.reduceEqDiff, Nat.reduceLeDiff, Nat.zero_le, List.length_nil, List.length_cons, Nat.zero_add, true_or, or_true, false_or, or_false, true_and, and_true, and_self, mb_01, mb_t, mb_f, Option.toList_some, Option.toList_none, List.cons_append, List.nil_append]
    unfold rdE at K
    by_cases q : tk_s (tk_c T n (tk_e T n i)) = 0
    · rw [if_pos q] at K ⊢
      exact K I' J' (rd_tr f1 (rd_tr (fw 2) f')) (rC_fr (rC_re 2 hr1) (f2 _ (by decide)) (f2 _ (by decide)))
    · rw [if_neg q] at K ⊢
      exact K I' J' (rd_tr f1 (rd_tr (fw 2) f'))
  rw [if_neg q8] at K
  by_cases q9 : rdW T n (W lg) i = some 9
  · rw [if_pos q9] at K
    have e78 : ((some 9 : Option Nat) = some 7) = False ∧ ((some 9 : Option Nat) = some 8) = False := by decide
    simp only [q9, e78, bk_59.2.2.2.2.1, mmE, mmE0, mmH, mT, mR, mRf, mAl, mAs, mAz, mAn, Int.reduceToNat, Int32.reduceOfInt, Int64.reduceOfInt, Int.reduceAdd, swE, Nat.reduceDiv, Nat.reduceMod, Nat.reduceAdd, Nat.reduceMul, Nat.reduceEqDiff, Nat.reduceLeDiff, Nat.zero_le, List.length_nil, List.length_cons, Nat.zero_add, true_or, or_true, false_or, or_false, true_and, and_true, and_self, mb_01, mb_t, mb_f, true_implies, not_true_eq_false, not_false_eq_true, false_implies, and_true, true_and]
    refine w_rule hlg hW l1 (en 3) (ea 3) (rC_re 3 hr1) ?_
    cases e : rdU T n (W lg) (tk_e T n i) with
    | error p =>
      rw [e] at K
      intro I' J' f'
      simp only [ce_59, bk_59, mmE, mmE0, mmH, mT, mR, mRf, mAl, mAs, mAz, mAn, Int.reduceToNat, Int32.reduceOfInt, Int64.reduceOfInt, Int.reduceAdd, swE, Nat.reduceDiv, Nat.reduceMod, Nat.reduceAdd, Nat.reduceMul, Nat.reduceEqDiff, Nat.reduceLeDiff, Nat.zero_le, List.length_nil, List.length_cons, Nat.zero_add, true_or, or_true, false_or, or_false, true_and, and_true, and_self, mb_01, mb_t, mb_f, Option.toList_some, Option.toList_none, List.cons_append, List.nil_append]
      exact K I' J' (rd_tr f1 (rd_tr (fw 3) f'))
    | ok x =>
      rw [e] at K
      intro I' J' f' r'
      simp only [ce_59, bk_59, mmE, mmE0, mmH, mT, mR, mRf, mAl, mAs, mAz, mAn, Int.reduceToNat, Int32.reduceOfInt, Int64.reduceOfInt, Int.reduceAdd, swE, Nat.reduceDiv, Nat.reduceMod, Nat.reduceAdd, Nat.reduceMul, Nat.reduceEqDiff, Nat.reduceLeDiff, Nat.zero_le, List.length_nil, List.length_cons, Nat.zero_add, true_or, or_true, false_or, or_false, true_and, and_true, and_self, mb_01, mb_t, mb_f, Option.toList_some, Option.toList_none, List.cons_append, List.nil_append]
      exact K I' J' (rd_tr f1 (rd_tr (fw 3) f')) r'
  rw [if_neg q9] at K
  simp only [q7, q8, q9, t1.2.1, true_implies, not_true_eq_false, not_false_eq_true, false_implies, and_true, true_and]
  exact K I1 J1 f1
end RS
