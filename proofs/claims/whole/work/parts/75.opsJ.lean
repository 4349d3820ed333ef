/-! words are typed: the reference -/
section OJ
variable {z : mm_S} {d : Nat} {I : mm_I} {J : mm_J} {s : st_T} {Q : Option Value → mm_I → mm_J → Prop}
theorem repM_w {I' : mm_I} {J' : mm_J} {W' : Nat → Nat → List Nat} (h : repM I J s) (hI : I' = I) (hw : ∀ l k, l < 2 → k < 11 → J' 139 (11 * l + k) = tk_w (W' l k)) : repM I' J' (uW s W') := by
  subst hI
  obtain ⟨a, b, c, e, g, i, j, l⟩ := h
  exact ⟨a, b, c, ⟨e.1, hw⟩, g, i, j, l⟩
theorem w_wloop {l w : Nat} {cs : List Nat} {W : Nat → Nat → List Nat} {lg : Nat} {g : Int32} (hl : l < 2) (hw : w < 11) (hcs : isW cs) (hW : rw_W W) (h : rw_M I J lg W) (k1 : (∃ k, k < 11 ∧ k ≠ w ∧ W l k = cs) → Q (some (.int (-3))) I J) (k2 : (¬ ∃ k, k < 11 ∧ k ≠ w ∧ W l k = cs) → ∀ o, mm_at z (mm_call z d) (mm_code 145) Q 151 [some (.ref 127), some (.int (nI l)), some (.int (nI w)), some (.int g), some (.long (tk_w cs)), none, o] [] I J) : ∀ (v i : Nat), i + v = 11 → (∀ k, k < i → k ≠ w → W l k ≠ cs) → mm_at z (mm_call z d) (mm_code 145) Q 111 [some (.ref 127), some (.int (nI l)), some (.int (nI w)), some (.int g), some (.long (tk_w cs)), none, some (.int (nI i))] [] I J
  | 0, i, hi, hno => by
    rw [hk_145_111]
    have c1 : (11 ≤ nI i) = True := by rw [show (11 : Int32) = nI 11 from rfl, le_nI (by omega) (by omega)]; exact eq_true (by omega)
    simp only [mmE, mmE0, mmH, mT, mR, mRf, mAl, mAs, mAz, mAn, Int.reduceToNat, Int32.reduceOfInt, Int64.reduceOfInt, Int.reduceAdd, swE, Nat.reduceDiv, Nat.reduceMod, Nat.reduceAdd, Nat.reduceMul, Nat.reduceEqDiff, Nat.reduceLeDiff, Nat.zero_le, List.length_nil, List.length_cons, Nat.zero_add, true_or, or_true, false_or, or_false, true_and, and_true, and_self, mb_01, mb_t, mb_f, c1, true_implies, not_true_eq_false, not_false_eq_true, false_implies, and_true, true_and]
    exact k2 (fun ⟨k, a, b, c⟩ => hno k (by omega) b c) _
  | v + 1, i, hi, hno => by
    rw [hk_145_111]
    have c1 : (11 ≤ nI i) = False := by rw [show (11 : Int32) = nI 11 from rfl, le_nI (by omega) (by omega)]; exact eq_false (by omega)
    have c2 : (nI i = nI w) = (i = w) := eq_nI (by omega) (by omega)
    have ih := w_wloop hl hw hcs hW h k1 k2 v (i + 1) (by omega)
    rw [nI_succ] at ih
    simp only [bk_145.2.2.2.2.2.2.2.2.2.2.2.1, mmE, mmE0, mmH, mT, mR, mRf, mAl, mAs, mAz, mAn, Int.reduceToNat, Int32.reduceOfInt, Int64.reduceOfInt, Int.reduceAdd, swE, Nat.reduceDiv, Nat.reduceMod, Nat.reduceAdd, Nat.reduceMul, Nat.reduceEqDiff, Nat.reduceLeDiff, Nat.zero_le, List.length_nil, List.length_cons, Nat.zero_add, true_or, or_true, false_or, or_false, true_and, and_true, and_self, mb_01, mb_t, mb_f, c1, c2, i11', ix22 (show 11 * l + i < 22 by omega), h.2 l i hl (by omega), lc_ne, wd_m (hW.1 l i hl (by omega)) hcs, true_implies, not_true_eq_false, not_false_eq_true, false_implies, and_true, true_and]
    by_cases q : i = w
    · simp only [eq_true q, true_implies, not_true_eq_false, not_false_eq_true, false_implies, and_true, true_and]
      exact ih (fun k hk hkw => by
        by_cases e : k = i
        · exact absurd (e.trans q) hkw
        · exact hno k (by omega) hkw)
    · by_cases q2 : W l i = cs
      · simp only [q, eq_true q2, true_implies, not_true_eq_false, not_false_eq_true, false_implies, and_true, true_and]
        exact k1 ⟨i, by omega, q, q2⟩
      · simp only [q, q2, true_implies, not_true_eq_false, not_false_eq_true, false_implies, and_true, true_and]
        exact ih (fun k hk hkw => by
          by_cases e : k = i
          · rw [e]; exact q2
          · exact hno k (by omega) hkw)
theorem pM_word {l w : Int32} (hv : va s) (h : repM I J s) : mm_call z (d + 5) 145 [.ref 127, .int l, .int w] I J (okM I J (o_word s l w)) := by
  obtain ⟨⟨a1, a2, a3, a4⟩, _⟩ := id h
  obtain ⟨⟨v1, v2, v3, v4⟩, _, vw, _⟩ := id hv
  have n120 := h.2.2.1.2.1
  unfold o_word
  simp only [ce_145, bk_145.1, bk_145.2.1, mmE, mmE0, mmH, mT, mR, mRf, mAl, mAs, mAz, mAn, Int.reduceToNat, Int32.reduceOfInt, Int64.reduceOfInt, Int.reduceAdd, swE, Nat.reduceDiv, Nat.reduceMod, Nat.reduceAdd, Nat.reduceMul, Nat.reduceEqDiff, Nat.reduceLeDiff, Nat.zero_le, List.length_nil, List.length_cons, Nat.zero_add, true_or, or_true, false_or, or_false, true_and, and_true, and_self, mb_01, mb_t, mb_f, Option.toList_some, Option.toList_none, List.cons_append, List.nil_append, c_in, in_01, in_10, mb_0]
  cases el : inN 2 l with
  | false =>
    simp only [true_implies, not_true_eq_false, not_false_eq_true, false_implies, and_true, true_and, if_false, Bool.false_eq_true]
    exact ⟨rfl, h, frM_rf⟩
  | true =>
    obtain ⟨l, hl, rfl⟩ := inN_t el
    simp only [true_implies, not_true_eq_false, not_false_eq_true, false_implies, and_true, true_and, if_true, Bool.true_eq_false]
    cases ew : inN 11 w with
    | false =>
      simp only [true_implies, not_true_eq_false, not_false_eq_true, false_implies, and_true, true_and, if_false, Bool.false_eq_true]
      exact ⟨rfl, h, frM_rf⟩
    | true =>
      obtain ⟨w, hw, rfl⟩ := inN_t ew
      rw [nI_clamp (show l < 2 ^ 31 by omega), nI_clamp (show w < 2 ^ 31 by omega)]
      simp only [true_implies, not_true_eq_false, not_false_eq_true, false_implies, and_true, true_and, if_true, Bool.true_eq_false, bk_145.2.2.1, mmE, mmE0, mmH, mT, mR, mRf, mAl, mAs, mAz, mAn, Int.reduceToNat, Int32.reduceOfInt, Int64.reduceOfInt, Int.reduceAdd, swE, Nat.reduceDiv, Nat.reduceMod, Nat.reduceAdd, Nat.reduceMul, Nat.reduceEqDiff, Nat.reduceLeDiff, Nat.zero_le, List.length_nil, List.length_cons, Nat.zero_add, true_or, or_true, false_or, or_false, true_and, and_true, and_self, mb_01, mb_t, mb_f]
      refine w_begin (enM_of h) (fun I1 J1 f1 h1 t1 ft1 => ?_)
      have l1 := (tk_le (T := sT s) (n := sN s) (i := 0) (by omega)).2.2
      simp only [bk_145.2.2.2.1, bk_145.2.2.2.2.1, mmE, mmE0, mmH, mT, mR, mRf, mAl, mAs, mAz, mAn, Int.reduceToNat, Int32.reduceOfInt, Int64.reduceOfInt, Int.reduceAdd, swE, Nat.reduceDiv, Nat.reduceMod, Nat.reduceAdd, Nat.reduceMul, Nat.reduceEqDiff, Nat.reduceLeDiff, Nat.zero_le, List.length_nil, List.length_cons, Nat.zero_add, true_or, or_true, false_or, or_false, true_and, and_true, and_self, mb_01, mb_t, mb_f, Option.toList_some, Option.toList_none, List.cons_append, List.nil_append, t1.2.2.1, tsE, t1.2.1, c_fault ft1]
      have e10 : ((1 : Int32) = 0) = False := by decide
      by_cases q1 : tk_s (tk_c (sT s) (sN s) 0) = 1
      · have vx : J1 127 20 = tk_w (tk_c (sT s) (sN s) 0) := t1.2.2.2.1 q1
        simp only [eq_true q1, true_implies, not_true_eq_false, not_false_eq_true, false_implies, and_true, true_and, if_true, bk_145.2.2.2.2.2.1, mmE, mmE0, mmH, mT, mR, mRf, mAl, mAs, mAz, mAn, Int.reduceToNat, Int32.reduceOfInt, Int64.reduceOfInt, Int.reduceAdd, swE, Nat.reduceDiv, Nat.reduceMod, Nat.reduceAdd, Nat.reduceMul, Nat.reduceEqDiff, Nat.reduceLeDiff, Nat.zero_le, List.length_nil, List.length_cons, Nat.zero_add, true_or, or_true, false_or, or_false, true_and, and_true, and_self, mb_01, mb_t, mb_f, vx, e10]
        refine w_tk h1 l1 t1.1 (fun I2 J2 f2 f2' f2'' h2 t2 l2 => ?_)
        have f02 := mr_tr f1 f2
        have ft2 : I2 127 21 = -5 := by rw [f2'' _ (by decide) (by decide) (by decide)]; exact ft1
        simp only [bk_145.2.2.2.2.2.2.1, bk_145.2.2.2.2.2.2.2.1, bk_145.2.2.2.2.2.2.2.2.1, bk_145.2.2.2.2.2.2.2.2.2.1, mmE, mmE0, mmH, mT, mR, mRf, mAl, mAs, mAz, mAn, Int.reduceToNat, Int32.reduceOfInt, Int64.reduceOfInt, Int.reduceAdd, swE, Nat.reduceDiv, Nat.reduceMod, Nat.reduceAdd, Nat.reduceMul, Nat.reduceEqDiff, Nat.reduceLeDiff, Nat.zero_le, List.length_nil, List.length_cons, Nat.zero_add, true_or, or_true, false_or, or_false, true_and, and_true, and_self, mb_01, mb_t, mb_f, Option.toList_some, Option.toList_none, List.cons_append, List.nil_append, t2.2.2.1, tsE, t2.2.1, c_fault ft2, e10]
        by_cases qe : tk_s (tk_c (sT s) (sN s) (tk_e (sT s) (sN s) 0)) = 0
        · obtain ⟨g1, g2⟩ := repM_rd h f02
          have g3 := repM_e g1
          have g4 := frM_tr g2 (frM_w (I := I2) (J := J2) (k := 127) (j := 12) (x := 0) (by decide))
          simp only [eq_true qe, if_true, true_implies, not_true_eq_false, not_false_eq_true, false_implies, and_true, true_and, e10, bk_145.2.2.2.2.2.2.2.2.2.2.1, mmE, mmE0, mmH, mT, mR, mRf, mAl, mAs, mAz, mAn, Int.reduceToNat, Int32.reduceOfInt, Int64.reduceOfInt, Int.reduceAdd, swE, Nat.reduceDiv, Nat.reduceMod, Nat.reduceAdd, Nat.reduceMul, Nat.reduceEqDiff, Nat.reduceLeDiff, Nat.zero_le, List.length_nil, List.length_cons, Nat.zero_add, true_or, or_true, false_or, or_false, true_and, and_true, and_self, mb_01, mb_t, mb_f]
          have hcs := tk_s1.mp q1
          refine w_wloop (z := z) (d := d + 4) (cs := tk_c (sT s) (sN s) 0) hl hw hcs vw g3.2.2.2.1 (fun hx => ?_) (fun hno o => ?_) 11 0 rfl (fun k hk => by omega)
          · obtain ⟨k, k1, k2, k3⟩ := hx
            cases e : wh (sW s l) (tk_c (sT s) (sN s) 0) with
            | none => exact absurd k3 (wh_none e k k1)
            | some k' =>
              obtain ⟨e1, e2⟩ := wh_lt e
              have : k' = k := vw.2 l k' k hl e1 k1 (e2.trans k3.symm)
              dsimp only
              rw [if_neg (by omega)]
              exact ⟨rfl, g3, g4⟩
          · have fin : okM I J (1, uW (uN s 0) (wup (sW s) l w (tk_c (sT s) (sN s) 0))) (some (.int 1)) (mm_wI I2 127 12 0) (mm_wJ J2 139 (11 * l + w) (tk_w (tk_c (sT s) (sN s) 0))) := by
              refine ⟨rfl, repM_w (s := uN s 0) g3 rfl (fun a b ha hb => ?_), frM_tr g4 (fun k hk => ⟨rfl, by funext q; rw [mWJ, if_neg (by omega)]⟩)⟩
              rw [mWJ, if_pos rfl]
              unfold wup
              by_cases q : a = l ∧ b = w
              · rw [if_pos (by omega), if_pos q]
              · rw [if_neg (by omega), if_neg q]
                exact g3.2.2.2.1.2 a b ha hb
            simp only [bk_145.2.2.2.2.2.2.2.2.2.2.2.2, mmE, mmE0, mmH, mT, mR, mRf, mAl, mAs, mAz, mAn, Int.reduceToNat, Int32.reduceOfInt, Int64.reduceOfInt, Int.reduceAdd, swE, Nat.reduceDiv, Nat.reduceMod, Nat.reduceAdd, Nat.reduceMul, Nat.reduceEqDiff, Nat.reduceLeDiff, Nat.zero_le, List.length_nil, List.length_cons, Nat.zero_add, true_or, or_true, false_or, or_false, true_and, and_true, and_self, mb_01, mb_t, mb_f, i11', ix22 (show 11 * l + w < 22 by omega), true_implies, not_true_eq_false, not_false_eq_true, false_implies, and_true, true_and]
            cases e : wh (sW s l) (tk_c (sT s) (sN s) 0) with
            | none => exact fin
            | some k' =>
              obtain ⟨e1, e2⟩ := wh_lt e
              dsimp only
              rw [if_pos]
              · exact fin
              · by_cases q : k' = w
                · exact q
                · exact absurd ⟨k', e1, q, e2⟩ hno
        · have w0 : mm_wI I2 127 21 (nI (tk_j (sT s) (sN s) (tk_e (sT s) (sN s) 0))) 127 21 = nI (tk_j (sT s) (sN s) (tk_e (sT s) (sN s) 0)) := by rw [mWI, if_pos rfl, if_pos rfl]
          simp only [qe, true_implies, not_true_eq_false, not_false_eq_true, false_implies, and_true, true_and, if_false, c_refused w0, mmE, mmE0, mmH, mT, mR, mRf, mAl, mAs, mAz, mAn, Int.reduceToNat, Int32.reduceOfInt, Int64.reduceOfInt, Int.reduceAdd, swE, Nat.reduceDiv, Nat.reduceMod, Nat.reduceAdd, Nat.reduceMul, Nat.reduceEqDiff, Nat.reduceLeDiff, Nat.zero_le, List.length_nil, List.length_cons, Nat.zero_add, true_or, or_true, false_or, or_false, true_and, and_true, and_self, mb_01, mb_t, mb_f, Option.toList_some, Option.toList_none, List.cons_append, List.nil_append, bk_145.2.2.2.2.2.2.2.1, bk_145.2.2.2.2.2.2.2.2.1, bk_145.2.2.2.2.2.2.2.2.2.1]
          exact okM_flt h (mr_tr f02 (mr_w (by unfold mrj; decide)))
      · have w0 : mm_wI I1 127 21 (nI (tk_j (sT s) (sN s) 0)) 127 21 = nI (tk_j (sT s) (sN s) 0) := by rw [mWI, if_pos rfl, if_pos rfl]
        simp only [q1, true_implies, not_true_eq_false, not_false_eq_true, false_implies, and_true, true_and, if_false, bk_145.2.2.2.2.1, bk_145.2.2.2.2.2.1, bk_145.2.2.2.2.2.2.2.2.2.1, mmE, mmE0, mmH, mT, mR, mRf, mAl, mAs, mAz, mAn, Int.reduceToNat, Int32.reduceOfInt, Int64.reduceOfInt, Int.reduceAdd, swE, Nat.reduceDiv, Nat.reduceMod, Nat.reduceAdd, Nat.reduceMul, Nat.reduceEqDiff, Nat.reduceLeDiff, Nat.zero_le, List.length_nil, List.length_cons, Nat.zero_add, true_or, or_true, false_or, or_false, true_and, and_true, and_self, mb_01, mb_t, mb_f, Option.toList_some, Option.toList_none, List.cons_append, List.nil_append, c_refused w0]
        exact okM_flt h (mr_tr f1 (mr_w (by unfold mrj; decide)))
end OJ
