/-! the class's grading: from the beginning to the last row -/
noncomputable def gsS (s : st_T) (n : Nat) : Nat → gr_T := grs (sNr s) (osS s) (gXS s) n
section GL
variable {z : mm_S} {d : Nat} {I : mm_I} {J : mm_J} {s : st_T} {Q : Option Value → mm_I → mm_J → Prop}
theorem w_ungrade {c : Nat} (hT : mm_T c = (4, 10)) (k : ∀ I', gC I' c gr0 → (∀ k, k ≠ c → I' k = I k) → (∀ j, j < 5 → I' c j = I c j) → Q none I' J) : mm_call z (d + 1) 67 [.ref c] I J Q := by
  simp only [ce_67, bk_67, mmE, mmE0, mmH, mT, mR, mRf, mAl, mAs, mAz, mAn, Int.reduceToNat, Int32.reduceOfInt, Int64.reduceOfInt, Int.reduceAdd, swE, Nat.reduceDiv, Nat.reduceMod, Nat.reduceAdd, Nat.reduceMul, Nat.reduceEqDiff, Nat.reduceLeDiff, Nat.zero_le, List.length_nil, List.length_cons, Nat.zero_add, true_or, or_true, false_or, or_false, true_and, and_true, and_self, mb_01, mb_t, mb_f, hT]
  have cr : ∀ (I0 : mm_I) j x i, mm_wI I0 c j x c i = if i = j then x else I0 c i := fun I0 j x i => by rw [mWI, if_pos rfl]
  refine k _ ⟨?_, ?_, ?_, ?_, ?_⟩ (fun q hq => ?_) (fun j hj => ?_)
  · rw [cr, if_neg (by decide), cr, if_neg (by decide), cr, if_neg (by decide), cr, if_neg (by decide), cr, if_pos rfl]; rfl
  · rw [cr, if_neg (by decide), cr, if_neg (by decide), cr, if_neg (by decide), cr, if_pos rfl]; rfl
  · rw [cr, if_neg (by decide), cr, if_neg (by decide), cr, if_pos rfl]; rfl
  · rw [cr, if_neg (by decide), cr, if_pos rfl]; rfl
  · rw [cr, if_pos rfl]; rfl
  · funext i
    rw [mWI, if_neg hq, mWI, if_neg hq, mWI, if_neg hq, mWI, if_neg hq, mWI, if_neg hq]
  · rw [cr, if_neg (by omega), cr, if_neg (by omega), cr, if_neg (by omega), cr, if_neg (by omega), cr, if_neg (by omega)]
theorem w_cl_loop (hv : va s) : ∀ (w r : Nat) (I : mm_I) (o2 : Option Value), 1 ≤ r → r + w = sNr s + 1 → shC I s → (∀ I', fG I I' → (∀ k, 112 ≤ k → I' k = I k) → (∀ q, q < r → I' (4 + 2 * q) = I (4 + 2 * q)) → (∀ q, r ≤ q → q ≤ sNr s → gC I' (4 + 2 * q) gr0) → Q none I' J) → mm_at z (mm_call z (d + 1)) (mm_code 10) Q 41 [some (.ref 112), some (.int (nI r)), o2] [] I J
  | 0, r, I, o2, h1, hr, h, K => by
    have v3 := hv.1.2.2.1
    rw [hk_10_41]
    have c1 : (nI (sNr s) < nI r) = True := by rw [lt_nI (by omega) (by omega)]; exact eq_true (by omega)
    simp only [bk_10.2.2, mmE, mmE0, mmH, mT, mR, mRf, mAl, mAs, mAz, mAn, Int.reduceToNat, Int32.reduceOfInt, Int64.reduceOfInt, Int.reduceAdd, swE, Nat.reduceDiv, Nat.reduceMod, Nat.reduceAdd, Nat.reduceMul, Nat.reduceEqDiff, Nat.reduceLeDiff, Nat.zero_le, List.length_nil, List.length_cons, Nat.zero_add, true_or, or_true, false_or, or_false, true_and, and_true, and_self, mb_01, mb_t, mb_f, h.1.2.2, c1, true_implies, not_true_eq_false, not_false_eq_true, false_implies, and_true, true_and]
    exact K I fG_rf (fun _ _ => rfl) (fun _ _ => rfl) (fun q a b => by omega)
  | w + 1, r, I, o2, h1, hr, h, K => by
    have v3 := hv.1.2.2.1
    obtain ⟨t1, _⟩ := mTr4 r (by omega) h1
    rw [hk_10_41]
    have c1 : (nI (sNr s) < nI r) = False := by rw [lt_nI (by omega) (by omega)]; exact eq_false (by omega)
    simp only [mmE, mmE0, mmH, mT, mR, mRf, mAl, mAs, mAz, mAn, Int.reduceToNat, Int32.reduceOfInt, Int64.reduceOfInt, Int.reduceAdd, swE, Nat.reduceDiv, Nat.reduceMod, Nat.reduceAdd, Nat.reduceMul, Nat.reduceEqDiff, Nat.reduceLeDiff, Nat.zero_le, List.length_nil, List.length_cons, Nat.zero_add, true_or, or_true, false_or, or_false, true_and, and_true, and_self, mb_01, mb_t, mb_f, Option.toList_some, Option.toList_none, List.cons_append, List.nil_append, h.1.2.2, c1, c_rowAt v3 h.1.2.2 h1 (show r ≤ sNr s by omega), t1, true_implies, not_true_eq_false, not_false_eq_true, false_implies, and_true, true_and]
    refine w_ungrade t1 (fun I1 g1 g2 g3 => ?_)
    simp only [bk_10.2.1, mmE, mmE0, mmH, mT, mR, mRf, mAl, mAs, mAz, mAn, Int.reduceToNat, Int32.reduceOfInt, Int64.reduceOfInt, Int.reduceAdd, swE, Nat.reduceDiv, Nat.reduceMod, Nat.reduceAdd, Nat.reduceMul, Nat.reduceEqDiff, Nat.reduceLeDiff, Nat.zero_le, List.length_nil, List.length_cons, Nat.zero_add, true_or, or_true, false_or, or_false, true_and, and_true, and_self, mb_01, mb_t, mb_f, Option.toList_some, Option.toList_none, List.cons_append, List.nil_append]
    rw [← nI_succ]
    have f1 : fG I I1 := by
      intro k j a b
      by_cases e : k = 4 + 2 * r
      · rw [e]; exact g3 j (by omega)
      · rw [g2 k e]
    refine w_cl_loop hv w (r + 1) I1 _ (by omega) (by omega) (shC_G hv h f1) (fun I2 k1 k2 k3 k4 => ?_)
    refine K I2 (fG_tr f1 k1) (fun k hk => (k2 k hk).trans (g2 k (by omega))) (fun q hq => (k3 q (by omega)).trans (g2 _ (by omega))) (fun q a b => ?_)
    by_cases e : q = r
    · rw [e]
      unfold gC
      rw [k3 r (by omega)]
      exact g1
    · exact k4 q (by omega) b
theorem w_gclear (hv : va s) (h : shC I s) (K : ∀ I', fG I I' → (∀ r, 1 ≤ r → r ≤ sNr s → gC I' (4 + 2 * r) gr0) → (I' 112 4 = 0 ∧ I' 112 6 = 0 ∧ I' 112 5 = 0 ∧ I' 112 9 = 0 ∧ I' 112 10 = -1) → rl_rep I' (sNp s) al_none → Q none I' J) : mm_call z (d + 2) 10 [.ref 112] I J Q := by
  have v3 := hv.1.2.2.1
  have gg : ∀ (I0 : mm_I) j x i, mm_wI I0 112 j x 112 i = if i = j then x else I0 112 i := fun I0 j x i => by rw [mWI, if_pos rfl]
  have g1 : ∀ (I0 : mm_I) j x, mm_wI I0 112 j x 1 = I0 1 := fun I0 j x => by funext i; rw [mWI, if_neg (by decide)]
  simp only [ce_10, bk_10.1, mmE, mmE0, mmH, mT, mR, mRf, mAl, mAs, mAz, mAn, Int.reduceToNat, Int32.reduceOfInt, Int64.reduceOfInt, Int.reduceAdd, swE, Nat.reduceDiv, Nat.reduceMod, Nat.reduceAdd, Nat.reduceMul, Nat.reduceEqDiff, Nat.reduceLeDiff, Nat.zero_le, List.length_nil, List.length_cons, Nat.zero_add, true_or, or_true, false_or, or_false, true_and, and_true, and_self, mb_01, mb_t, mb_f, g1, h.1.1]
  refine w_clear hv.1.1 (fun I1 m1 m2 => ?_)
  simp only [mmE, mmE0, mmH, mT, mR, mRf, mAl, mAs, mAz, mAn, Int.reduceToNat, Int32.reduceOfInt, Int64.reduceOfInt, Int.reduceAdd, swE, Nat.reduceDiv, Nat.reduceMod, Nat.reduceAdd, Nat.reduceMul, Nat.reduceEqDiff, Nat.reduceLeDiff, Nat.zero_le, List.length_nil, List.length_cons, Nat.zero_add, true_or, or_true, false_or, or_false, true_and, and_true, and_self, mb_01, mb_t, mb_f, Option.toList_some, Option.toList_none, List.cons_append, List.nil_append]
  have f0 : fG I (mm_wI (mm_wI (mm_wI (mm_wI (mm_wI I 112 4 0) 112 5 0) 112 6 0) 112 9 0) 112 10 (-1)) := fG_tr fG_g (fG_tr fG_g (fG_tr fG_g (fG_tr fG_g fG_g)))
  have e1 : ∀ k, k < 113 ∨ 121 < k → I1 k = _ := fun k hk => m2 k hk
  have f1 : fG I I1 := fG_tr f0 (fun k j a b => by rw [m2 k (by have : (113 : Nat) = 113 := rfl; omega)])
  refine w_cl_loop (z := z) (d := d) hv (sNr s) 1 I1 _ (by omega) (by omega) (shC_G hv h f1) (fun I2 k1 k2 k3 k4 => ?_)
  refine K I2 (fG_tr f1 k1) (fun r a b => k4 r a b) ⟨?_, ?_, ?_, ?_, ?_⟩ (rl_c (fun k a b => k2 k (by omega)) m1)
  · rw [k2 _ (by decide), e1 _ (by decide), gg, if_neg (by decide), gg, if_neg (by decide), gg, if_neg (by decide), gg, if_neg (by decide), gg, if_pos rfl]
  · rw [k2 _ (by decide), e1 _ (by decide), gg, if_neg (by decide), gg, if_neg (by decide), gg, if_pos rfl]
  · rw [k2 _ (by decide), e1 _ (by decide), gg, if_neg (by decide), gg, if_neg (by decide), gg, if_neg (by decide), gg, if_pos rfl]
  · rw [k2 _ (by decide), e1 _ (by decide), gg, if_neg (by decide), gg, if_pos rfl]
  · rw [k2 _ (by decide), e1 _ (by decide), gg, if_pos rfl]
theorem w_fg_loop (hv : va s) : ∀ (w i : Nat) (I : mm_I) (o2 : Option Value), i + w = sNf s → shC I s → I 112 7 = gmN (gfS s) i → (∀ I', (∀ k, k ≠ 112 → I' k = I k) → (∀ j, j ≠ 7 → I' 112 j = I 112 j) → I' 112 7 = gmN (gfS s) (sNf s) → Q none I' J) → mm_at z (mm_call z (d + 5)) (mm_code 11) Q 7 [some (.ref 112), some (.int (nI i)), o2] [] I J
  | 0, i, I, o2, hi, h, hm, K => by
    have v2 := hv.1.2.1
    rw [hk_11_7]
    have c1 : (nI (sNf s) ≤ nI i) = True := by rw [le_nI (by omega) (by omega)]; exact eq_true (by omega)
    simp only [bk_11.2.2, mmE, mmE0, mmH, mT, mR, mRf, mAl, mAs, mAz, mAn, Int.reduceToNat, Int32.reduceOfInt, Int64.reduceOfInt, Int.reduceAdd, swE, Nat.reduceDiv, Nat.reduceMod, Nat.reduceAdd, Nat.reduceMul, Nat.reduceEqDiff, Nat.reduceLeDiff, Nat.zero_le, List.length_nil, List.length_cons, Nat.zero_add, true_or, or_true, false_or, or_false, true_and, and_true, and_self, mb_01, mb_t, mb_f, h.1.2.1, c1, true_implies, not_true_eq_false, not_false_eq_true, false_implies, and_true, true_and]
    rw [show i = sNf s by omega] at hm
    exact K I (fun _ _ => rfl) (fun _ _ => rfl) hm
  | w + 1, i, I, o2, hi, h, hm, K => by
    have v2 := hv.1.2.1
    rw [hk_11_7]
    have c1 : (nI (sNf s) ≤ nI i) = False := by rw [le_nI (by omega) (by omega)]; exact eq_false (by omega)
    simp only [bk_11.2.1, mmE, mmE0, mmH, mT, mR, mRf, mAl, mAs, mAz, mAn, Int.reduceToNat, Int32.reduceOfInt, Int64.reduceOfInt, Int.reduceAdd, swE, Nat.reduceDiv, Nat.reduceMod, Nat.reduceAdd, Nat.reduceMul, Nat.reduceEqDiff, Nat.reduceLeDiff, Nat.zero_le, List.length_nil, List.length_cons, Nat.zero_add, true_or, or_true, false_or, or_false, true_and, and_true, and_self, mb_01, mb_t, mb_f, Option.toList_some, Option.toList_none, List.cons_append, List.nil_append, h.1.2.1, c1, c_figAt v2 h.1.2.1 (show i < sNf s by omega), c_isGood (show i < 6 by omega) hv h, mb_0, hm, true_implies, not_true_eq_false, not_false_eq_true, false_implies, and_true, true_and]
    rw [← nI_succ]
    have eS : gmN (gfS s) (i + 1) = if gfS s i = true then gmN (gfS s) i ||| (1 : Int32) <<< (nI i &&& 31) else gmN (gfS s) i := rfl
    cases e : gfS s i with
    | false =>
      rw [e, if_neg (by decide)] at eS
      simp only [true_implies, not_true_eq_false, not_false_eq_true, false_implies, and_true, true_and]
      exact w_fg_loop hv w (i + 1) I _ (by omega) h (by rw [eS]; exact hm) K
    | true =>
      rw [e, if_pos rfl] at eS
      simp only [Bool.true_eq_false, true_implies, not_true_eq_false, not_false_eq_true, false_implies, and_true, true_and]
      refine w_fg_loop hv w (i + 1) _ _ (by omega) (shC_G hv h fG_g) (by rw [mWI, if_pos rfl, if_pos rfl, eS]) (fun I' k1 k2 k3 => K I' (fun k hk => ?_) (fun j hj => ?_) k3)
      · rw [k1 k hk]
        funext x
        rw [mWI, if_neg hk]
      · rw [k2 j hj, mWI, if_pos rfl, if_neg hj]
theorem w_findGood (hv : va s) (h : shC I s) (K : ∀ I', (∀ k, k ≠ 112 → I' k = I k) → (∀ j, j ≠ 7 → I' 112 j = I 112 j) → I' 112 7 = gmN (gfS s) (sNf s) → Q none I' J) : mm_call z (d + 6) 11 [.ref 112] I J Q := by
  simp only [ce_11, bk_11.1, mmE, mmE0, mmH, mT, mR, mRf, mAl, mAs, mAz, mAn, Int.reduceToNat, Int32.reduceOfInt, Int64.reduceOfInt, Int.reduceAdd, swE, Nat.reduceDiv, Nat.reduceMod, Nat.reduceAdd, Nat.reduceMul, Nat.reduceEqDiff, Nat.reduceLeDiff, Nat.zero_le, List.length_nil, List.length_cons, Nat.zero_add, true_or, or_true, false_or, or_false, true_and, and_true, and_self, mb_01, mb_t, mb_f]
  refine w_fg_loop (z := z) (d := d) hv (sNf s) 0 _ _ (by omega) (shC_G hv h fG_g) (by rw [mWI, if_pos rfl, if_pos rfl]; rfl) (fun I' k1 k2 k3 => K I' (fun k hk => ?_) (fun j hj => ?_) k3)
  · rw [k1 k hk]
    funext x
    rw [mWI, if_neg hk]
  · rw [k2 j hj, mWI, if_pos rfl, if_neg hj]
theorem cnt_0 {n : Nat} {p : Nat → Bool} (h : ∀ r, p r = false) : cnt n p = 0 := by
  unfold cnt
  rw [List.countP_eq_zero]
  intro a _ q
  rw [h a] at q
  cases q
/-- all rows -/
theorem w_ga_loop (hv : va s) : ∀ (w t : Nat) (I : mm_I) (o2 : Option Value), 1 ≤ t → t + w = sNr s + 1 → gst I s (gsS s (t - 1)) → (∀ I' t' o2, fG I I' → gst I' s (gsS s (sNr s)) → mm_at z (mm_call z (d + 6)) (mm_code 9) Q 136 [some (.ref 112), some (.int t'), o2] [] I' J) → mm_at z (mm_call z (d + 6)) (mm_code 9) Q 10 [some (.ref 112), some (.int (nI t)), o2] [] I J
  | 0, t, I, o2, h1, ht, hs, K => by
    have v3 := hv.1.2.2.1
    rw [hk_9_10]
    have c1 : (nI (sNr s) < nI t) = True := by rw [lt_nI (by omega) (by omega)]; exact eq_true (by omega)
    simp only [mmE, mmE0, mmH, mT, mR, mRf, mAl, mAs, mAz, mAn, Int.reduceToNat, Int32.reduceOfInt, Int64.reduceOfInt, Int.reduceAdd, swE, Nat.reduceDiv, Nat.reduceMod, Nat.reduceAdd, Nat.reduceMul, Nat.reduceEqDiff, Nat.reduceLeDiff, Nat.zero_le, List.length_nil, List.length_cons, Nat.zero_add, true_or, or_true, false_or, or_false, true_and, and_true, and_self, mb_01, mb_t, mb_f, hs.1.1.2.2, c1, true_implies, not_true_eq_false, not_false_eq_true, false_implies, and_true, true_and]
    rw [show t - 1 = sNr s by omega] at hs
    exact K I _ _ fG_rf hs
  | w + 1, t, I, o2, h1, ht, hs, K => by
    have v3 := hv.1.2.2.1
    rw [hk_9_10]
    have c1 : (nI (sNr s) < nI t) = False := by rw [lt_nI (by omega) (by omega)]; exact eq_false (by omega)
    simp only [mmE, mmE0, mmH, mT, mR, mRf, mAl, mAs, mAz, mAn, Int.reduceToNat, Int32.reduceOfInt, Int64.reduceOfInt, Int.reduceAdd, swE, Nat.reduceDiv, Nat.reduceMod, Nat.reduceAdd, Nat.reduceMul, Nat.reduceEqDiff, Nat.reduceLeDiff, Nat.zero_le, List.length_nil, List.length_cons, Nat.zero_add, true_or, or_true, false_or, or_false, true_and, and_true, and_self, mb_01, mb_t, mb_f, Option.toList_some, Option.toList_none, List.cons_append, List.nil_append, hs.1.1.2.2, c1, c_nextReady hv hs.1 hs.2.1, true_implies, not_true_eq_false, not_false_eq_true, false_implies, and_true, true_and]
    cases e : gnx (sNr s) (osS s) (gsS s (t - 1)) with
    | none =>
      simp only [rRef, mmE, mmE0, mmH, mT, mR, mRf, mAl, mAs, mAz, mAn, Int.reduceToNat, Int32.reduceOfInt, Int64.reduceOfInt, Int.reduceAdd, swE, Nat.reduceDiv, Nat.reduceMod, Nat.reduceAdd, Nat.reduceMul, Nat.reduceEqDiff, Nat.reduceLeDiff, Nat.zero_le, List.length_nil, List.length_cons, Nat.zero_add, true_or, or_true, false_or, or_false, true_and, and_true, and_self, mb_01, mb_t, mb_f, true_implies, not_true_eq_false, not_false_eq_true, false_implies, and_true, true_and]
      have st := grs_stay (X := gXS s) e (sNr s - (t - 1))
      rw [show t - 1 + (sNr s - (t - 1)) = sNr s by omega] at st
      have st' : gsS s (sNr s) = gsS s (t - 1) := st
      rw [← st'] at hs
      exact K I _ _ fG_rf hs
    | some r =>
      obtain ⟨r1, r2, _, r4, _⟩ := gnx_some e
      have h0 : gsS s (t - 1) r = gr0 := ((grs_inv (nr := sNr s) (os := osS s) (X := gXS s) (fun _ _ _ => rfl) (t - 1) r).2.1) r4
      simp only [rRef, mmE, mmE0, mmH, mT, mR, mRf, mAl, mAs, mAz, mAn, Int.reduceToNat, Int32.reduceOfInt, Int64.reduceOfInt, Int.reduceAdd, swE, Nat.reduceDiv, Nat.reduceMod, Nat.reduceAdd, Nat.reduceMul, Nat.reduceEqDiff, Nat.reduceLeDiff, Nat.zero_le, List.length_nil, List.length_cons, Nat.zero_add, true_or, or_true, false_or, or_false, true_and, and_true, and_self, mb_01, mb_t, mb_f, true_implies, not_true_eq_false, not_false_eq_true, false_implies, and_true, true_and]
      refine w_gs (d := d) r1 r2 (by omega) h0 hv hs (fun I1 k1 k2 => ?_)
      have eS : gsS s t = gup (gsS s (t - 1)) r (gXS s (gsS s (t - 1)) t r) := by
        have := grs_some (X := gXS s) e
        rw [show t - 1 + 1 = t by omega] at this
        exact this
      rw [← eS] at k2
      refine w_ga_loop hv w (t + 1) I1 _ (by omega) (by omega) (by rw [Nat.add_sub_cancel]; exact k2) (fun I2 t' o2 k3 k4 => K I2 t' o2 (fG_tr k1 k3) k4)
/-- grading, up to the circle -/
theorem w_ga (hv : va s) (h : shC I s) (K : ∀ I' t' o2, fG I I' → gst I' s (gsS s (sNr s)) → mm_at z (mm_call z (d + 6)) (mm_code 9) Q 136 [some (.ref 112), some (.int t'), o2] [] I' J) : mm_call z (d + 7) 9 [.ref 112] I J Q := by
  have v3 := hv.1.2.2.1
  simp only [ce_9, bk_9.1, mmE, mmE0, mmH, mT, mR, mRf, mAl, mAs, mAz, mAn, Int.reduceToNat, Int32.reduceOfInt, Int64.reduceOfInt, Int.reduceAdd, swE, Nat.reduceDiv, Nat.reduceMod, Nat.reduceAdd, Nat.reduceMul, Nat.reduceEqDiff, Nat.reduceLeDiff, Nat.zero_le, List.length_nil, List.length_cons, Nat.zero_add, true_or, or_true, false_or, or_false, true_and, and_true, and_self, mb_01, mb_t, mb_f]
  refine w_gclear hv h (fun I1 k1 k2 k3 k4 => ?_)
  simp only [mmE, mmE0, mmH, mT, mR, mRf, mAl, mAs, mAz, mAn, Int.reduceToNat, Int32.reduceOfInt, Int64.reduceOfInt, Int.reduceAdd, swE, Nat.reduceDiv, Nat.reduceMod, Nat.reduceAdd, Nat.reduceMul, Nat.reduceEqDiff, Nat.reduceLeDiff, Nat.zero_le, List.length_nil, List.length_cons, Nat.zero_add, true_or, or_true, false_or, or_false, true_and, and_true, and_self, mb_01, mb_t, mb_f, Option.toList_some, Option.toList_none, List.cons_append, List.nil_append]
  have h1 := shC_G hv h k1
  refine w_findGood hv h1 (fun I2 m1 m2 m3 => ?_)
  simp only [mmE, mmE0, mmH, mT, mR, mRf, mAl, mAs, mAz, mAn, Int.reduceToNat, Int32.reduceOfInt, Int64.reduceOfInt, Int.reduceAdd, swE, Nat.reduceDiv, Nat.reduceMod, Nat.reduceAdd, Nat.reduceMul, Nat.reduceEqDiff, Nat.reduceLeDiff, Nat.zero_le, List.length_nil, List.length_cons, Nat.zero_add, true_or, or_true, false_or, or_false, true_and, and_true, and_self, mb_01, mb_t, mb_f, Option.toList_some, Option.toList_none, List.cons_append, List.nil_append]
  have f2 : fG I1 I2 := fun k j a b => by rw [m1 k (by omega)]
  refine w_ga_loop (z := z) (d := d) hv (sNr s) 1 I2 _ (by omega) (by omega) ⟨shC_G hv h1 f2, fun r a b => ⟨?_, by show 0 ≤ 40; omega, by show 0 ≤ 2; omega, by show 0 ≤ 5; omega, by show 0 ≤ 5; omega⟩, ⟨?_, ?_, m3, ?_, ?_, ?_⟩, al_none, rl_c (fun k _ _ => m1 k (by omega)) k4, ?_⟩ (fun I3 t' o2 k5 k6 => K I3 t' o2 (fG_tr k1 (fG_tr f2 k5)) k6)
  · unfold gC
    rw [m1 _ (by omega)]
    exact k2 r a b
  · rw [m2 _ (by decide), k3.1, cnt_0]
    · rfl
    · intro r; rfl
  · rw [m2 _ (by decide), k3.2.1, cnt_0]
    · rfl
    · intro r; rfl
  · rw [m2 _ (by decide)]; exact k3.2.2.1
  · rw [m2 _ (by decide)]; exact k3.2.2.2.1
  · rw [m2 _ (by decide)]; exact k3.2.2.2.2
  · have e : S0 (sNr s) (sR s) (gsS s (1 - 1)) = fun _ => False := by
      funext f
      apply propext
      refine ⟨?_, fun q => q.elim⟩
      rintro ⟨r, _, _, c, _⟩
      have : (0 : Nat) = 1 := c
      omega
    rw [e]
    exact ok_none
end GL
