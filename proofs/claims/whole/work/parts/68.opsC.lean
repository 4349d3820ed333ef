/-! calls about figures: place, holds -/
theorem nI_m1' {g : Nat} (h : g < 2 ^ 31) : ¬ nI g = -1 := by
  intro q
  have := congrArg Int32.toInt q
  rw [nI_toInt h, show (-1 : Int32).toInt = -1 by decide] at this
  omega
theorem isP_F {np f : Nat} (hnp : np ≤ 7) (h : isP np f) : isF f = true := by
  obtain ⟨k, a, b, c, e, hk, ha, hb, hc, he, hN⟩ := h
  exact (nn_kd hk (by omega) (by omega) (by omega) (by omega) hN).2
section OC
variable {z : mm_S} {d : Nat} {I : mm_I} {J : mm_J} {s : st_T}
theorem i1k {x : Int32} : (inI (-1000) 1000 x = true) = (¬ x < -1000 ∧ x ≤ 1000) := by
  unfold inI
  rw [decide_eq_true_eq, i32lt, i32le, show (-1000 : Int32).toInt = -1000 by decide, show (1000 : Int32).toInt = 1000 by decide]
  exact propext (by omega)
theorem pC_place {f p x y : Int32} (hv : va s) (h : repC I J s) : mm_call z (d + 2) 98 [.ref 0, .int f, .int p, .int x, .int y] I J (okC I J (o_place s f p x y)) := by
  obtain ⟨⟨a1, a2, a3, a4⟩, hf, _⟩ := id h
  obtain ⟨⟨v1, v2, v3, v4⟩, _⟩ := id hv
  unfold o_place
  simp only [ce_98, bk_98.1, mmE, mmE0, mmH, mT, mR, mRf, mAl, mAs, mAz, mAn, Int.reduceToNat, Int32.reduceOfInt, Int64.reduceOfInt, Int.reduceAdd, swE, Nat.reduceDiv, Nat.reduceMod, Nat.reduceAdd, Nat.reduceMul, Nat.reduceEqDiff, Nat.reduceLeDiff, Nat.zero_le, List.length_nil, List.length_cons, Nat.zero_add, true_or, or_true, false_or, or_false, true_and, and_true, and_self, mb_01, mb_t, mb_f]
  cases ef : inN (sNf s) f with
  | false =>
    simp only [c_figAt_no v2 a2 ef, ce_98, bk_98, mmE, mmE0, mmH, mT, mR, mRf, mAl, mAs, mAz, mAn, Int.reduceToNat, Int32.reduceOfInt, Int64.reduceOfInt, Int.reduceAdd, swE, Nat.reduceDiv, Nat.reduceMod, Nat.reduceAdd, Nat.reduceMul, Nat.reduceEqDiff, Nat.reduceLeDiff, Nat.zero_le, List.length_nil, List.length_cons, Nat.zero_add, true_or, or_true, false_or, or_false, true_and, and_true, and_self, mb_01, mb_t, mb_f, Option.toList_some, Option.toList_none, List.cons_append, List.nil_append, true_implies, not_true_eq_false, not_false_eq_true, false_implies, and_true, true_and, Bool.false_and, if_false, Bool.false_eq_true]
    exact ⟨rfl, h, frC_rf⟩
  | true =>
    obtain ⟨f, hfn, rfl⟩ := inN_t ef
    obtain ⟨t1, t2, t3, t4, t5, t6⟩ := mTf f (by omega)
    simp only [c_figAt v2 a2 hfn, bk_98.2.1, bk_98.2.2.1, bk_98.2.2.2.1, mmE, mmE0, mmH, mT, mR, mRf, mAl, mAs, mAz, mAn, Int.reduceToNat, Int32.reduceOfInt, Int64.reduceOfInt, Int.reduceAdd, swE, Nat.reduceDiv, Nat.reduceMod, Nat.reduceAdd, Nat.reduceMul, Nat.reduceEqDiff, Nat.reduceLeDiff, Nat.zero_le, List.length_nil, List.length_cons, Nat.zero_add, true_or, or_true, false_or, or_false, true_and, and_true, and_self, mb_01, mb_t, mb_f, Option.toList_some, Option.toList_none, List.cons_append, List.nil_append, true_implies, not_true_eq_false, not_false_eq_true, false_implies, and_true, true_and, c_hasPoint v1 a1, mb_0, Bool.true_and]
    cases ep : inN (sNp s) p with
    | false =>
      simp only [true_implies, not_true_eq_false, not_false_eq_true, false_implies, and_true, true_and, if_false, Bool.false_eq_true]
      exact ⟨rfl, h, frC_rf⟩
    | true =>
      obtain ⟨p, hpn, rfl⟩ := inN_t ep
      have hF := hf f (by omega)
      have hk : okC I J ((-2 : Int32), s) (some (.int (-2))) I J := ⟨rfl, h, frC_rf⟩
      simp only [true_implies, not_true_eq_false, not_false_eq_true, false_implies, and_true, true_and, if_true, Bool.true_eq_false, Bool.and_eq_true, i1k]
      by_cases x1 : x < -1000
      · simp only [x1, true_implies, not_true_eq_false, not_false_eq_true, false_implies, and_true, true_and, false_and, if_false]; exact hk
      by_cases x2 : x ≤ 1000
      · have x2' : ¬ 1000 < x := Int32.not_lt.mpr x2
        by_cases y1 : y < -1000
        · simp only [x1, x2, x2', y1, true_implies, not_true_eq_false, not_false_eq_true, false_implies, and_true, true_and, and_false, false_and, if_false]; exact hk
        by_cases y2 : y ≤ 1000
        · simp only [x1, x2, x2', y1, y2, true_implies, not_true_eq_false, not_false_eq_true, false_implies, and_true, true_and, and_self, if_true]
          simp only [bk_98.2.2.2.2, mmE, mmE0, mmH, mT, mR, mRf, mAl, mAs, mAz, mAn, Int.reduceToNat, Int32.reduceOfInt, Int64.reduceOfInt, Int.reduceAdd, swE, Nat.reduceDiv, Nat.reduceMod, Nat.reduceAdd, Nat.reduceMul, Nat.reduceEqDiff, Nat.reduceLeDiff, Nat.zero_le, List.length_nil, List.length_cons, Nat.zero_add, true_or, or_true, false_or, or_false, true_and, and_true, and_self, mb_01, mb_t, mb_f, t1, true_implies, not_true_eq_false, not_false_eq_true, false_implies, and_true, true_and]
          rw [nI_clamp (show f < 2 ^ 31 by omega), nI_clamp (show p < 2 ^ 31 by omega)]
          refine w_put (by omega) (by omega) hF (fun I1 r1 f1 => ?_)
          simp only [mmE, mmE0, mmH, mT, mR, mRf, mAl, mAs, mAz, mAn, Int.reduceToNat, Int32.reduceOfInt, Int64.reduceOfInt, Int.reduceAdd, swE, Nat.reduceDiv, Nat.reduceMod, Nat.reduceAdd, Nat.reduceMul, Nat.reduceEqDiff, Nat.reduceLeDiff, Nat.zero_le, List.length_nil, List.length_cons, Nat.zero_add, true_or, or_true, false_or, or_false, true_and, and_true, and_self, mb_01, mb_t, mb_f, Option.toList_some, Option.toList_none, List.cons_append, List.nil_append, z01]
          obtain ⟨_, b, c, e, g', i, _, _⟩ := id h
          have wg : ∀ k, k < 86 + 3 * f ∨ 86 + 3 * f + 2 < k → k ≠ 112 → mm_wI I1 112 3 0 k = I k := by
            intro k k1 k2
            rw [← f1 k k1]
            funext q
            rw [mWI, if_neg k2]
          refine ⟨rfl, ⟨⟨?_, ?_, ?_, ?_⟩, fun j hj => ?_, ⟨?_, c.2.1, fun i hi => ?_⟩, ⟨?_, e.2⟩, fun r r1 r2 => rC_fr (g' r r1 r2) (wg _ (by have : r ≤ sNr s := r2; omega) (by have : r ≤ sNr s := r2; omega)) (wg _ (by have : r ≤ sNr s := r2; omega) (by have : r ≤ sNr s := r2; omega)), fun q => rC_fr (i q) (wg _ (by omega) (by decide)) (wg _ (by omega) (by decide)), ?_, fun q => by cases q⟩, fun k hk => ⟨wg k (by omega) (by omega), rfl⟩⟩
          · rw [wg _ (by omega) (by decide)]; exact a1
          · rw [wg _ (by omega) (by decide)]; exact a2
          · rw [wg _ (by omega) (by decide)]; exact a3
          · rw [wg _ (by omega) (by decide)]; exact a4
          · show rg_fig _ j (gup (sF s) f (fg_put (sF s f) p x y) j)
            rw [gup_at]
            have w112 : ∀ k, k ≠ 112 → mm_wI I1 112 3 0 k = I1 k := fun k hk => by funext q; rw [mWI, if_neg hk]
            by_cases q : j = f
            · rw [if_pos q, q]
              obtain ⟨r2, r3, r4, r5⟩ := r1
              refine ⟨fun p hp => ?_, fun p hp => ?_, ?_, r5⟩
              · rw [w112 _ (by omega)]; exact r2 p hp
              · rw [w112 _ (by omega)]; exact r3 p hp
              · rw [w112 _ (by omega)]; exact r4
            · rw [if_neg q]
              obtain ⟨r2, r3, r4, r5⟩ := hf j hj
              refine ⟨fun p hp => ?_, fun p hp => ?_, ?_, r5⟩
              · rw [wg _ (by omega) (by omega)]; exact r2 p hp
              · rw [wg _ (by omega) (by omega)]; exact r3 p hp
              · rw [wg _ (by omega) (by omega)]; exact r4
          · rw [wg _ (by omega) (by decide)]; exact c.1
          · rw [wg _ (by omega) (by decide)]; exact c.2.2 i hi
          · rw [wg _ (by omega) (by decide)]; exact e.1
          · rw [mWI, if_pos rfl, if_pos rfl]; rfl
        · simp only [x1, x2, x2', y1, y2, true_implies, not_true_eq_false, not_false_eq_true, false_implies, and_true, true_and, and_false, if_false]; exact hk
      · have x2' : 1000 < x := Int32.not_le.mp x2
        simp only [x1, x2, x2', true_implies, not_true_eq_false, not_false_eq_true, false_implies, and_true, true_and, and_false, false_and, if_false]; exact hk
theorem pM_place {f p x y : Int32} (hv : va s) (h : repM I J s) : mm_call z (d + 3) 127 [.ref 127, .int f, .int p, .int x, .int y] I J (okM I J (o_place s f p x y)) := by
  obtain ⟨⟨a1, a2, a3, a4⟩, hf, c, e, g', i, _, _, mt⟩ := id h
  obtain ⟨⟨v1, v2, v3, v4⟩, _⟩ := id hv
  unfold o_place
  simp only [ce_127, bk_127, mmE, mmE0, mmH, mT, mR, mRf, mAl, mAs, mAz, mAn, Int.reduceToNat, Int32.reduceOfInt, Int64.reduceOfInt, Int.reduceAdd, swE, Nat.reduceDiv, Nat.reduceMod, Nat.reduceAdd, Nat.reduceMul, Nat.reduceEqDiff, Nat.reduceLeDiff, Nat.zero_le, List.length_nil, List.length_cons, Nat.zero_add, true_or, or_true, false_or, or_false, true_and, and_true, and_self, mb_01, mb_t, mb_f, Option.toList_some, Option.toList_none, List.cons_append, List.nil_append, c_isFigure hv h, mb_0, a1, c_in, in_np (show sNp s ≤ 10000 by omega), in_1k, z01]
  cases ef : inN (sNf s) f with
  | false =>
    simp only [true_implies, not_true_eq_false, not_false_eq_true, false_implies, and_true, true_and, Bool.false_and, if_false, Bool.false_eq_true]
    exact ⟨rfl, h, frM_rf⟩
  | true =>
    obtain ⟨f, hfn, rfl⟩ := inN_t ef
    simp only [true_implies, not_true_eq_false, not_false_eq_true, false_implies, and_true, true_and, Bool.true_and, Bool.true_eq_false]
    cases ep : inN (sNp s) p with
    | false =>
      simp only [true_implies, not_true_eq_false, not_false_eq_true, false_implies, and_true, true_and, if_false, Bool.false_eq_true]
      exact ⟨rfl, h, frM_rf⟩
    | true =>
      obtain ⟨p, hpn, rfl⟩ := inN_t ep
      simp only [true_implies, not_true_eq_false, not_false_eq_true, false_implies, and_true, true_and, if_true, Bool.true_eq_false]
      cases ex : inI (-1000) 1000 x with
      | false =>
        simp only [true_implies, not_true_eq_false, not_false_eq_true, false_implies, and_true, true_and, Bool.false_and, if_false, Bool.false_eq_true]
        exact ⟨rfl, h, frM_rf⟩
      | true =>
      cases ey : inI (-1000) 1000 y with
      | false =>
        simp only [true_implies, not_true_eq_false, not_false_eq_true, false_implies, and_true, true_and, Bool.and_false, if_false, Bool.false_eq_true, Bool.true_eq_false]
        exact ⟨rfl, h, frM_rf⟩
      | true =>
        simp only [true_implies, not_true_eq_false, not_false_eq_true, false_implies, and_true, true_and, Bool.and_true, if_true, Bool.true_eq_false, i7, ix42 (show f < 6 by omega) (show p < 7 by omega)]
        rw [nI_clamp (show f < 2 ^ 31 by omega), nI_clamp (show p < 2 ^ 31 by omega)]
        have wg : ∀ k, k ≠ 128 → k ≠ 129 → k ≠ 130 → k ≠ 127 → mm_wI (mm_wI (mm_wI (mm_wI I 128 (7 * f + p) x) 129 (7 * f + p) y) 130 (7 * f + p) 1) 127 37 0 k = I k := by
          intro k k1 k2 k3 k4
          funext q
          rw [mWI, if_neg k4, mWI, if_neg k3, mWI, if_neg k2, mWI, if_neg k1]
        have wj : ∀ j, j ≠ 37 → mm_wI (mm_wI (mm_wI (mm_wI I 128 (7 * f + p) x) 129 (7 * f + p) y) 130 (7 * f + p) 1) 127 37 0 127 j = I 127 j := by
          intro j j1
          rw [mWI, if_pos rfl, if_neg j1, mWI, if_neg (by decide), mWI, if_neg (by decide), mWI, if_neg (by decide)]
        refine ⟨rfl, ⟨⟨?_, ?_, ?_, ?_⟩, fun j hj q hq => ?_, ⟨?_, c.2.1, fun i hi => ?_⟩, ⟨?_, e.2⟩, fun r r1 r2 => mrow_c (fun k _ _ => wg k (by omega) (by omega) (by omega) (by omega)) (g' r r1 r2), fun q => mrow_c (fun k _ _ => wg k (by omega) (by omega) (by omega) (by omega)) (i q), ?_, (fun q => by cases q), mtab_c (fun k _ _ => wg k (by omega) (by omega) (by omega) (by omega)) (fun k _ _ => by rw [wg k (by omega) (by omega) (by omega) (by omega)]) mt⟩, fun k hk => ⟨wg k (by omega) (by omega) (by omega) (by omega), rfl⟩⟩
        · rw [wj _ (by decide)]; exact a1
        · rw [wj _ (by decide)]; exact a2
        · rw [wj _ (by decide)]; exact a3
        · rw [wj _ (by decide)]; exact a4
        · show _ = (gup (sF s) f (fg_put (sF s f) p x y) j).1 q ∧ _ = (gup (sF s) f (fg_put (sF s f) p x y) j).2.1 q ∧ _ = mb (fg_has (gup (sF s) f (fg_put (sF s f) p x y) j) q)
          rw [gup_at]
          obtain ⟨r2, r3, r4⟩ := hf j hj q hq
          have hX : ∀ t, mm_wI (mm_wI (mm_wI (mm_wI I 128 (7 * f + p) x) 129 (7 * f + p) y) 130 (7 * f + p) 1) 127 37 0 128 t = if t = 7 * f + p then x else I 128 t := fun t => by
            simp [mWI]
          have hY : ∀ t, mm_wI (mm_wI (mm_wI (mm_wI I 128 (7 * f + p) x) 129 (7 * f + p) y) 130 (7 * f + p) 1) 127 37 0 129 t = if t = 7 * f + p then y else I 129 t := fun t => by
            simp [mWI]
          have hT : ∀ t, mm_wI (mm_wI (mm_wI (mm_wI I 128 (7 * f + p) x) 129 (7 * f + p) y) 130 (7 * f + p) 1) 127 37 0 130 t = if t = 7 * f + p then 1 else I 130 t := fun t => by
            simp [mWI]
          rw [hX, hY, hT]
          by_cases e1 : j = f
          · subst e1
            rw [if_pos rfl]
            have hm : (sF s j).2.2 < 128 := (hv.2.1 j hj).2
            rw [fg_put_has hm (by omega) hq]
            by_cases e2 : q = p
            · subst e2
              rw [if_pos rfl, if_pos rfl, if_pos rfl]
              refine ⟨(if_pos rfl).symm, (if_pos rfl).symm, ?_⟩
              rw [beq_self_eq_true, Bool.or_true]
              rfl
            · rw [if_neg (by omega), if_neg (by omega), if_neg (by omega)]
              refine ⟨r2.trans (if_neg e2).symm, r3.trans (if_neg e2).symm, ?_⟩
              rw [beq_eq_false_iff_ne.mpr e2, Bool.or_false]
              exact r4
          · rw [if_neg e1, if_neg (by omega), if_neg (by omega), if_neg (by omega)]
            exact ⟨r2, r3, r4⟩
        · rw [wj _ (by decide)]; exact c.1
        · rw [wg _ (by decide) (by decide) (by decide) (by decide)]; exact c.2.2 i hi
        · rw [wj _ (by decide)]; exact e.1
        · rw [mWI, if_pos rfl, if_pos rfl]; rfl
theorem shows_nf {F : fg_T} {k a b c e g : Nat} (hB : fgB F) (hk : k < 7) (ha : a < 7) (hb : b < 7) (hc : c < 7) (he : e < 7) (hN : n_number k a b c e = some g) : (fg_has F a && fg_has F b && fg_has F c && fg_has F (if kdN k = 4 then e else c) && fg_so F k a b c (if kdN k = 4 then e else c)) = fg_shows F g := by
  have hkf := (nn_kd hk ha hb hc he hN).1
  unfold fg_shows fg_all
  rw [hkf, all_nf hk ha hb hc he hN, so_nf hB hk ha hb hc he hN]
theorem pC_holds {f k a b c e : Int32} (hv : va s) (h : repC I J s) : mm_call z (d + 5) 101 [.ref 0, .int f, .int k, .int a, .int b, .int c, .int e] I J (okC I J (o_holds s f k a b c e)) := by
  obtain ⟨⟨a1, a2, a3, a4⟩, hf, _⟩ := id h
  obtain ⟨⟨v1, v2, v3, v4⟩, _⟩ := id hv
  unfold o_holds
  simp only [ce_101, bk_101.1, mmE, mmE0, mmH, mT, mR, mRf, mAl, mAs, mAz, mAn, Int.reduceToNat, Int32.reduceOfInt, Int64.reduceOfInt, Int.reduceAdd, swE, Nat.reduceDiv, Nat.reduceMod, Nat.reduceAdd, Nat.reduceMul, Nat.reduceEqDiff, Nat.reduceLeDiff, Nat.zero_le, List.length_nil, List.length_cons, Nat.zero_add, true_or, or_true, false_or, or_false, true_and, and_true, and_self, mb_01, mb_t, mb_f]
  cases ef : inN (sNf s) f with
  | false =>
    simp only [c_figAt_no v2 a2 ef, ce_101, bk_101, mmE, mmE0, mmH, mT, mR, mRf, mAl, mAs, mAz, mAn, Int.reduceToNat, Int32.reduceOfInt, Int64.reduceOfInt, Int.reduceAdd, swE, Nat.reduceDiv, Nat.reduceMod, Nat.reduceAdd, Nat.reduceMul, Nat.reduceEqDiff, Nat.reduceLeDiff, Nat.zero_le, List.length_nil, List.length_cons, Nat.zero_add, true_or, or_true, false_or, or_false, true_and, and_true, and_self, mb_01, mb_t, mb_f, Option.toList_some, Option.toList_none, List.cons_append, List.nil_append, true_implies, not_true_eq_false, not_false_eq_true, false_implies, and_true, true_and, if_false, Bool.false_eq_true]
    exact ⟨rfl, h, frC_rf⟩
  | true =>
    obtain ⟨f, hfn, rfl⟩ := inN_t ef
    obtain ⟨t1, t2, t3, t4, t5, t6⟩ := mTf f (by omega)
    have hF := hf f (by omega)
    simp only [c_figAt v2 a2 hfn, bk_101.2.1, mmE, mmE0, mmH, mT, mR, mRf, mAl, mAs, mAz, mAn, Int.reduceToNat, Int32.reduceOfInt, Int64.reduceOfInt, Int.reduceAdd, swE, Nat.reduceDiv, Nat.reduceMod, Nat.reduceAdd, Nat.reduceMul, Nat.reduceEqDiff, Nat.reduceLeDiff, Nat.zero_le, List.length_nil, List.length_cons, Nat.zero_add, true_or, or_true, false_or, or_false, true_and, and_true, and_self, mb_01, mb_t, mb_f, Option.toList_some, Option.toList_none, List.cons_append, List.nil_append, true_implies, not_true_eq_false, not_false_eq_true, false_implies, and_true, true_and, c_factOf v1 a1, if_true]
    cases en : n_fact (sNp s) k a b c e with
    | none =>
      simp only [eI_none, true_implies, not_true_eq_false, not_false_eq_true, false_implies, and_true, true_and]
      exact ⟨rfl, h, frC_rf⟩
    | some g =>
      have hg := n_fact_P v1 en
      have gF := isP_F v1 hg
      have gm : (nI g = -1) = False := eq_false (nI_m1' (by have := isF_lt gF; omega))
      simp only [eI_some, gm, true_implies, not_true_eq_false, not_false_eq_true, false_implies, and_true, true_and, bk_101.2.2.1, bk_101.2.2.2.1, bk_101.2.2.2.2, mmE, mmE0, mmH, mT, mR, mRf, mAl, mAs, mAz, mAn, Int.reduceToNat, Int32.reduceOfInt, Int64.reduceOfInt, Int.reduceAdd, swE, Nat.reduceDiv, Nat.reduceMod, Nat.reduceAdd, Nat.reduceMul, Nat.reduceEqDiff, Nat.reduceLeDiff, Nat.zero_le, List.length_nil, List.length_cons, Nat.zero_add, true_or, or_true, false_or, or_false, true_and, and_true, and_self, mb_01, mb_t, mb_f, Option.toList_some, Option.toList_none, List.cons_append, List.nil_append, t1, c_shows (show f < 6 by omega) gF hF, mb_0]
      rw [nI_clamp (show f < 2 ^ 31 by omega)]
      cases fg_shows (sF s f) g with
      | false => simp only [true_implies, not_true_eq_false, not_false_eq_true, false_implies, and_true, true_and, Bool.false_eq_true]; exact ⟨rfl, h, frC_rf⟩
      | true => simp only [true_implies, not_true_eq_false, not_false_eq_true, false_implies, and_true, true_and, Bool.true_eq_false]; exact ⟨rfl, h, frC_rf⟩
end OC
