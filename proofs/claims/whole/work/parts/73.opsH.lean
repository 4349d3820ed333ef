/-! rows and words are typed: the class -/
theorem rdO_ok {T : Nat → Nat} {n m : Nat} : ∀ (w : Nat) (os : List Nat) (i : Nat) (x : Nat × Int32 × List Nat), os.length + w = 6 → (∀ o ∈ os, 1 ≤ o ∧ o < 1000) → rdO T n m w os i = .ok x → x.1 = 3 ∧ x.2.1 = nI m ∧ x.2.2.length ≤ 6 ∧ ∀ o ∈ x.2.2, 1 ≤ o ∧ o < 1000
  | 0, os, i, x, hw, ho, h => by
    unfold rdO rdE at h
    split at h
    · injection h with h
      subst h
      exact ⟨rfl, rfl, by show os.length ≤ 6; omega, ho⟩
    · cases h
  | w + 1, os, i, x, hw, ho, h => by
    unfold rdO at h
    split at h
    · injection h with h
      subst h
      exact ⟨rfl, rfl, by show os.length ≤ 6; omega, ho⟩
    · split at h
      · rename_i q
        have hv := (tk_nv (Or.inr q.1)).2
        refine rdO_ok w _ _ x (by rw [List.length_append]; show os.length + 1 + w = 6; omega) (fun o hq => ?_) h
        rcases List.mem_append.mp hq with r | r
        · exact ho o r
        · rw [List.mem_singleton.mp r]
          exact ⟨q.2, hv⟩
      · cases h
theorem rdR_ok {T : Nat → Nat} {n i : Nat} {W : Nat → List Nat} {x : Nat × Int32 × List Nat} (h : rdR T n W i = .ok x) : x.1 ≤ 3 ∧ (x.1 = 3 → ∃ m, m < 17 ∧ x.2.1 = nI m) ∧ x.2.2.length ≤ 6 ∧ ∀ o ∈ x.2.2, 1 ≤ o ∧ o < 1000 := by
  unfold rdR at h
  split at h
  · injection h with h
    subst h
    exact ⟨by decide, fun q => (by cases q), by decide, fun o ho => by cases ho⟩
  · split at h
    · unfold rdE at h
      split at h
      · injection h with h
        subst h
        exact ⟨by decide, fun q => (by cases q), by decide, fun o ho => by cases ho⟩
      · cases h
    · split at h
      · unfold rdE at h
        split at h
        · injection h with h
          subst h
          exact ⟨by decide, fun q => (by cases q), by decide, fun o ho => by cases ho⟩
        · cases h
      · split at h
        · unfold rdU at h
          split at h
          · rename_i q
            split at h
            · injection h with h
              subst h
              exact ⟨Nat.le_refl 3, fun _ => ⟨_, q.2, rfl⟩, Nat.zero_le _, fun o ho => by cases ho⟩
            · split at h
              · obtain ⟨a, b, c, e⟩ := rdO_ok 6 [] _ x rfl (fun o ho => by cases ho) h
                exact ⟨by omega, fun _ => ⟨_, q.2, b⟩, c, e⟩
              · cases h
          · cases h
        · cases h
theorem rdO_err {T : Nat → Nat} {n m : Nat} : ∀ (w : Nat) (os : List Nat) (i p : Nat), i ≤ n → rdO T n m w os i = .error p → p ≤ n
  | 0, os, i, p, hi, h => by
    have l := tk_le (T := T) hi
    unfold rdO rdE at h
    split at h
    · cases h
    · injection h with h
      omega
  | w + 1, os, i, p, hi, h => by
    have l := tk_le (T := T) hi
    unfold rdO at h
    split at h
    · cases h
    · split at h
      · exact rdO_err w _ _ p l.2.2 h
      · injection h with h
        omega
theorem rdR_err {T : Nat → Nat} {n i p : Nat} {W : Nat → List Nat} (hi : i ≤ n) (h : rdR T n W i = .error p) : p ≤ n := by
  have l := tk_le (T := T) hi
  have l2 := tk_le (T := T) l.2.2
  have l3 := tk_le (T := T) l2.2.2
  unfold rdR at h
  split at h
  · cases h
  · split at h
    · unfold rdE at h
      split at h
      · cases h
      · injection h with h
        omega
    · split at h
      · unfold rdE at h
        split at h
        · cases h
        · injection h with h
          omega
      · split at h
        · unfold rdU at h
          split at h
          · split at h
            · cases h
            · split at h
              · exact rdO_err 6 [] _ p l3.2.2 h
              · injection h with h
                omega
          · injection h with h
            omega
        · injection h with h
          omega
section OH
variable {z : mm_S} {d : Nat} {I : mm_I} {J : mm_J} {s : st_T} {Q : Option Value → mm_I → mm_J → Prop}
theorem w_add {x : rw_T} (hv : va s) (h : repC I J s) (hn : sNr s < 40) (hl : x.2.2.2.length ≤ 6) (hr : rC_row I 110 x) (k : ∀ I', rC_row I' (4 + 2 * (sNr s + 1)) x → (∀ k, k ≠ 4 + 2 * (sNr s + 1) → k ≠ 4 + 2 * (sNr s + 1) + 1 → k ≠ 1 → I' k = I k) → (∀ j, j ≠ 2 → I' 1 j = I 1 j) → I' 1 2 = nI (sNr s + 1) → Q (some (.int 1)) I' J) : mm_call z (d + 2) 85 [.ref 1, .ref 110] I J Q := by
  obtain ⟨⟨a1, a2, a3, a4⟩, _⟩ := id h
  obtain ⟨t1, t2, t3, t4⟩ := mTr4 (sNr s + 1) (by omega) (by omega)
  rw [Nat.add_sub_cancel] at t4
  have c1 : (nI (sNr s) < 40) = True := eq_true (nI_lt (b := 40) hn (by decide))
  have c2 : vp_in (nI (sNr s)) 40 = True := eq_true (vp_in_nI hn (by decide))
  have c3 : (nI (sNr s)).toNatClampNeg = sNr s := nI_clamp (by omega)
  simp only [ce_85, bk_85, mmE, mmE0, mmH, mT, mR, mRf, mAl, mAs, mAz, mAn, Int.reduceToNat, Int32.reduceOfInt, Int64.reduceOfInt, Int.reduceAdd, swE, Nat.reduceDiv, Nat.reduceMod, Nat.reduceAdd, Nat.reduceMul, Nat.reduceEqDiff, Nat.reduceLeDiff, Nat.zero_le, List.length_nil, List.length_cons, Nat.zero_add, true_or, or_true, false_or, or_false, true_and, and_true, and_self, mb_01, mb_t, mb_f, a3, nneg (show sNr s < 2 ^ 31 by omega), c1, c2, c3, t4, t1, true_implies, not_true_eq_false, not_false_eq_true, false_implies, and_true, true_and]
  refine w_rtake t1 t2 t3 (by omega) hl hr (fun I1 r1 f1 => ?_)
  have e1 : I1 1 = I 1 := f1 _ (by omega) (by omega)
  simp only [mmE, mmE0, mmH, mT, mR, mRf, mAl, mAs, mAz, mAn, Int.reduceToNat, Int32.reduceOfInt, Int64.reduceOfInt, Int.reduceAdd, swE, Nat.reduceDiv, Nat.reduceMod, Nat.reduceAdd, Nat.reduceMul, Nat.reduceEqDiff, Nat.reduceLeDiff, Nat.zero_le, List.length_nil, List.length_cons, Nat.zero_add, true_or, or_true, false_or, or_false, true_and, and_true, and_self, mb_01, mb_t, mb_f, Option.toList_some, Option.toList_none, List.cons_append, List.nil_append, e1, a3, z01]
  rw [← nI_succ]
  refine k _ (rC_fr r1 ?_ ?_) (fun k k1 k2 k3 => ?_) (fun j hj => ?_) ?_
  · funext q; rw [mWI, if_neg (by omega)]
  · funext q; rw [mWI, if_neg (by omega)]
  · rw [← f1 k k1 k2]
    funext q; rw [mWI, if_neg k3]
  · rw [mWI, if_pos rfl, if_neg hj, e1]
  · rw [mWI, if_pos rfl, if_pos rfl]
theorem pC_row (hv : va s) (h : repC I J s) : mm_call z (d + 8) 106 [.ref 0] I J (okC I J (o_row s)) := by
  obtain ⟨⟨a1, a2, a3, a4⟩, _⟩ := id h
  obtain ⟨⟨v1, v2, v3, v4⟩, _, vw, _⟩ := id hv
  have n120 := h.2.2.1.2.1
  unfold o_row
  simp only [ce_106, bk_106.1, mmE, mmE0, mmH, mT, mR, mRf, mAl, mAs, mAz, mAn, Int.reduceToNat, Int32.reduceOfInt, Int64.reduceOfInt, Int.reduceAdd, swE, Nat.reduceDiv, Nat.reduceMod, Nat.reduceAdd, Nat.reduceMul, Nat.reduceEqDiff, Nat.reduceLeDiff, Nat.zero_le, List.length_nil, List.length_cons, Nat.zero_add, true_or, or_true, false_or, or_false, true_and, and_true, and_self, mb_01, mb_t, mb_f, a1, n0E (show sNp s < 2 ^ 31 by omega)]
  by_cases q0 : sNp s = 0
  · simp only [eq_true q0, true_implies, not_true_eq_false, not_false_eq_true, false_implies, and_true, true_and, if_true]
    exact ⟨rfl, h, frC_rf⟩
  simp only [q0, true_implies, not_true_eq_false, not_false_eq_true, false_implies, and_true, true_and, if_false, bk_106.2.1, ce_56, bk_56.1, mmE, mmE0, mmH, mT, mR, mRf, mAl, mAs, mAz, mAn, Int.reduceToNat, Int32.reduceOfInt, Int64.reduceOfInt, Int.reduceAdd, swE, Nat.reduceDiv, Nat.reduceMod, Nat.reduceAdd, Nat.reduceMul, Nat.reduceEqDiff, Nat.reduceLeDiff, Nat.zero_le, List.length_nil, List.length_cons, Nat.zero_add, true_or, or_true, false_or, or_false, true_and, and_true, and_self, mb_01, mb_t, mb_f]
  refine w_readFact v1 v4 vw (enC_of h) ?_
  have flt : ∀ (p : Nat) (I' : mm_I) (J' : mm_J), rd_fr I J I' J' → okC I J (-100 - nI p, uN s 0) (some (.int (-100 - nI p))) (mm_wI I' 104 1 0) J' := by
    intro p I' J' f
    obtain ⟨g1, g2⟩ := repC_rd hv h f
    exact ⟨rfl, repC_e hv g1, frC_tr g2 (frC_w (by decide))⟩
  cases e : rdF (sT s) (sN s) (sNp s) (sW s (sLg s)) with
  | error p =>
    have p1 := rdF_err e
    intro I' J' f
    have pm : (nI p = -1) = False := eq_false (nI_m1' (by omega))
    simp only [ce_56, bk_56, ce_89, bk_89, bk_106.2.2.1, mmE, mmE0, mmH, mT, mR, mRf, mAl, mAs, mAz, mAn, Int.reduceToNat, Int32.reduceOfInt, Int64.reduceOfInt, Int.reduceAdd, swE, Nat.reduceDiv, Nat.reduceMod, Nat.reduceAdd, Nat.reduceMul, Nat.reduceEqDiff, Nat.reduceLeDiff, Nat.zero_le, List.length_nil, List.length_cons, Nat.zero_add, true_or, or_true, false_or, or_false, true_and, and_true, and_self, mb_01, mb_t, mb_f, Option.toList_some, Option.toList_none, List.cons_append, List.nil_append, pm, true_implies, not_true_eq_false, not_false_eq_true, false_implies, and_true, true_and]
    exact flt p I' J' f
  | ok q =>
    obtain ⟨o1, o2, o3, o4, o5, o6⟩ := rdF_ok v1 e
    intro I' J' f en hr hat
    simp only [ce_56, bk_56, mmE, mmE0, mmH, mT, mR, mRf, mAl, mAs, mAz, mAn, Int.reduceToNat, Int32.reduceOfInt, Int64.reduceOfInt, Int.reduceAdd, swE, Nat.reduceDiv, Nat.reduceMod, Nat.reduceAdd, Nat.reduceMul, Nat.reduceEqDiff, Nat.reduceLeDiff, Nat.zero_le, List.length_nil, List.length_cons, Nat.zero_add, true_or, or_true, false_or, or_false, true_and, and_true, and_self, mb_01, mb_t, mb_f, Option.toList_some, Option.toList_none, List.cons_append, List.nil_append, true_implies, not_true_eq_false, not_false_eq_true, false_implies, and_true, true_and]
    refine w_reason v4 vw o5 en hat hr ?_
    cases e2 : rdR (sT s) (sN s) (sW s (sLg s)) q.2.2.2 with
    | error p =>
      have p1 := rdR_err o5 e2
      intro I2 J2 f2
      have pm : (nI p = -1) = False := eq_false (nI_m1' (by omega))
      simp only [ce_56, bk_56, ce_89, bk_89, mmE, mmE0, mmH, mT, mR, mRf, mAl, mAs, mAz, mAn, Int.reduceToNat, Int32.reduceOfInt, Int64.reduceOfInt, Int.reduceAdd, swE, Nat.reduceDiv, Nat.reduceMod, Nat.reduceAdd, Nat.reduceMul, Nat.reduceEqDiff, Nat.reduceLeDiff, Nat.zero_le, List.length_nil, List.length_cons, Nat.zero_add, true_or, or_true, false_or, or_false, true_and, and_true, and_self, mb_01, mb_t, mb_f, Option.toList_some, Option.toList_none, List.cons_append, List.nil_append, pm, true_implies, not_true_eq_false, not_false_eq_true, false_implies, and_true, true_and]
      exact flt p I2 J2 (rd_tr f f2)
    | ok x =>
      obtain ⟨x1, x2, x3, x4⟩ := rdR_ok e2
      intro I2 J2 f2 hr2
      simp only [ce_56, bk_56, ce_89, bk_89, mmE, mmE0, mmH, mT, mR, mRf, mAl, mAs, mAz, mAn, Int.reduceToNat, Int32.reduceOfInt, Int64.reduceOfInt, Int.reduceAdd, swE, Nat.reduceDiv, Nat.reduceMod, Nat.reduceAdd, Nat.reduceMul, Nat.reduceEqDiff, Nat.reduceLeDiff, Nat.zero_le, List.length_nil, List.length_cons, Nat.zero_add, true_or, or_true, false_or, or_false, true_and, and_true, and_self, mb_01, mb_t, mb_f, Option.toList_some, Option.toList_none, List.cons_append, List.nil_append, true_implies, not_true_eq_false, not_false_eq_true, false_implies, and_true, true_and]
      obtain ⟨g1, g2⟩ := repC_rd hv h (rd_tr f f2)
      have g3 := repC_e hv g1
      have hr3 : rC_row (mm_wI I2 104 1 0) 110 (q.2.2.1, x) := rC_fr hr2 (by funext x; rw [mWI, if_neg (by decide)]) (by funext x; rw [mWI, if_neg (by decide)])
      simp only [bk_106.2.2.1, mmE, mmE0, mmH, mT, mR, mRf, mAl, mAs, mAz, mAn, Int.reduceToNat, Int32.reduceOfInt, Int64.reduceOfInt, Int.reduceAdd, swE, Nat.reduceDiv, Nat.reduceMod, Nat.reduceAdd, Nat.reduceMul, Nat.reduceEqDiff, Nat.reduceLeDiff, Nat.zero_le, List.length_nil, List.length_cons, Nat.zero_add, true_or, or_true, false_or, or_false, true_and, and_true, and_self, mb_01, mb_t, mb_f]
      by_cases q40 : sNr s = 40
      · have a3' : mm_wI I2 104 1 0 1 2 = 40 := by
          rw [g3.1.2.2.1]
          show nI (sNr s) = 40
          rw [q40]
          rfl
        have c0 : ((40 : Int32) < 0) = False ∧ ((40 : Int32) < 40) = False := by decide
        simp only [ce_85, bk_85, mmE, mmE0, mmH, mT, mR, mRf, mAl, mAs, mAz, mAn, Int.reduceToNat, Int32.reduceOfInt, Int64.reduceOfInt, Int.reduceAdd, swE, Nat.reduceDiv, Nat.reduceMod, Nat.reduceAdd, Nat.reduceMul, Nat.reduceEqDiff, Nat.reduceLeDiff, Nat.zero_le, List.length_nil, List.length_cons, Nat.zero_add, true_or, or_true, false_or, or_false, true_and, and_true, and_self, mb_01, mb_t, mb_f, Option.toList_some, Option.toList_none, List.cons_append, List.nil_append, a3', c0, z01, true_implies, not_true_eq_false, not_false_eq_true, false_implies, and_true, true_and, eq_true q40, if_true]
        exact ⟨rfl, g3, frC_tr g2 (frC_w (by decide))⟩
      · simp only [q40, if_false]
        have hva : va (uN s 0) := hv
        refine w_add (s := uN s 0) hva g3 (show sNr s < 40 by omega) x3 hr3 (fun I4 r4 f4 f5 f6 => ?_)
        have f4 : ∀ k, k ≠ 4 + 2 * (sNr s + 1) → k ≠ 4 + 2 * (sNr s + 1) + 1 → k ≠ 1 → I4 k = mm_wI I2 104 1 0 k := f4
        have r4 : rC_row I4 (4 + 2 * (sNr s + 1)) (q.2.2.1, x) := r4
        have f6 : I4 1 2 = nI (sNr s + 1) := f6
        have e10 : ((1 : Int32) = 0) = False := by decide
        have w6 : mm_wI I4 112 3 0 1 2 = nI (sNr s + 1) := by rw [mWI, if_neg (by decide)]; exact f6
        simp only [bk_106.2.2.2, mmE, mmE0, mmH, mT, mR, mRf, mAl, mAs, mAz, mAn, Int.reduceToNat, Int32.reduceOfInt, Int64.reduceOfInt, Int.reduceAdd, swE, Nat.reduceDiv, Nat.reduceMod, Nat.reduceAdd, Nat.reduceMul, Nat.reduceEqDiff, Nat.reduceLeDiff, Nat.zero_le, List.length_nil, List.length_cons, Nat.zero_add, true_or, or_true, false_or, or_false, true_and, and_true, and_self, mb_01, mb_t, mb_f, Option.toList_some, Option.toList_none, List.cons_append, List.nil_append, e10, z01, w6, true_implies, not_true_eq_false, not_false_eq_true, false_implies, and_true, true_and]
        have w4 : ∀ k, k ≠ 4 + 2 * (sNr s + 1) → k ≠ 4 + 2 * (sNr s + 1) + 1 → k ≠ 1 → k ≠ 112 → mm_wI I4 112 3 0 k = mm_wI I2 104 1 0 k := fun k k1 k2 k3 k4 => by
          rw [← f4 k k1 k2 k3]
          funext x
          rw [mWI, if_neg k4]
        have w1 : ∀ j, j ≠ 2 → mm_wI I4 112 3 0 1 j = mm_wI I2 104 1 0 1 j := fun j hj => by rw [mWI, if_neg (by decide), f5 j hj]
        obtain ⟨⟨b1, b2, b3, b4⟩, bb, c, e', g, i, j, l⟩ := g3
        refine ⟨rfl, ⟨⟨?_, ?_, w6, ?_⟩, figs_c (fun k _ _ => w4 k (by omega) (by omega) (by omega) (by omega)) bb, ⟨?_, c.2.1, fun i hi => ?_⟩, ⟨?_, e'.2⟩, fun r r1 r2 => ?_, fun qg => ?_, ?_, fun qg => by cases qg⟩, ?_⟩
        · rw [w1 _ (by decide)]; exact b1
        · rw [w1 _ (by decide)]; exact b2
        · rw [w1 _ (by decide)]; exact b4
        · rw [w4 _ (by omega) (by omega) (by decide) (by decide)]; exact c.1
        · rw [w4 _ (by omega) (by omega) (by decide) (by decide)]; exact c.2.2 i hi
        · rw [w4 _ (by omega) (by omega) (by decide) (by decide)]; exact e'.1
        · show rC_row _ _ (gup (sR s) (sNr s + 1) (q.2.2.1, x) r)
          have r2 : r ≤ sNr s + 1 := r2
          rw [gup_at]
          by_cases qr : r = sNr s + 1
          · rw [if_pos qr, qr]
            exact rC_fr r4 (by funext x; rw [mWI, if_neg (by omega)]) (by funext x; rw [mWI, if_neg (by omega)])
          · rw [if_neg qr]
            exact rC_fr (g r r1 (show r ≤ sNr s by omega)) (w4 _ (by omega) (by omega) (by omega) (by omega)) (w4 _ (by omega) (by omega) (by omega) (by omega))
        · show rC_row _ _ (gup (sR s) (sNr s + 1) (q.2.2.1, x) 0)
          rw [gup_at, if_neg (by omega)]
          exact rC_fr (i qg) (w4 _ (by omega) (by omega) (by decide) (by decide)) (w4 _ (by omega) (by omega) (by decide) (by decide))
        · rw [mWI, if_pos rfl, if_pos rfl]; rfl
        · exact frC_tr g2 (frC_tr (frC_w (by decide)) (fun k hk => ⟨w4 k (by omega) (by omega) (by omega) (by omega), rfl⟩))
/-- words change -/
theorem repC_w {I' : mm_I} {J' : mm_J} {W' : Nat → Nat → List Nat} (hv : va s) (h : repC I J s) (hI : I' = I) (hw : ∀ l k, l < 2 → k < 11 → J' 107 (11 * l + k) = tk_x 0 256 (W' l k)) : repC I' J' (uW s W') := by
  subst hI
  obtain ⟨a, b, c, e, g, i, j, l⟩ := h
  exact ⟨a, b, c, ⟨e.1, hw⟩, g, i, j, l⟩
theorem w_readEnd2 {T : Nat → Nat} {n i : Nat} (h : rt_rep I T n) (hi : i ≤ n) (hat : I 104 2 = nI i) (k : ∀ I' J', rt_mv I J I' J' → Q (some (.int (eI (if tk_s (tk_c T n i) = 0 then none else some (tk_j T n i))))) I' J') : mm_call z (d + 3) 55 [.ref 108] I J Q := by
  simp only [ce_55, bk_55, mmE, mmE0, mmH, mT, mR, mRf, mAl, mAs, mAz, mAn, Int.reduceToNat, Int32.reduceOfInt, Int64.reduceOfInt, Int.reduceAdd, swE, Nat.reduceDiv, Nat.reduceMod, Nat.reduceAdd, Nat.reduceMul, Nat.reduceEqDiff, Nat.reduceLeDiff, Nat.zero_le, List.length_nil, List.length_cons, Nat.zero_add, true_or, or_true, false_or, or_false, true_and, and_true, and_self, mb_01, mb_t, mb_f]
  refine w_next h hi hat (fun I' J' m t1 t2 t3 t4 => ?_)
  have hk := k I' J' m
  simp only [ce_55, bk_55, mmE, mmE0, mmH, mT, mR, mRf, mAl, mAs, mAz, mAn, Int.reduceToNat, Int32.reduceOfInt, Int64.reduceOfInt, Int.reduceAdd, swE, Nat.reduceDiv, Nat.reduceMod, Nat.reduceAdd, Nat.reduceMul, Nat.reduceEqDiff, Nat.reduceLeDiff, Nat.zero_le, List.length_nil, List.length_cons, Nat.zero_add, true_or, or_true, false_or, or_false, true_and, and_true, and_self, mb_01, mb_t, mb_f, t3, tsE]
  by_cases q : tk_s (tk_c T n i) = 0
  · rw [if_pos q] at hk
    simp only [q, true_implies, not_true_eq_false, not_false_eq_true, false_implies, and_true, true_and]
    exact hk
  · rw [if_neg q] at hk
    simp only [q, t2, true_implies, not_true_eq_false, not_false_eq_true, false_implies, and_true, true_and]
    exact hk
theorem pC_word {l w : Int32} (hv : va s) (h : repC I J s) : mm_call z (d + 5) 105 [.ref 0, .int l, .int w] I J (okC I J (o_word s l w)) := by
  obtain ⟨⟨a1, a2, a3, a4⟩, _⟩ := id h
  obtain ⟨⟨v1, v2, v3, v4⟩, _, vw, _⟩ := id hv
  have n120 := h.2.2.1.2.1
  unfold o_word
  simp only [ce_105, bk_105.1, bk_105.2.1, bk_105.2.2.1, bk_105.2.2.2.1, mmE, mmE0, mmH, mT, mR, mRf, mAl, mAs, mAz, mAn, Int.reduceToNat, Int32.reduceOfInt, Int64.reduceOfInt, Int.reduceAdd, swE, Nat.reduceDiv, Nat.reduceMod, Nat.reduceAdd, Nat.reduceMul, Nat.reduceEqDiff, Nat.reduceLeDiff, Nat.zero_le, List.length_nil, List.length_cons, Nat.zero_add, true_or, or_true, false_or, or_false, true_and, and_true, and_self, mb_01, mb_t, mb_f]
  cases el : inN 2 l with
  | false =>
    have hk : okC I J ((-1 : Int32), s) (some (.int (-1))) I J := ⟨rfl, h, frC_rf⟩
    by_cases q : l < 0
    · simp only [q, true_implies, not_true_eq_false, not_false_eq_true, false_implies, and_true, true_and, if_false, Bool.false_eq_true]; exact hk
    · have q2 : ¬ l < 2 := by
        rw [i32lt, show (2 : Int32).toInt = 2 by decide]
        have := (inN_f el).resolve_left q
        omega
      simp only [q, q2, true_implies, not_true_eq_false, not_false_eq_true, false_implies, and_true, true_and, if_false, Bool.false_eq_true]; exact hk
  | true =>
    obtain ⟨l, hl, rfl⟩ := inN_t el
    have q2 : (nI l < 2) = True := eq_true (nI_lt (b := 2) hl (by decide))
    simp only [nneg (show l < 2 ^ 31 by omega), q2, true_implies, not_true_eq_false, not_false_eq_true, false_implies, and_true, true_and, if_true]
    cases ew : inN 11 w with
    | false =>
      have hk : okC I J ((-2 : Int32), s) (some (.int (-2))) I J := ⟨rfl, h, frC_rf⟩
      by_cases q : w < 0
      · simp only [q, true_implies, not_true_eq_false, not_false_eq_true, false_implies, and_true, true_and, if_false, Bool.false_eq_true]; exact hk
      · have q2 : ¬ w < 11 := by
          rw [i32lt, show (11 : Int32).toInt = 11 by decide]
          have := (inN_f ew).resolve_left q
          omega
        simp only [q, q2, true_implies, not_true_eq_false, not_false_eq_true, false_implies, and_true, true_and, if_false, Bool.false_eq_true]; exact hk
    | true =>
      obtain ⟨w, hw, rfl⟩ := inN_t ew
      have q2 : (nI w < 11) = True := eq_true (nI_lt (b := 11) hw (by decide))
      rw [nI_clamp (show l < 2 ^ 31 by omega), nI_clamp (show w < 2 ^ 31 by omega)]
      simp only [nneg (show w < 2 ^ 31 by omega), q2, true_implies, not_true_eq_false, not_false_eq_true, false_implies, and_true, true_and, if_true, bk_105.2.2.2.2.1, ce_54, bk_54.1, ce_90, bk_90, mmE, mmE0, mmH, mT, mR, mRf, mAl, mAs, mAz, mAn, Int.reduceToNat, Int32.reduceOfInt, Int64.reduceOfInt, Int.reduceAdd, swE, Nat.reduceDiv, Nat.reduceMod, Nat.reduceAdd, Nat.reduceMul, Nat.reduceEqDiff, Nat.reduceLeDiff, Nat.zero_le, List.length_nil, List.length_cons, Nat.zero_add, true_or, or_true, false_or, or_false, true_and, and_true, and_self, mb_01, mb_t, mb_f, Option.toList_some, Option.toList_none, List.cons_append, List.nil_append]
      have m0 : rt_mv I J (mm_wI I 104 2 0) J := mv_at (by decide)
      have h0 := enC_fr (enC_of h) (rd_mv m0)
      have flt : ∀ (p : Nat) (I' : mm_I) (J' : mm_J), rd_fr I J I' J' → okC I J (-100 - nI p, uN s 0) (some (.int (-100 - nI p))) (mm_wI I' 104 1 0) J' := by
        intro p I' J' f
        obtain ⟨g1, g2⟩ := repC_rd hv h f
        exact ⟨rfl, repC_e hv g1, frC_tr g2 (frC_w (by decide))⟩
      refine w_nx (i := 0) h0 (by omega) (by rw [mWI, if_pos rfl, if_pos rfl]; rfl) (fun I1 J1 f1 f1' h1 t1 l1 => ?_)
      have f01 := rd_tr (rd_mv m0) f1
      have lj := tk_le (T := sT s) (n := sN s) (i := 0) (by omega)
      simp only [mmE, mmE0, mmH, mT, mR, mRf, mAl, mAs, mAz, mAn, Int.reduceToNat, Int32.reduceOfInt, Int64.reduceOfInt, Int.reduceAdd, swE, Nat.reduceDiv, Nat.reduceMod, Nat.reduceAdd, Nat.reduceMul, Nat.reduceEqDiff, Nat.reduceLeDiff, Nat.zero_le, List.length_nil, List.length_cons, Nat.zero_add, true_or, or_true, false_or, or_false, true_and, and_true, and_self, mb_01, mb_t, mb_f, Option.toList_some, Option.toList_none, List.cons_append, List.nil_append, t1.2.2.1, tsE]
      by_cases q1 : tk_s (tk_c (sT s) (sN s) 0) = 1
      · have vx : J1 104 5 = tk_x 0 256 (tk_c (sT s) (sN s) 0) := by
          rw [t1.2.2.2]
          unfold tk_v
          rw [if_pos q1]
        simp only [eq_true q1, true_implies, not_true_eq_false, not_false_eq_true, false_implies, and_true, true_and, if_true, bk_54.2, mmE, mmE0, mmH, mT, mR, mRf, mAl, mAs, mAz, mAn, Int.reduceToNat, Int32.reduceOfInt, Int64.reduceOfInt, Int.reduceAdd, swE, Nat.reduceDiv, Nat.reduceMod, Nat.reduceAdd, Nat.reduceMul, Nat.reduceEqDiff, Nat.reduceLeDiff, Nat.zero_le, List.length_nil, List.length_cons, Nat.zero_add, true_or, or_true, false_or, or_false, true_and, and_true, and_self, mb_01, mb_t, mb_f, vx]
        have fJ : rd_fr I1 J1 I1 (mm_wJ J1 108 5 (tk_x 0 256 (tk_c (sT s) (sN s) 0))) := ⟨fun _ _ _ _ _ => rfl, fun _ _ => rfl, fun k j k1 k2 => by rw [mWJ, if_neg k2]⟩
        refine w_readEnd2 (enC_fr h1 fJ).1 l1 t1.1 (fun I2 J2 m2 => ?_)
        have f2 := rd_mv m2
        have f02 := rd_tr f01 (rd_tr fJ f2)
        have nw : J2 108 5 = tk_x 0 256 (tk_c (sT s) (sN s) 0) := by rw [m2.2.2 _ _ (by decide), mWJ, if_pos rfl, if_pos rfl]
        simp only [mmE, mmE0, mmH, mT, mR, mRf, mAl, mAs, mAz, mAn, Int.reduceToNat, Int32.reduceOfInt, Int64.reduceOfInt, Int.reduceAdd, swE, Nat.reduceDiv, Nat.reduceMod, Nat.reduceAdd, Nat.reduceMul, Nat.reduceEqDiff, Nat.reduceLeDiff, Nat.zero_le, List.length_nil, List.length_cons, Nat.zero_add, true_or, or_true, false_or, or_false, true_and, and_true, and_self, mb_01, mb_t, mb_f, Option.toList_some, Option.toList_none, List.cons_append, List.nil_append, ce_89, bk_89]
        have l2 := tk_le (T := sT s) l1
        by_cases qe : tk_s (tk_c (sT s) (sN s) (tk_e (sT s) (sN s) 0)) = 0
        · obtain ⟨g1, g2⟩ := repC_rd hv h f02
          have g3 := repC_e hv g1
          have g4 := frC_tr g2 (frC_w (I := I2) (J := J2) (k := 104) (j := 1) (x := 0) (by decide))
          have cf := fun (z : mm_S) (d : Nat) => c_find (z := z) (d := d) hl (tk_s1.mp q1) vw g3.2.2.2.1
          simp only [eq_true qe, if_true, eI_none, true_implies, not_true_eq_false, not_false_eq_true, false_implies, and_true, true_and, bk_105.2.2.2.2.2.1, mmE, mmE0, mmH, mT, mR, mRf, mAl, mAs, mAz, mAn, Int.reduceToNat, Int32.reduceOfInt, Int64.reduceOfInt, Int.reduceAdd, swE, Nat.reduceDiv, Nat.reduceMod, Nat.reduceAdd, Nat.reduceMul, Nat.reduceEqDiff, Nat.reduceLeDiff, Nat.zero_le, List.length_nil, List.length_cons, Nat.zero_add, true_or, or_true, false_or, or_false, true_and, and_true, and_self, mb_01, mb_t, mb_f, Option.toList_some, Option.toList_none, List.cons_append, List.nil_append, nw, cf]
          -- the word is put
          have put : okC I J (1, uW (uN s 0) (wup (sW s) l w (tk_c (sT s) (sN s) 0))) (some (.int 1)) (mm_wI I2 104 1 0) (mm_wJ J2 107 (11 * l + w) (tk_x 0 256 (tk_c (sT s) (sN s) 0))) := by
            refine ⟨rfl, repC_w (s := uN s 0) hv g3 rfl (fun a b ha hb => ?_), frC_tr g4 (fun k hk => ⟨rfl, by funext q; rw [mWJ, if_neg (by omega)]⟩)⟩
            rw [mWJ, if_pos rfl]
            unfold wup
            by_cases q : a = l ∧ b = w
            · rw [if_pos (by omega), if_pos q]
            · rw [if_neg (by omega), if_neg q]
              exact g3.2.2.2.1.2 a b ha hb
          have set : mm_at z (mm_call z (d + 4)) (mm_code 105) (okC I J (1, uW (uN s 0) (wup (sW s) l w (tk_c (sT s) (sN s) 0)))) 82 [some (.ref 0), some (.int (nI l)), some (.int (nI w)), some (.int (-1)), some (.int (eI (wh (sW s l) (tk_c (sT s) (sN s) 0))))] [] (mm_wI I2 104 1 0) J2 := by
            simp only [bk_105.2.2.2.2.2.2, mmE, mmE0, mmH, mT, mR, mRf, mAl, mAs, mAz, mAn, Int.reduceToNat, Int32.reduceOfInt, Int64.reduceOfInt, Int.reduceAdd, swE, Nat.reduceDiv, Nat.reduceMod, Nat.reduceAdd, Nat.reduceMul, Nat.reduceEqDiff, Nat.reduceLeDiff, Nat.zero_le, List.length_nil, List.length_cons, Nat.zero_add, true_or, or_true, false_or, or_false, true_and, and_true, and_self, mb_01, mb_t, mb_f, nw]
            refine w_set hl hw ?_
            simp only [mmE, mmE0, mmH, mT, mR, mRf, mAl, mAs, mAz, mAn, Int.reduceToNat, Int32.reduceOfInt, Int64.reduceOfInt, Int.reduceAdd, swE, Nat.reduceDiv, Nat.reduceMod, Nat.reduceAdd, Nat.reduceMul, Nat.reduceEqDiff, Nat.reduceLeDiff, Nat.zero_le, List.length_nil, List.length_cons, Nat.zero_add, true_or, or_true, false_or, or_false, true_and, and_true, and_self, mb_01, mb_t, mb_f, Option.toList_some, Option.toList_none, List.cons_append, List.nil_append]
            exact put
          cases e : wh (sW s l) (tk_c (sT s) (sN s) 0) with
          | none =>
            rw [e] at set
            have e' : wh (sW (uN s 0) l) (tk_c (sT s) (sN s) 0) = none := e
            simp only [e', eI_none, true_implies, not_true_eq_false, not_false_eq_true, false_implies, and_true, true_and]
            exact set
          | some k =>
            rw [e] at set
            have e' : wh (sW (uN s 0) l) (tk_c (sT s) (sN s) 0) = some k := e
            have k11 := (wh_lt e).1
            have gm : (nI k = -1) = False := eq_false (nI_m1' (by omega))
            have ke : (nI k = nI w) = (k = w) := eq_nI (by omega) (by omega)
            simp only [e', eI_some, gm, ke, true_implies, not_true_eq_false, not_false_eq_true, false_implies, and_true, true_and]
            by_cases q : k = w
            · rw [if_pos q]
              simp only [eq_true q, true_implies, not_true_eq_false, not_false_eq_true, false_implies, and_true, true_and]
              exact set
            · rw [if_neg q]
              simp only [q, true_implies, not_true_eq_false, not_false_eq_true, false_implies, and_true, true_and]
              exact ⟨rfl, g3, g4⟩
        · have pm : (nI (tk_j (sT s) (sN s) (tk_e (sT s) (sN s) 0)) = -1) = False := eq_false (nI_m1' (by omega))
          simp only [qe, if_false, eI_some, pm, true_implies, not_true_eq_false, not_false_eq_true, false_implies, and_true, true_and]
          exact flt _ I2 J2 f02
      · have pm : (nI (tk_j (sT s) (sN s) 0) = -1) = False := eq_false (nI_m1' (by omega))
        simp only [q1, true_implies, not_true_eq_false, not_false_eq_true, false_implies, and_true, true_and, if_false, t1.2.1, ce_89, bk_89, mmE, mmE0, mmH, mT, mR, mRf, mAl, mAs, mAz, mAn, Int.reduceToNat, Int32.reduceOfInt, Int64.reduceOfInt, Int.reduceAdd, swE, Nat.reduceDiv, Nat.reduceMod, Nat.reduceAdd, Nat.reduceMul, Nat.reduceEqDiff, Nat.reduceLeDiff, Nat.zero_le, List.length_nil, List.length_cons, Nat.zero_add, true_or, or_true, false_or, or_false, true_and, and_true, and_self, mb_01, mb_t, mb_f, Option.toList_some, Option.toList_none, List.cons_append, List.nil_append, pm]
        exact flt _ I1 J1 f01
end OH
