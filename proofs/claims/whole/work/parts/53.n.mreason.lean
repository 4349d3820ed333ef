/-! the reference's reader: reasons -/
def ms_fr (I : mm_I) (J : mm_J) (I' : mm_I) (J' : mm_J) : Prop := mr_fr I J I' J' ∧ I' 141 = I 141 ∧ I' 127 22 = I 127 22
theorem mf_rf {I : mm_I} {J : mm_J} : ms_fr I J I J := ⟨mr_rf, rfl, rfl⟩
theorem mf_tr {I I' I'' : mm_I} {J J' J'' : mm_J} (h : ms_fr I J I' J') (h' : ms_fr I' J' I'' J'') : ms_fr I J I'' J'' := ⟨mr_tr h.1 h'.1, h'.2.1.trans h.2.1, h'.2.2.trans h.2.2⟩
theorem mf_w {I : mm_I} {J : mm_J} {j : Nat} {x : Int32} (hj : ¬ mrj j) (h2 : j ≠ 22) : ms_fr I J (mm_wI I 127 j x) J := ⟨mr_w hj, by funext q; rw [mWI, if_neg (by decide)], by rw [mWI, if_pos rfl, if_neg (fun e => h2 e.symm)]⟩
theorem mf_a {I : mm_I} {J : mm_J} {j : Nat} {x : Int32} : ms_fr I J (mm_wI I 149 j x) J := ⟨mr_a (Or.inr rfl), by funext q; rw [mWI, if_neg (by decide)], by rw [mWI, if_neg (by decide)]⟩
/-- what the reference has read -/
def rdM (I : mm_I) (x : Nat × Int32 × List Nat) : Prop := I 127 33 = nI x.1 ∧ I 127 34 = x.2.1 ∧ I 127 35 = nI x.2.2.length ∧ ∀ k, k < x.2.2.length → I 149 k = nI (x.2.2.getD k 0)
section MS
variable {z : mm_S} {d : Nat} {I : mm_I} {J : mm_J} {T : Nat → Nat} {n lg np : Nat} {W : Nat → Nat → List Nat} {Q : Option Value → mm_I → mm_J → Prop}
theorem w_tk2 {i : Nat} (h : enM I J T n lg W np) (hi : i ≤ n) (hat : I 127 17 = nI i) (k : ∀ I' J', ms_fr I J I' J' → (∀ k, k ≠ 127 → I' k = I k) → (∀ j, j ≠ 17 → j ≠ 18 → j ≠ 19 → I' 127 j = I 127 j) → enM I' J' T n lg W np → tkM I' J' T n i → tk_e T n i ≤ n → Q none I' J') : mm_call z (d + 3) 147 [.ref 127] I J Q := by
  refine w_tk h hi hat (fun I' J' f f1 f2 h' t l => k I' J' ⟨f, f1 _ (by decide), f2 _ (by decide) (by decide) (by decide)⟩ f1 f2 h' t l)
theorem rdM_fr {I' : mm_I} {x : Nat × Int32 × List Nat} (h : rdM I x) (f1 : ∀ k, k ≠ 127 → I' k = I k) (f2 : ∀ j, j ≠ 17 → j ≠ 18 → j ≠ 19 → I' 127 j = I 127 j) : rdM I' x := by
  obtain ⟨h1, h2, h3, h4⟩ := h
  refine ⟨?_, ?_, ?_, fun k hk => ?_⟩
  · rw [f2 _ (by decide) (by decide) (by decide)]; exact h1
  · rw [f2 _ (by decide) (by decide) (by decide)]; exact h2
  · rw [f2 _ (by decide) (by decide) (by decide)]; exact h3
  · rw [f1 _ (by decide)]; exact h4 k hk
theorem w_mofs {m : Nat} {o1 : Option Value} : ∀ (w : Nat) (os : List Nat) (i : Nat) (I : mm_I) (J : mm_J), os.length + w = 6 → ¬ (os ≠ [] ∧ tk_s (tk_c T n i) = 0) → i ≤ n → enM I J T n lg W np → tkM I J T n i → I 127 21 = -5 → rdM I (3, nI m, os) → (match rdO T n m w os i with
    | .error p => ∀ I' J', ms_fr I J I' J' → I' 127 21 = nI p → Q (some (.int 0)) I' J'
    | .ok x => ∀ I' J', ms_fr I J I' J' → rdM I' x → Q (some (.int 1)) I' J') → mm_at z (mm_call z (d + 3)) (mm_code 156) Q 171 [some (.ref 127), o1, some (.int 1)] [] I J
  | w, os, i, I, J, hw, hno, hi, h, t, hft, hr, K => by
    have one0 : ((1 : Int32) = 0) = False := by decide
    have l1 := (tk_le (T := T) hi).2.2
    have flt : (∀ I' J', ms_fr I J I' J' → I' 127 21 = nI (tk_j T n i) → Q (some (.int 0)) I' J') → Q (some (.int 0)) (mm_wI I 127 21 (nI (tk_j T n i))) J := fun hp => hp _ _ (mf_w (by unfold mrj; decide) (by decide)) (by rw [mWI, if_pos rfl, if_pos rfl])
    have hmany : I 127 35 = nI os.length := hr.2.2.1
    have n6 : (nI os.length = 6) = (os.length = 6) := eq_nI (b := 6) (by omega) (by omega)
    rw [hk_156_171]
    simp only [bk_156.2.2.2.2.2.2.2.2.2.2.2.1, mmE, mmE0, mmH, mT, mR, mRf, mAl, mAs, mAz, mAn, Int.reduceToNat, Int32.reduceOfInt, Int64.reduceOfInt, Int.reduceAdd, swE, Nat.reduceDiv, Nat.reduceMod, Nat.reduceAdd, Nat.reduceMul, Nat.reduceEqDiff, Nat.reduceLeDiff, Nat.zero_le, List.length_nil, List.length_cons, Nat.zero_add, true_or, or_true, false_or, or_false, true_and, and_true, and_self, mb_01, mb_t, mb_f, one0, t.2.2.1, t.2.1, tsE, hmany, n6, c_fault hft, z01, true_implies, not_true_eq_false, not_false_eq_true, false_implies, and_true, true_and, Option.toList_some, Option.toList_none, List.cons_append, List.nil_append]
    by_cases q3 : tk_s (tk_c T n i) = 3
    · obtain ⟨v1, v2⟩ := tk_nv (Or.inr q3)
      have hv : J 127 20 = lN (tk_n (tk_c T n i)) := by rw [t.2.2.2.2 (Or.inr q3), v1]
      have e1 : (lN (tk_n (tk_c T n i)) < 1) = (tk_n (tk_c T n i) < 1) := lQ_lt (b := 1) (by omega) (by omega)
      simp only [q3, hv, lc_lt, e1, true_implies, not_true_eq_false, not_false_eq_true, false_implies, and_true, true_and]
      by_cases qn : tk_n (tk_c T n i) < 1
      · simp only [qn, true_implies, not_true_eq_false, not_false_eq_true, false_implies, and_true, true_and]
        refine flt ?_
        cases w with
        | zero =>
          unfold rdO rdE at K
          rw [if_neg (by omega)] at K
          exact K
        | succ w =>
          unfold rdO at K
          rw [if_neg hno, if_neg (fun q => by omega)] at K
          exact K
      · simp only [qn, true_implies, not_true_eq_false, not_false_eq_true, false_implies, and_true, true_and]
        cases w with
        | zero =>
          have q6 : os.length = 6 := by omega
          simp only [q6, true_implies, not_true_eq_false, not_false_eq_true, false_implies, and_true, true_and]
          refine flt ?_
          unfold rdO rdE at K
          rw [if_neg (by omega)] at K
          exact K
        | succ w =>
          have q6 : ¬ os.length = 6 := by omega
          simp only [q6, true_implies, not_true_eq_false, not_false_eq_true, false_implies, and_true, true_and]
          unfold rdO at K
          rw [if_neg hno, if_pos ⟨q3, by omega⟩] at K
          have c2 : vp_in (nI os.length) 6 = True := eq_true (vp_in_nI (by omega) (by decide))
          have c3 : (nI os.length).toNatClampNeg = os.length := nI_clamp (by omega)
          have c4 : mm_wI I 149 os.length (nI (tk_n (tk_c T n i))) 127 35 = nI os.length := by rw [mWI, if_neg (by decide)]; exact hmany
          simp only [bk_156.2.2.2.2.2.2.2.2.2.2.2.2.1, mmE, mmE0, mmH, mT, mR, mRf, mAl, mAs, mAz, mAn, Int.reduceToNat, Int32.reduceOfInt, Int64.reduceOfInt, Int.reduceAdd, swE, Nat.reduceDiv, Nat.reduceMod, Nat.reduceAdd, Nat.reduceMul, Nat.reduceEqDiff, Nat.reduceLeDiff, Nat.zero_le, List.length_nil, List.length_cons, Nat.zero_add, true_or, or_true, false_or, or_false, true_and, and_true, and_self, mb_01, mb_t, mb_f, hmany, hv, lN_i, c2, c3, c4, true_implies, not_true_eq_false, not_false_eq_true, false_implies, and_true, true_and]
          rw [← nI_succ]
          have fa := mf_tr (mf_a (I := I) (J := J) (j := os.length) (x := nI (tk_n (tk_c T n i)))) (mf_w (j := 35) (x := nI (os.length + 1)) (by unfold mrj; decide) (by decide))
          have hr' : rdM (mm_wI (mm_wI I 149 os.length (nI (tk_n (tk_c T n i)))) 127 35 (nI (os.length + 1))) (3, nI m, os ++ [tk_n (tk_c T n i)]) := by
            obtain ⟨h1, h2, h3, h4⟩ := hr
            refine ⟨?_, ?_, ?_, fun q hq => ?_⟩
            · rw [mWI, if_pos rfl, if_neg (by decide), mWI, if_neg (by decide)]; exact h1
            · rw [mWI, if_pos rfl, if_neg (by decide), mWI, if_neg (by decide)]; exact h2
            · rw [mWI, if_pos rfl, if_pos rfl]
              show _ = nI (os ++ [tk_n (tk_c T n i)]).length
              rw [List.length_append]
              rfl
            · have hq : q < (os ++ [tk_n (tk_c T n i)]).length := hq
              rw [List.length_append] at hq
              have hq : q < os.length + 1 := hq
              rw [mWI, if_neg (by decide), mWI, if_pos rfl]
              show _ = nI ((os ++ [tk_n (tk_c T n i)]).getD q 0)
              by_cases e : q = os.length
              · rw [if_pos e, e, List.getD_eq_getElem?_getD, List.getElem?_append_right (Nat.le_refl _), Nat.sub_self]
                rfl
              · rw [if_neg e, List.getD_eq_getElem?_getD, List.getElem?_append_left (by omega), ← List.getD_eq_getElem?_getD]
                exact h4 q (by show q < os.length; omega)
          refine w_tk2 (enM_fr h fa.1) l1 (by rw [mWI, if_pos rfl, if_neg (by decide), mWI, if_neg (by decide)]; exact t.1) (fun I2 J2 f2 f2' f2'' h2 t2 l2 => ?_)
          have hr2 := rdM_fr hr' f2' f2''
          have f02 := mf_tr fa f2
          have ft2 : I2 127 21 = -5 := by rw [f2'' _ (by decide) (by decide) (by decide), mWI, if_pos rfl, if_neg (by decide), mWI, if_neg (by decide)]; exact hft
          have hl : (os ++ [tk_n (tk_c T n i)]).length = os.length + 1 := by rw [List.length_append]; rfl
          have hne : os ++ [tk_n (tk_c T n i)] ≠ [] := by
            intro q
            rw [q] at hl
            cases hl
          simp only [bk_156.2.2.2.2.2.2.2.2.2.2.2.2.2.1, bk_156.2.2.2.2.2.2.2.2.2.2.2.2.2.2.1, mmE, mmE0, mmH, mT, mR, mRf, mAl, mAs, mAz, mAn, Int.reduceToNat, Int32.reduceOfInt, Int64.reduceOfInt, Int.reduceAdd, swE, Nat.reduceDiv, Nat.reduceMod, Nat.reduceAdd, Nat.reduceMul, Nat.reduceEqDiff, Nat.reduceLeDiff, Nat.zero_le, List.length_nil, List.length_cons, Nat.zero_add, true_or, or_true, false_or, or_false, true_and, and_true, and_self, mb_01, mb_t, mb_f, t2.2.2.1, tsE, Option.toList_some, Option.toList_none, List.cons_append, List.nil_append]
          by_cases q0 : tk_s (tk_c T n (tk_e T n i)) = 0
          · simp only [q0, true_implies, not_true_eq_false, not_false_eq_true, false_implies, and_true, true_and]
            rw [hk_156_171]
            simp only [bk_156.2.2.2.2.2.2.2.2.2.2.2.2.2.2.2, mmE, mmE0, mmH, mT, mR, mRf, mAl, mAs, mAz, mAn, Int.reduceToNat, Int32.reduceOfInt, Int64.reduceOfInt, Int.reduceAdd, swE, Nat.reduceDiv, Nat.reduceMod, Nat.reduceAdd, Nat.reduceMul, Nat.reduceEqDiff, Nat.reduceLeDiff, Nat.zero_le, List.length_nil, List.length_cons, Nat.zero_add, true_or, or_true, false_or, or_false, true_and, and_true, and_self, mb_01, mb_t, mb_f, z01, true_implies, not_true_eq_false, not_false_eq_true, false_implies, and_true, true_and]
            have e : rdO T n m w (os ++ [tk_n (tk_c T n i)]) (tk_e T n i) = .ok (3, nI m, os ++ [tk_n (tk_c T n i)]) := by
              cases w with
              | zero =>
                unfold rdO rdE
                rw [if_pos q0]
              | succ w =>
                unfold rdO
                rw [if_pos ⟨hne, q0⟩]
            rw [e] at K
            exact K I2 J2 f02 hr2
          · simp only [q0, true_implies, not_true_eq_false, not_false_eq_true, false_implies, and_true, true_and]
            refine w_mofs w (os ++ [tk_n (tk_c T n i)]) (tk_e T n i) I2 J2 (by omega) (fun q => q0 q.2) l1 h2 t2 ft2 hr2 ?_
            cases e : rdO T n m w (os ++ [tk_n (tk_c T n i)]) (tk_e T n i) with
            | error p =>
              rw [e] at K
              exact fun I' J' f' => K I' J' (mf_tr f02 f')
            | ok x =>
              rw [e] at K
              exact fun I' J' f' r' => K I' J' (mf_tr f02 f') r'
    · simp only [q3, true_implies, not_true_eq_false, not_false_eq_true, false_implies, and_true, true_and]
      refine flt ?_
      cases w with
      | zero =>
        have hne : os ≠ [] := by
          rintro rfl
          cases hw
        unfold rdO rdE at K
        rw [if_neg (fun q => hno ⟨hne, q⟩)] at K
        exact K
      | succ w =>
        unfold rdO at K
        rw [if_neg hno, if_neg (fun q => q3 q.1)] at K
        exact K
theorem lc_le {x y : Int64} : (lg_cmp x y ≤ 0) = ¬ (y < x) := by
  rw [← lc_gt, Int32.not_lt]
theorem in_79 {k : Nat} (h : k < 11) : (decide ((7 : Int64) ≤ (nI k).toInt64) && decide ((nI k).toInt64 ≤ (9 : Int64))) = decide (7 ≤ k ∧ k ≤ 9) := by
  have := @in_ab (nI k) 7 9 (by omega) (by omega)
  rw [nI_toInt (by omega)] at this
  exact this.trans (decide_eq_decide.mpr (by omega))
theorem in_79m : (decide ((7 : Int64) ≤ (wI none).toInt64) && decide ((wI none).toInt64 ≤ (9 : Int64))) = false := by decide
theorem rdW_lt {T : Nat → Nat} {n i k : Nat} {W : Nat → List Nat} (e : rdW T n W i = some k) : k < 11 := by
  unfold rdW at e
  split at e
  · exact (wh_lt e).1
  · cases e
theorem w_mReason {i : Nat} (hlg : lg < 2) (hW : rw_W W) (hi : i ≤ n) (h : enM I J T n lg W np) (t : tkM I J T n i) (hft : I 127 21 = -5) (K : match rdR T n (W lg) i with
    | .error p => ∀ I' J', ms_fr I J I' J' → I' 127 21 = nI p → Q (some (.int 0)) I' J'
    | .ok x => ∀ I' J', ms_fr I J I' J' → rdM I' x → Q (some (.int 1)) I' J') : mm_call z (d + 4) 156 [.ref 127] I J Q := by
  have l1 := (tk_le (T := T) hi).2.2
  simp only [ce_156, bk_156.1, mmE, mmE0, mmH, mT, mR, mRf, mAl, mAs, mAz, mAn, Int.reduceToNat, Int32.reduceOfInt, Int64.reduceOfInt, Int.reduceAdd, swE, Nat.reduceDiv, Nat.reduceMod, Nat.reduceAdd, Nat.reduceMul, Nat.reduceEqDiff, Nat.reduceLeDiff, Nat.zero_le, List.length_nil, List.length_cons, Nat.zero_add, true_or, or_true, false_or, or_false, true_and, and_true, and_self, mb_01, mb_t, mb_f]
  have f0 : ms_fr I J (mm_wI (mm_wI (mm_wI I 127 33 0) 127 34 (-5)) 127 35 0) J := mf_tr (mf_tr (mf_w (by unfold mrj; decide) (by decide)) (mf_w (by unfold mrj; decide) (by decide))) (mf_w (by unfold mrj; decide) (by decide))
  have g0 : ∀ j, j ≠ 33 → j ≠ 34 → j ≠ 35 → mm_wI (mm_wI (mm_wI I 127 33 0) 127 34 (-5)) 127 35 0 127 j = I 127 j := by
    intro j h1 h2 h3
    rw [mWI, if_pos rfl, if_neg h3, mWI, if_pos rfl, if_neg h2, mWI, if_pos rfl, if_neg h1]
  have r0 : rdM (mm_wI (mm_wI (mm_wI I 127 33 0) 127 34 (-5)) 127 35 0) (0, -5, []) := by
    refine ⟨?_, ?_, ?_, fun k hk => by cases hk⟩
    · rw [mWI, if_pos rfl, if_neg (by decide), mWI, if_pos rfl, if_neg (by decide), mWI, if_pos rfl, if_pos rfl]; rfl
    · rw [mWI, if_pos rfl, if_neg (by decide), mWI, if_pos rfl, if_pos rfl]
    · rw [mWI, if_pos rfl, if_pos rfl]; rfl
  generalize mm_wI (mm_wI (mm_wI I 127 33 0) 127 34 (-5)) 127 35 0 = I0 at f0 g0 r0 ⊢
  have h0 := enM_fr h f0.1
  have t0 : tkM I0 J T n i := by
    obtain ⟨a, b, c, e, f⟩ := t
    refine ⟨?_, ?_, ?_, e, f⟩
    · rw [g0 _ (by decide) (by decide) (by decide)]; exact a
    · rw [g0 _ (by decide) (by decide) (by decide)]; exact b
    · rw [g0 _ (by decide) (by decide) (by decide)]; exact c
  have ft0 : I0 127 21 = -5 := by rw [g0 _ (by decide) (by decide) (by decide)]; exact hft
  have flt : ∀ (Ix : mm_I) (Jx : mm_J) p, ms_fr I J Ix Jx → (∀ I' J', ms_fr I J I' J' → I' 127 21 = nI p → Q (some (.int 0)) I' J') → Q (some (.int 0)) (mm_wI Ix 127 21 (nI p)) Jx := fun Ix Jx p fx hp => hp _ _ (mf_tr fx (mf_w (by unfold mrj; decide) (by decide))) (by rw [mWI, if_pos rfl, if_pos rfl])
  unfold rdR at K
  simp only [t0.2.2.1, tsE, z01, true_implies, not_true_eq_false, not_false_eq_true, false_implies, and_true, true_and, mmE, mmE0, mmH, mT, mR, mRf, mAl, mAs, mAz, mAn, Int.reduceToNat, Int32.reduceOfInt, Int64.reduceOfInt, Int.reduceAdd, swE, Nat.reduceDiv, Nat.reduceMod, Nat.reduceAdd, Nat.reduceMul, Nat.reduceEqDiff, Nat.reduceLeDiff, Nat.zero_le, List.length_nil, List.length_cons, Nat.zero_add, true_or, or_true, false_or, or_false, true_and, and_true, and_self, mb_01, mb_t, mb_f]
  by_cases q0 : tk_s (tk_c T n i) = 0
  · rw [if_pos q0] at K
    simp only [q0, true_implies, not_true_eq_false, not_false_eq_true, false_implies, and_true, true_and]
    exact K I0 J f0 r0
  rw [if_neg q0] at K
  simp only [q0, true_implies, not_true_eq_false, not_false_eq_true, false_implies, and_true, true_and]
  have eo : (if tk_s (tk_c T n i) = 1 then wh (W lg) (tk_c T n i) else none) = rdW T n (W lg) i := rfl
  simp only [bk_156.2.1, mmE, mmE0, mmH, mT, mR, mRf, mAl, mAs, mAz, mAn, Int.reduceToNat, Int32.reduceOfInt, Int64.reduceOfInt, Int.reduceAdd, swE, Nat.reduceDiv, Nat.reduceMod, Nat.reduceAdd, Nat.reduceMul, Nat.reduceEqDiff, Nat.reduceLeDiff, Nat.zero_le, List.length_nil, List.length_cons, Nat.zero_add, true_or, or_true, false_or, or_false, true_and, and_true, and_self, mb_01, mb_t, mb_f, Option.toList_some, Option.toList_none, List.cons_append, List.nil_append, c_which hlg hW h0.2.1 t0.2.2.1 t0.2.2.2.1, eo, c_in, mb_0, t0.2.1, c_fault ft0, z01]
  cases e0 : rdW T n (W lg) i with
  | none =>
    rw [e0, if_neg (by decide), if_neg (by decide), if_neg (by decide)] at K
    rw [in_79m]
    simp only [true_implies, not_true_eq_false, not_false_eq_true, false_implies, and_true, true_and]
    exact flt I0 J _ f0 K
  | some k =>
    have k11 := rdW_lt e0
    rw [e0] at K
    rw [show wI (some k) = nI k from rfl, in_79 k11]
    by_cases q79 : 7 ≤ k ∧ k ≤ 9
    · simp only [q79, decide_true, Bool.true_eq_false, true_implies, not_true_eq_false, not_false_eq_true, false_implies, and_true, true_and]
      have c6 : nI k - 6 = nI (k - 6) := by rw [show (6 : Int32) = nI 6 from rfl, nI_sub (by omega)]
      simp only [and_self, decide_true, Bool.true_eq_false, true_implies, not_true_eq_false, not_false_eq_true, false_implies, and_true, true_and, bk_156.2.2.1, mmE, mmE0, mmH, mT, mR, mRf, mAl, mAs, mAz, mAn, Int.reduceToNat, Int32.reduceOfInt, Int64.reduceOfInt, Int.reduceAdd, swE, Nat.reduceDiv, Nat.reduceMod, Nat.reduceAdd, Nat.reduceMul, Nat.reduceEqDiff, Nat.reduceLeDiff, Nat.zero_le, List.length_nil, List.length_cons, Nat.zero_add, true_or, or_true, false_or, or_false, true_and, and_true, and_self, mb_01, mb_t, mb_f, c6]
      have fw : ms_fr I0 J (mm_wI I0 127 33 (nI (k - 6))) J := mf_w (by unfold mrj; decide) (by decide)
      have rw1 : rdM (mm_wI I0 127 33 (nI (k - 6))) (k - 6, -5, []) := by
        refine ⟨?_, ?_, ?_, fun k hk => by cases hk⟩
        · rw [mWI, if_pos rfl, if_pos rfl]
        · rw [mWI, if_pos rfl, if_neg (by decide)]; exact r0.2.1
        · rw [mWI, if_pos rfl, if_neg (by decide)]; exact r0.2.2.1
      refine w_tk2 (enM_fr h0 fw.1) l1 (by rw [mWI, if_pos rfl, if_neg (by decide)]; exact t0.1) (fun I2 J2 f2 f2' f2'' h2 t2 l2 => ?_)
      have f02 := mf_tr f0 (mf_tr fw f2)
      have r2 := rdM_fr rw1 f2' f2''
      have re2 : I2 127 33 = nI (k - 6) := r2.1
      have ft2 : I2 127 21 = -5 := by rw [f2'' _ (by decide) (by decide) (by decide), mWI, if_pos rfl, if_neg (by decide)]; exact ft0
      have c3 : (3 ≤ nI (k - 6)) = (3 ≤ k - 6) := le_nI (a := 3) (by omega) (by omega)
      simp only [bk_156.2.2.2.1, bk_156.2.2.2.2.1, bk_156.2.2.2.2.2.1, mmE, mmE0, mmH, mT, mR, mRf, mAl, mAs, mAz, mAn, Int.reduceToNat, Int32.reduceOfInt, Int64.reduceOfInt, Int.reduceAdd, swE, Nat.reduceDiv, Nat.reduceMod, Nat.reduceAdd, Nat.reduceMul, Nat.reduceEqDiff, Nat.reduceLeDiff, Nat.zero_le, List.length_nil, List.length_cons, Nat.zero_add, true_or, or_true, false_or, or_false, true_and, and_true, and_self, mb_01, mb_t, mb_f, Option.toList_some, Option.toList_none, List.cons_append, List.nil_append, re2, c3, t2.2.2.1, t2.2.1, tsE, c_fault ft2, z01]
      by_cases q9 : 3 ≤ k - 6
      · have k9 : k = 9 := by omega
        subst k9
        rw [if_neg (by decide), if_neg (by decide), if_pos rfl] at K
        unfold rdU at K
        have t33 : (3 ≤ 9 - 6) = True := by decide
        simp only [t33, true_implies, not_true_eq_false, not_false_eq_true, false_implies, and_true, true_and, bk_156.2.2.2.2.2.2.1, bk_156.2.2.2.2.2.2.2.1, mmE, mmE0, mmH, mT, mR, mRf, mAl, mAs, mAz, mAn, Int.reduceToNat, Int32.reduceOfInt, Int64.reduceOfInt, Int.reduceAdd, swE, Nat.reduceDiv, Nat.reduceMod, Nat.reduceAdd, Nat.reduceMul, Nat.reduceEqDiff, Nat.reduceLeDiff, Nat.zero_le, List.length_nil, List.length_cons, Nat.zero_add, true_or, or_true, false_or, or_false, true_and, and_true, and_self, mb_01, mb_t, mb_f, Option.toList_some, Option.toList_none, List.cons_append, List.nil_append, t2.2.2.1, t2.2.1, tsE, c_fault ft2, z01]
        by_cases q3 : tk_s (tk_c T n (tk_e T n i)) = 3
        · obtain ⟨v1, v2⟩ := tk_nv (Or.inr q3)
          have hv : J2 127 20 = lN (tk_n (tk_c T n (tk_e T n i))) := by rw [t2.2.2.2.2 (Or.inr q3), v1]
          have e1 : ((16 : Int64) < lN (tk_n (tk_c T n (tk_e T n i)))) = (16 < tk_n (tk_c T n (tk_e T n i))) := lQ_lt (a := 16) (by omega) (by omega)
          simp only [q3, hv, lc_le, e1, true_implies, not_true_eq_false, not_false_eq_true, false_implies, and_true, true_and]
          by_cases qn : 16 < tk_n (tk_c T n (tk_e T n i))
          · rw [if_neg (fun q => by omega)] at K
            simp only [qn, true_implies, not_true_eq_false, not_false_eq_true, false_implies, and_true, true_and]
            exact flt I2 J2 _ f02 K
          · rw [if_pos ⟨q3, by omega⟩] at K
            simp only [qn, true_implies, not_true_eq_false, not_false_eq_true, false_implies, and_true, true_and, bk_156.2.2.2.2.2.2.2.2.1, mmE, mmE0, mmH, mT, mR, mRf, mAl, mAs, mAz, mAn, Int.reduceToNat, Int32.reduceOfInt, Int64.reduceOfInt, Int.reduceAdd, swE, Nat.reduceDiv, Nat.reduceMod, Nat.reduceAdd, Nat.reduceMul, Nat.reduceEqDiff, Nat.reduceLeDiff, Nat.zero_le, List.length_nil, List.length_cons, Nat.zero_add, true_or, or_true, false_or, or_false, true_and, and_true, and_self, mb_01, mb_t, mb_f, hv, lN_i]
            have fx : ms_fr I2 J2 (mm_wI I2 127 34 (nI (tk_n (tk_c T n (tk_e T n i))))) J2 := mf_w (by unfold mrj; decide) (by decide)
            have rx : rdM (mm_wI I2 127 34 (nI (tk_n (tk_c T n (tk_e T n i))))) (3, nI (tk_n (tk_c T n (tk_e T n i))), []) := by
              refine ⟨?_, ?_, ?_, fun k hk => by cases hk⟩
              · rw [mWI, if_pos rfl, if_neg (by decide)]; exact r2.1
              · rw [mWI, if_pos rfl, if_pos rfl]
              · rw [mWI, if_pos rfl, if_neg (by decide)]; exact r2.2.2.1
            refine w_tk2 (enM_fr h2 fx.1) l2 (by rw [mWI, if_pos rfl, if_neg (by decide)]; exact t2.1) (fun I3 J3 f3 f3' f3'' h3 t3 l3 => ?_)
            have f03 := mf_tr f02 (mf_tr fx f3)
            have r3 := rdM_fr rx f3' f3''
            have ft3 : I3 127 21 = -5 := by rw [f3'' _ (by decide) (by decide) (by decide), mWI, if_pos rfl, if_neg (by decide)]; exact ft2
            simp only [mmE, mmE0, mmH, mT, mR, mRf, mAl, mAs, mAz, mAn, Int.reduceToNat, Int32.reduceOfInt, Int64.reduceOfInt, Int.reduceAdd, swE, Nat.reduceDiv, Nat.reduceMod, Nat.reduceAdd, Nat.reduceMul, Nat.reduceEqDiff, Nat.reduceLeDiff, Nat.zero_le, List.length_nil, List.length_cons, Nat.zero_add, true_or, or_true, false_or, or_false, true_and, and_true, and_self, mb_01, mb_t, mb_f, Option.toList_some, Option.toList_none, List.cons_append, List.nil_append, t3.2.2.1, tsE, z01]
            by_cases q00 : tk_s (tk_c T n (tk_e T n (tk_e T n i))) = 0
            · rw [if_pos q00] at K
              simp only [q00, true_implies, not_true_eq_false, not_false_eq_true, false_implies, and_true, true_and]
              exact K I3 J3 f03 r3
            · rw [if_neg q00] at K
              have eo3 : (if tk_s (tk_c T n (tk_e T n (tk_e T n i))) = 1 then wh (W lg) (tk_c T n (tk_e T n (tk_e T n i))) else none) = rdW T n (W lg) (tk_e T n (tk_e T n i)) := rfl
              simp only [q00, true_implies, not_true_eq_false, not_false_eq_true, false_implies, and_true, true_and, bk_156.2.2.2.2.2.2.2.2.2.1, mmE, mmE0, mmH, mT, mR, mRf, mAl, mAs, mAz, mAn, Int.reduceToNat, Int32.reduceOfInt, Int64.reduceOfInt, Int.reduceAdd, swE, Nat.reduceDiv, Nat.reduceMod, Nat.reduceAdd, Nat.reduceMul, Nat.reduceEqDiff, Nat.reduceLeDiff, Nat.zero_le, List.length_nil, List.length_cons, Nat.zero_add, true_or, or_true, false_or, or_false, true_and, and_true, and_self, mb_01, mb_t, mb_f, Option.toList_some, Option.toList_none, List.cons_append, List.nil_append, c_which hlg hW h3.2.1 t3.2.2.1 t3.2.2.2.1, eo3, t3.2.1, c_fault ft3, z01]
              have e10 : (wI (rdW T n (W lg) (tk_e T n (tk_e T n i))) = 10) = (rdW T n (W lg) (tk_e T n (tk_e T n i)) = some 10) := by
                cases e : rdW T n (W lg) (tk_e T n (tk_e T n i)) with
                | none => exact propext ⟨fun q => absurd q (by decide), fun q => by cases q⟩
                | some kk =>
                  have kk11 := rdW_lt e
                  rw [show wI (some kk) = nI kk from rfl, show (10 : Int32) = nI 10 from rfl, eq_nI (by omega) (by omega), Option.some_inj]
              simp only [e10]
              by_cases q10 : rdW T n (W lg) (tk_e T n (tk_e T n i)) = some 10
              · rw [if_pos q10] at K
                simp only [q10, true_implies, not_true_eq_false, not_false_eq_true, false_implies, and_true, true_and, bk_156.2.2.2.2.2.2.2.2.2.2.1, mmE, mmE0, mmH, mT, mR, mRf, mAl, mAs, mAz, mAn, Int.reduceToNat, Int32.reduceOfInt, Int64.reduceOfInt, Int.reduceAdd, swE, Nat.reduceDiv, Nat.reduceMod, Nat.reduceAdd, Nat.reduceMul, Nat.reduceEqDiff, Nat.reduceLeDiff, Nat.zero_le, List.length_nil, List.length_cons, Nat.zero_add, true_or, or_true, false_or, or_false, true_and, and_true, and_self, mb_01, mb_t, mb_f]
                refine w_tk2 h3 l3 t3.1 (fun I4 J4 f4 f4' f4'' h4 t4 l4 => ?_)
                have f04 := mf_tr f03 f4
                have ft4 : I4 127 21 = -5 := by rw [f4'' _ (by decide) (by decide) (by decide)]; exact ft3
                simp only [mmE, mmE0, mmH, mT, mR, mRf, mAl, mAs, mAz, mAn, Int.reduceToNat, Int32.reduceOfInt, Int64.reduceOfInt, Int.reduceAdd, swE, Nat.reduceDiv, Nat.reduceMod, Nat.reduceAdd, Nat.reduceMul, Nat.reduceEqDiff, Nat.reduceLeDiff, Nat.zero_le, List.length_nil, List.length_cons, Nat.zero_add, true_or, or_true, false_or, or_false, true_and, and_true, and_self, mb_01, mb_t, mb_f, Option.toList_some, Option.toList_none, List.cons_append, List.nil_append]
                refine w_mofs (z := z) (d := d) (m := tk_n (tk_c T n (tk_e T n i))) 6 [] (tk_e T n (tk_e T n (tk_e T n i))) I4 J4 rfl (fun q => q.1 rfl) l3 h4 t4 ft4 (rdM_fr r3 f4' f4'') ?_
                cases e : rdO T n (tk_n (tk_c T n (tk_e T n i))) 6 [] (tk_e T n (tk_e T n (tk_e T n i))) with
                | error p =>
                  rw [e] at K
                  exact fun I' J' f' => K I' J' (mf_tr f04 f')
                | ok x =>
                  rw [e] at K
                  exact fun I' J' f' r' => K I' J' (mf_tr f04 f') r'
              · rw [if_neg q10] at K
                simp only [q10, true_implies, not_true_eq_false, not_false_eq_true, false_implies, and_true, true_and]
                exact flt I3 J3 _ f03 K
        · rw [if_neg (fun q => q3 q.1)] at K
          simp only [q3, true_implies, not_true_eq_false, not_false_eq_true, false_implies, and_true, true_and]
          exact flt I2 J2 _ f02 K
      · have K2 : match rdE T n (tk_e T n i) (k - 6, -5, []) with
            | .error p => ∀ I' J', ms_fr I J I' J' → I' 127 21 = nI p → Q (some (.int 0)) I' J'
            | .ok x => ∀ I' J', ms_fr I J I' J' → rdM I' x → Q (some (.int 1)) I' J' := by
          rcases (show k = 7 ∨ k = 8 by omega) with rfl | rfl
          · rw [if_pos rfl] at K
            exact K
          · rw [if_neg (by decide), if_pos rfl] at K
            exact K
        simp only [q9, true_implies, not_true_eq_false, not_false_eq_true, false_implies, and_true, true_and]
        unfold rdE at K2
        by_cases qe : tk_s (tk_c T n (tk_e T n i)) = 0
        · rw [if_pos qe] at K2
          simp only [qe, true_implies, not_true_eq_false, not_false_eq_true, false_implies, and_true, true_and]
          exact K2 I2 J2 f02 r2
        · rw [if_neg qe] at K2
          simp only [qe, true_implies, not_true_eq_false, not_false_eq_true, false_implies, and_true, true_and]
          exact flt I2 J2 _ f02 K2
    · have n7 : ¬ (some k = some 7) := fun q => by injection q with q; omega
      have n8 : ¬ (some k = some 8) := fun q => by injection q with q; omega
      have n9 : ¬ (some k = some 9) := fun q => by injection q with q; omega
      rw [if_neg n7, if_neg n8, if_neg n9] at K
      simp only [q79, decide_false, true_implies, not_true_eq_false, not_false_eq_true, false_implies, and_true, true_and]
      exact flt I0 J _ f0 K
end MS
