/-! the reference's reader -/
def mrj (j : Nat) : Prop := j < 17 ∨ j = 20 ∨ (23 ≤ j ∧ j < 33) ∨ 36 ≤ j
def mr_fr (I : mm_I) (J : mm_J) (I' : mm_I) (J' : mm_J) : Prop := (∀ k, k ≠ 127 → k ≠ 141 → k ≠ 149 → I' k = I k) ∧ (∀ j, mrj j → I' 127 j = I 127 j) ∧ ∀ k j, k ≠ 127 → J' k j = J k j
theorem mr_rf {I : mm_I} {J : mm_J} : mr_fr I J I J := ⟨fun _ _ _ _ => rfl, fun _ _ => rfl, fun _ _ _ => rfl⟩
theorem mr_tr {I I' I'' : mm_I} {J J' J'' : mm_J} (h : mr_fr I J I' J') (h' : mr_fr I' J' I'' J'') : mr_fr I J I'' J'' := ⟨fun k a b c => (h'.1 k a b c).trans (h.1 k a b c), fun j q => (h'.2.1 j q).trans (h.2.1 j q), fun k j a => (h'.2.2 k j a).trans (h.2.2 k j a)⟩
theorem mr_mv {I I' : mm_I} {J J' : mm_J} (h : rm_mv I J I' J') : mr_fr I J I' J' := ⟨fun k a _ _ => h.1 k a, fun j q => h.2.1 j (by unfold mrj at q; omega) (by unfold mrj at q; omega) (by unfold mrj at q; omega), fun k j a => h.2.2 k j a⟩
theorem mr_w {I : mm_I} {J : mm_J} {j : Nat} {x : Int32} (hj : ¬ mrj j) : mr_fr I J (mm_wI I 127 j x) J := by
  refine ⟨fun c a _ _ => ?_, fun i hi => ?_, fun _ _ _ => rfl⟩
  · funext q
    rw [mWI, if_neg a]
  · rw [mWI, if_pos rfl, if_neg (fun e => by rw [e] at hi; exact hj hi)]
theorem mr_a {I : mm_I} {J : mm_J} {k j : Nat} {x : Int32} (hk : k = 141 ∨ k = 149) : mr_fr I J (mm_wI I k j x) J := by
  refine ⟨fun c a b e => ?_, fun i hi => ?_, fun _ _ _ => rfl⟩
  · funext q
    rw [mWI, if_neg (by omega)]
  · rw [mWI, if_neg (by omega)]
def enM (I : mm_I) (J : mm_J) (T : Nat → Nat) (n lg : Nat) (W : Nat → Nat → List Nat) (np : Nat) : Prop := rm_tape I T n ∧ rw_M I J lg W ∧ I 127 0 = nI np
theorem enM_fr {I I' : mm_I} {J J' : mm_J} {T : Nat → Nat} {n lg : Nat} {W : Nat → Nat → List Nat} {np : Nat} (h : enM I J T n lg W np) (f : mr_fr I J I' J') : enM I' J' T n lg W np := by
  obtain ⟨h1, h2, h3⟩ := h
  refine ⟨⟨?_, h1.2.1, fun i hi => ?_⟩, ⟨?_, fun l k hl hk => ?_⟩, ?_⟩
  · rw [f.2.1 _ (by unfold mrj; decide)]; exact h1.1
  · rw [f.1 138 (by decide) (by decide) (by decide)]; exact h1.2.2 i hi
  · rw [f.2.1 _ (by unfold mrj; decide)]; exact h2.1
  · rw [f.2.2 139 _ (by decide)]; exact h2.2 l k hl hk
  · rw [f.2.1 _ (by unfold mrj; decide)]; exact h3
def tkM (I : mm_I) (J : mm_J) (T : Nat → Nat) (n i : Nat) : Prop := I 127 17 = nI (tk_e T n i) ∧ I 127 18 = nI (tk_j T n i) ∧ I 127 19 = nI (tk_s (tk_c T n i)) ∧ (tk_s (tk_c T n i) = 1 → J 127 20 = tk_w (tk_c T n i)) ∧ (tk_s (tk_c T n i) = 2 ∨ tk_s (tk_c T n i) = 3 → J 127 20 = tk_v (tk_c T n i))
section MR
variable {z : mm_S} {d : Nat} {I : mm_I} {J : mm_J} {T : Nat → Nat} {n lg np : Nat} {W : Nat → Nat → List Nat} {Q : Option Value → mm_I → mm_J → Prop}
theorem w_tk {i : Nat} (h : enM I J T n lg W np) (hi : i ≤ n) (hat : I 127 17 = nI i) (k : ∀ I' J', mr_fr I J I' J' → (∀ k, k ≠ 127 → I' k = I k) → (∀ j, j ≠ 17 → j ≠ 18 → j ≠ 19 → I' 127 j = I 127 j) → enM I' J' T n lg W np → tkM I' J' T n i → tk_e T n i ≤ n → Q none I' J') : mm_call z (d + 3) 147 [.ref 127] I J Q := by
  refine w_take h.1 hi hat (fun I' J' m h1 h2 h3 h4 h5 => ?_)
  exact k I' J' (mr_mv m) m.1 m.2.1 (enM_fr h (mr_mv m)) ⟨h1, h2, h3, h4, h5⟩ (tk_le (T := T) hi).2.2
theorem c_fault {x : Int32} (h : I 127 21 = -5) (Q : Option Value → mm_I → mm_J → Prop) : mm_call z (d + 1) 150 [.ref 127, .int x] I J Q = Q (some (.int 0)) (mm_wI I 127 21 x) J := by
  refine mm_ev ?_ Q
  simp only [ce_150, bk_150, mmE, mmE0, mmH, mT, mR, mRf, mAl, mAs, mAz, mAn, Int.reduceToNat, Int32.reduceOfInt, Int64.reduceOfInt, Int.reduceAdd, swE, Nat.reduceDiv, Nat.reduceMod, Nat.reduceAdd, Nat.reduceMul, Nat.reduceEqDiff, Nat.reduceLeDiff, Nat.zero_le, List.length_nil, List.length_cons, Nat.zero_add, true_or, or_true, false_or, or_false, true_and, and_true, and_self, mb_01, mb_t, mb_f, h, z01, true_implies, not_true_eq_false, false_implies, and_true, true_and]
theorem c_mPointsOf {k : Int32} (Q : Option Value → mm_I → mm_J → Prop) : mm_call z (d + 1) 155 [.int k] I J Q = Q (some (.int (fa_pointsOf k))) I J := by
  refine mm_ev ?_ Q
  unfold fa_pointsOf
  simp only [ce_155, bk_155, mmE, mmE0, mmH, mT, mR, mRf, mAl, mAs, mAz, mAn, Int.reduceToNat, Int32.reduceOfInt, Int64.reduceOfInt, Int.reduceAdd, swE, Nat.reduceDiv, Nat.reduceMod, Nat.reduceAdd, Nat.reduceMul, Nat.reduceEqDiff, Nat.reduceLeDiff, Nat.zero_le, List.length_nil, List.length_cons, Nat.zero_add, true_or, or_true, false_or, or_false, true_and, and_true, and_self, mb_01, mb_t, mb_f]
  by_cases h0 : k = 0
  · simp [h0]
  · by_cases h4 : k = 4
    · simp [h4]
    · by_cases h6 : k = 6
      · simp [h6]
      · simp [h0, h4, h6]
theorem rm_slot_n {k a b c e : Nat} (hnp : np ≤ 7) (hk : k < 7) (ha : a < np) (hb : b < np) (hc : c < np) (he : e < 7) (h4 : kdN k = 4 → e < np) : rm_slot np (nI k) (nI a) (nI b) (nI c) (nI e) = eI ((n_number k a b c e).map sl) := by
  unfold rm_slot
  rw [if_pos, slot_n hk (by omega) (by omega) (by omega) he]
  rw [inN_nI (by omega), inN_nI (by omega), inN_nI (by omega), inN_nI (by omega), inN_nI (by omega), decide_eq_true hk, decide_eq_true ha, decide_eq_true hb, decide_eq_true hc]
  by_cases q : kdN k = 4
  · rw [decide_eq_true (h4 q)]
    simp
  · have : k = 0 ∨ k = 4 ∨ k = 6 := by
      unfold kdN at q
      split at q
      · assumption
      · exact absurd rfl q
    rcases this with rfl | rfl | rfl <;> rfl
theorem w_mrf_loop {k : Nat} {bg : Int32} (hnp : np ≤ 7) (hk : k < 7) : ∀ (w c i : Nat) (I : mm_I) (J : mm_J), c + w = kdN k → i ≤ n → enM I J T n lg W np → I 127 17 = nI i → I 127 22 = nI k → I 127 21 = -5 → (match rdP T n np w i with
    | .error p => ∀ I' J', mr_fr I J I' J' → I' 127 21 = nI p → Q (some (.int 0)) I' J'
    | .ok q => ∀ I' J', mr_fr I J I' J' → enM I' J' T n lg W np → (∀ x, x < c ∨ c + w ≤ x → I' 141 x = I 141 x) → (∀ x, x < w → I' 141 (c + x) = nI (q.1.getD x 0)) → I' 127 17 = nI q.2 → I' 127 22 = nI k → I' 127 21 = -5 → mm_at z (mm_call z (d + 3)) (mm_code 153) Q 108 [some (.ref 127), some (.int bg), some (.int (nI (kdN k)))] [] I' J') → mm_at z (mm_call z (d + 3)) (mm_code 153) Q 46 [some (.ref 127), some (.int bg), some (.int (nI c))] [] I J
  | 0, c, i, I, J, hc, hi, h, hat, hkd, hft, K => by
    rw [hk_153_46]
    have k4 := kdN_le k
    have c1 : (nI (kdN k) ≤ nI c) = True := by rw [le_nI (by omega) (by omega)]; exact eq_true (by omega)
    have hK : mm_at z (mm_call z (d + 3)) (mm_code 153) Q 108 [some (.ref 127), some (.int bg), some (.int (nI (kdN k)))] [] I J := K I J mr_rf h (fun _ _ => rfl) (fun x hx => by omega) hat hkd hft
    have e : c = kdN k := by omega
    subst e
    simp only [mmE, mmE0, mmH, mT, mR, mRf, mAl, mAs, mAz, mAn, Int.reduceToNat, Int32.reduceOfInt, Int64.reduceOfInt, Int.reduceAdd, swE, Nat.reduceDiv, Nat.reduceMod, Nat.reduceAdd, Nat.reduceMul, Nat.reduceEqDiff, Nat.reduceLeDiff, Nat.zero_le, List.length_nil, List.length_cons, Nat.zero_add, true_or, or_true, false_or, or_false, true_and, and_true, and_self, mb_01, mb_t, mb_f, hkd, c_mPointsOf, pointsOf_n hk, Option.toList_some, List.cons_append, List.nil_append, c1, true_implies, not_true_eq_false, false_implies, and_true]
    exact hK
  | w + 1, c, i, I, J, hc, hi, h, hat, hkd, hft, K => by
    rw [hk_153_46]
    have k4 := kdN_le k
    have c1 : (nI (kdN k) ≤ nI c) = False := by rw [le_nI (by omega) (by omega)]; exact eq_false (by omega)
    have c3 : vp_in (nI c) 4 = True := eq_true (vp_in_nI (by omega) (by decide))
    have c4 : (nI c).toNatClampNeg = c := nI_clamp (by omega)
    simp only [mmE, mmE0, mmH, mT, mR, mRf, mAl, mAs, mAz, mAn, Int.reduceToNat, Int32.reduceOfInt, Int64.reduceOfInt, Int.reduceAdd, swE, Nat.reduceDiv, Nat.reduceMod, Nat.reduceAdd, Nat.reduceMul, Nat.reduceEqDiff, Nat.reduceLeDiff, Nat.zero_le, List.length_nil, List.length_cons, Nat.zero_add, true_or, or_true, false_or, or_false, true_and, and_true, and_self, mb_01, mb_t, mb_f, hkd, c_mPointsOf, pointsOf_n hk, Option.toList_some, List.cons_append, List.nil_append, c1, true_implies, not_true_eq_false, not_false_eq_true, false_implies, and_true, true_and]
    refine w_tk h hi hat (fun I1 J1 f1 f1' f1'' h1 t1 l1 => ?_)
    have hft1 : I1 127 21 = -5 := by rw [f1'' _ (by decide) (by decide) (by decide)]; exact hft
    have hkd1 : I1 127 22 = nI k := by rw [f1'' _ (by decide) (by decide) (by decide)]; exact hkd
    have flt : ∀ p, (∀ I' J', mr_fr I J I' J' → I' 127 21 = nI p → Q (some (.int 0)) I' J') → Q (some (.int 0)) (mm_wI I1 127 21 (nI p)) J1 := by
      intro p hp
      exact hp _ _ (mr_tr f1 (mr_w (by unfold mrj; decide))) (by rw [mWI, if_pos rfl, if_pos rfl])
    simp only [ce_153, bk_153, mmE, mmE0, mmH, mT, mR, mRf, mAl, mAs, mAz, mAn, Int.reduceToNat, Int32.reduceOfInt, Int64.reduceOfInt, Int.reduceAdd, swE, Nat.reduceDiv, Nat.reduceMod, Nat.reduceAdd, Nat.reduceMul, Nat.reduceEqDiff, Nat.reduceLeDiff, Nat.zero_le, List.length_nil, List.length_cons, Nat.zero_add, true_or, or_true, false_or, or_false, true_and, and_true, and_self, mb_01, mb_t, mb_f, t1.2.2.1, tsE, List.nil_append, Option.toList_none]
    unfold rdP at K
    by_cases q2 : tk_s (tk_c T n i) = 2
    · obtain ⟨v1, v2⟩ := tk_nv (Or.inl q2)
      have hv : J1 127 20 = lN (tk_n (tk_c T n i)) := by rw [t1.2.2.2.2 (Or.inl q2), v1]
      simp only [q2, hv, h1.2.2, lQ_i np (by omega), lc_lt, lQ_lt (show tk_n (tk_c T n i) < 2 ^ 31 by omega) (show np < 2 ^ 31 by omega), true_implies, not_true_eq_false, not_false_eq_true, false_implies, and_true, true_and]
      by_cases qn : tk_n (tk_c T n i) < np
      · rw [if_pos ⟨q2, qn⟩] at K
        simp only [qn, c3, c4, lN_i, true_implies, not_true_eq_false, not_false_eq_true, false_implies, and_true, true_and]
        rw [← nI_succ]
        have fw : mr_fr I1 J1 (mm_wI I1 141 c (nI (tk_n (tk_c T n i)))) J1 := mr_a (Or.inl rfl)
        refine w_mrf_loop hnp hk w (c + 1) (tk_e T n i) _ J1 (by omega) l1 (enM_fr h1 fw) ?_ ?_ ?_ ?_
        · rw [mWI, if_neg (by decide)]; exact t1.1
        · rw [mWI, if_neg (by decide)]; exact hkd1
        · rw [mWI, if_neg (by decide)]; exact hft1
        · cases e : rdP T n np w (tk_e T n i) with
          | error p =>
            rw [e] at K
            exact fun I' J' f' => K I' J' (mr_tr f1 (mr_tr fw f'))
          | ok r =>
            rw [e] at K
            intro I' J' f' h' a' b'
            refine K I' J' (mr_tr f1 (mr_tr fw f')) h' (fun x hx => ?_) (fun x hx => ?_)
            · rw [a' x (by omega), mWI, if_pos rfl, if_neg (by omega), f1' _ (by decide)]
            · match x with
              | 0 =>
                rw [Nat.add_zero, a' c (by omega), mWI, if_pos rfl, if_pos rfl]
                rfl
              | x + 1 =>
                rw [show c + (x + 1) = c + 1 + x by omega, b' x (by omega)]
                rfl
      · rw [if_neg (fun q => qn q.2)] at K
        simp only [mmE, mmE0, mmH, mT, mR, mRf, mAl, mAs, mAz, mAn, Int.reduceToNat, Int32.reduceOfInt, Int64.reduceOfInt, Int.reduceAdd, swE, Nat.reduceDiv, Nat.reduceMod, Nat.reduceAdd, Nat.reduceMul, Nat.reduceEqDiff, Nat.reduceLeDiff, Nat.zero_le, List.length_nil, List.length_cons, Nat.zero_add, true_or, or_true, false_or, or_false, true_and, and_true, and_self, mb_01, mb_t, mb_f, qn, t1.2.1, c_fault hft1, z01, Option.toList_some, List.cons_append, List.nil_append, true_implies, not_true_eq_false, not_false_eq_true, false_implies, and_true, true_and]
        exact flt _ K
    · rw [if_neg (fun q => q2 q.1)] at K
      simp only [mmE, mmE0, mmH, mT, mR, mRf, mAl, mAs, mAz, mAn, Int.reduceToNat, Int32.reduceOfInt, Int64.reduceOfInt, Int.reduceAdd, swE, Nat.reduceDiv, Nat.reduceMod, Nat.reduceAdd, Nat.reduceMul, Nat.reduceEqDiff, Nat.reduceLeDiff, Nat.zero_le, List.length_nil, List.length_cons, Nat.zero_add, true_or, or_true, false_or, or_false, true_and, and_true, and_self, mb_01, mb_t, mb_f, q2, t1.2.1, c_fault hft1, z01, Option.toList_some, List.cons_append, List.nil_append, true_implies, not_true_eq_false, not_false_eq_true, false_implies, and_true, true_and]
      exact flt _ K
theorem w_mReadFact (hnp : np ≤ 7) (hlg : lg < 2) (hW : rw_W W) (h : enM I J T n lg W np) (ht : tkM I J T n 0) (hft : I 127 21 = -5) (K : match rdF T n np (W lg) with
    | .error p => ∀ I' J', mr_fr I J I' J' → I' 127 21 = nI p → Q (some (.int 0)) I' J'
    | .ok q => ∀ I' J', mr_fr I J I' J' → enM I' J' T n lg W np → tkM I' J' T n q.2.2.2 → I' 127 21 = -5 → I' 127 22 = nI q.1 → (∀ x, x < 4 → I' 141 x = nI (q.2.1.getD x 0)) → Q (some (.int 1)) I' J') : mm_call z (d + 4) 153 [.ref 127] I J Q := by
  have l1 := (tk_le (T := T) (n := n) (i := 0) (by omega)).2.2
  have fk : ∀ x, mr_fr I J (mm_wI I 127 22 x) J := fun x => mr_w (by unfold mrj; decide)
  have fkA : ∀ x, mm_wI I 127 22 x 127 22 = x := fun x => by rw [mWI, if_pos rfl, if_pos rfl]
  have fkB : ∀ x, mm_wI I 127 22 x 127 18 = nI (tk_j T n 0) := fun x => by rw [mWI, if_pos rfl, if_neg (by decide)]; exact ht.2.1
  have fkC : ∀ x, mm_wI I 127 22 x 127 21 = -5 := fun x => by rw [mWI, if_pos rfl, if_neg (by decide)]; exact hft
  simp only [bk_153.1, bk_153.2.1, ce_153, mmE, mmE0, mmH, mT, mR, mRf, mAl, mAs, mAz, mAn, Int.reduceToNat, Int32.reduceOfInt, Int64.reduceOfInt, Int.reduceAdd, swE, Nat.reduceDiv, Nat.reduceMod, Nat.reduceAdd, Nat.reduceMul, Nat.reduceEqDiff, Nat.reduceLeDiff, Nat.zero_le, List.length_nil, List.length_cons, Nat.zero_add, true_or, or_true, false_or, or_false, true_and, and_true, and_self, mb_01, mb_t, mb_f, c_which hlg hW h.2.1 ht.2.2.1 ht.2.2.2.1, Option.toList_some, List.cons_append, List.nil_append, fkA, fkB, c_in, in_6, mb_0, c_fault (fkC _), z01]
  unfold rdF at K
  have eo : (if tk_s (tk_c T n 0) = 1 then wh (W lg) (tk_c T n 0) else none) = rdW T n (W lg) 0 := rfl
  rw [eo]
  cases e0 : rdW T n (W lg) 0 with
  | none =>
    rw [e0] at K
    have i0 : (inN 7 (wI none) = false) = True := by decide
    simp only [i0, true_implies, not_true_eq_false, not_false_eq_true, false_implies, and_true, true_and]
    exact K _ _ (mr_tr (fk _) (mr_w (by unfold mrj; decide))) (by rw [mWI, if_pos rfl, if_pos rfl])
  | some kk =>
    rw [e0] at K
    have kk11 : kk < 11 := by
      unfold rdW at e0
      split at e0
      · exact (wh_lt e0).1
      · cases e0
    have i0 : inN 7 (wI (some kk)) = decide (kk < 7) := inN_nI (by omega)
    rw [i0]
    by_cases q7 : kk < 7
    · simp only [q7, if_true] at K
      simp only [q7, v4L, decide_true, Bool.true_eq_false, true_implies, not_true_eq_false, not_false_eq_true, false_implies, and_true, true_and]
      have k4 := kdN_le kk
      have fw : mr_fr (mm_wI I 127 22 (wI (some kk))) J (mm_wI (mm_wI I 127 22 (wI (some kk))) 141 3 0) J := mr_a (Or.inl rfl)
      have f01 := mr_tr (fk (wI (some kk))) fw
      refine w_mrf_loop (z := z) (d := d) hnp q7 (kdN kk) 0 (tk_e T n 0) _ J (by omega) l1 (enM_fr h f01) ?_ ?_ ?_ ?_
      · rw [mWI, if_neg (by decide), mWI, if_pos rfl, if_neg (by decide)]; exact ht.1
      · rw [mWI, if_neg (by decide), mWI, if_pos rfl, if_pos rfl]; rfl
      · rw [mWI, if_neg (by decide), mWI, if_pos rfl, if_neg (by decide)]; exact hft
      · cases e1 : rdP T n np (kdN kk) (tk_e T n 0) with
        | error p =>
          rw [e1] at K
          exact fun I' J' f' => K I' J' (mr_tr f01 f')
        | ok r =>
          rw [e1] at K
          dsimp only at K
          intro I' J' f' h' a' b' at' kd' ft'
          obtain ⟨r1, r2, r3⟩ := rdP_ok _ _ _ l1 e1
          have k3 : kdN kk = 3 ∨ kdN kk = 4 := by unfold kdN; split <;> simp
          have gl : ∀ x, x < 4 → I' 141 x = nI (r.1.getD x 0) := by
            intro x hx
            by_cases qx : x < kdN kk
            · have := b' x qx
              rw [Nat.zero_add] at this
              exact this
            · have x3 : x = 3 := by omega
              rw [a' x (by omega), mWI, if_pos rfl, if_pos x3, x3, List.getD_eq_getElem?_getD, List.getElem?_eq_none (by omega)]
              rfl
          have np0 : 0 < np := by
            have : r.1 ≠ [] := by
              intro q
              rw [q] at r1
              rcases k3 with q | q <;> rw [q] at r1 <;> cases r1
            obtain ⟨x, hx⟩ := List.exists_mem_of_ne_nil _ this
            have := r2 x hx
            omega
          have ltn : ∀ x, r.1.getD x 0 < np := fun x => getD_lt r2 np0 x
          have lt7 : ∀ x, r.1.getD x 0 < 7 := fun x => by have := ltn x; omega
          simp only [bk_153.2.2.2.2.1, mmE, mmE0, mmH, mT, mR, mRf, mAl, mAs, mAz, mAn, Int.reduceToNat, Int32.reduceOfInt, Int64.reduceOfInt, Int.reduceAdd, swE, Nat.reduceDiv, Nat.reduceMod, Nat.reduceAdd, Nat.reduceMul, Nat.reduceEqDiff, Nat.reduceLeDiff, Nat.zero_le, List.length_nil, List.length_cons, Nat.zero_add, true_or, or_true, false_or, or_false, true_and, and_true, and_self, mb_01, mb_t, mb_f]
          refine w_tk h' r3 at' (fun I2 J2 f2 f2' f2'' h2 t2 l2 => ?_)
          have gl2 : ∀ x, x < 4 → I2 141 x = nI (r.1.getD x 0) := fun x hx => by rw [f2' _ (by decide)]; exact gl x hx
          have kd2 : I2 127 22 = nI kk := by rw [f2'' _ (by decide) (by decide) (by decide)]; exact kd'
          have ft2 : I2 127 21 = -5 := by rw [f2'' _ (by decide) (by decide) (by decide)]; exact ft'
          have sE := rm_slot_n hnp q7 (ltn 0) (ltn 1) (ltn 2) (lt7 3) (fun _ => ltn 3)
          simp only [bk_153.2.2.2.2.2.1, bk_153.2.2.2.2.2.2.1, bk_153.2.2.2.2.2.2.2, mmE, mmE0, mmH, mT, mR, mRf, mAl, mAs, mAz, mAn, Int.reduceToNat, Int32.reduceOfInt, Int64.reduceOfInt, Int.reduceAdd, swE, Nat.reduceDiv, Nat.reduceMod, Nat.reduceAdd, Nat.reduceMul, Nat.reduceEqDiff, Nat.reduceLeDiff, Nat.zero_le, List.length_nil, List.length_cons, Nat.zero_add, true_or, or_true, false_or, or_false, true_and, and_true, and_self, mb_01, mb_t, mb_f, Option.toList_some, Option.toList_none, List.cons_append, List.nil_append, v4L, kd2, gl2 0 (by omega), gl2 1 (by omega), gl2 2 (by omega), gl2 3 (by omega), c_slot hnp h2.2.2, sE, z01]
          cases e2 : n_number kk (r.1.getD 0 0) (r.1.getD 1 0) (r.1.getD 2 0) (r.1.getD 3 0) with
          | none =>
            rw [e2] at K
            have m1 : (0 ≤ eI (Option.map sl (none : Option Nat))) = False := by decide
            simp only [m1, c_fault ft2, bk_153.2.2.2.2.2.1, bk_153.2.2.2.2.2.2.1, bk_153.2.2.2.2.2.2.2, mmE, mmE0, mmH, mT, mR, mRf, mAl, mAs, mAz, mAn, Int.reduceToNat, Int32.reduceOfInt, Int64.reduceOfInt, Int.reduceAdd, swE, Nat.reduceDiv, Nat.reduceMod, Nat.reduceAdd, Nat.reduceMul, Nat.reduceEqDiff, Nat.reduceLeDiff, Nat.zero_le, List.length_nil, List.length_cons, Nat.zero_add, true_or, or_true, false_or, or_false, true_and, and_true, and_self, mb_01, mb_t, mb_f, Option.toList_some, Option.toList_none, List.cons_append, List.nil_append, true_implies, not_true_eq_false, not_false_eq_true, false_implies, and_true, true_and, z01]
            exact K _ _ (mr_tr f01 (mr_tr f' (mr_tr f2 (mr_w (by unfold mrj; decide))))) (by rw [mWI, if_pos rfl, if_pos rfl])
          | some g =>
            rw [e2] at K
            have sg := (un_sl (nn_kd q7 (lt7 0) (lt7 1) (lt7 2) (lt7 3) e2).2).2
            have m1 : (0 ≤ eI (Option.map sl (some g))) = True := by
              show (0 ≤ nI (sl g)) = True
              rw [show (0 : Int32) = nI 0 from rfl, le_nI (by omega) (by omega)]
              exact eq_true (by omega)
            simp only [m1, true_implies, not_true_eq_false, not_false_eq_true, false_implies, and_true, true_and]
            exact K I2 J2 (mr_tr f01 (mr_tr f' f2)) h2 t2 ft2 kd2 gl2
    · simp only [q7, if_false] at K
      simp only [q7, decide_false, true_implies, not_true_eq_false, not_false_eq_true, false_implies, and_true, true_and]
      exact K _ _ (mr_tr (fk _) (mr_w (by unfold mrj; decide))) (by rw [mWI, if_pos rfl, if_pos rfl])
end MR
