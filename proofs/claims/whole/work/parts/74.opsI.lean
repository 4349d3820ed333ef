/-! rows, goals and words are typed: the reference -/
section OI
variable {z : mm_S} {d : Nat} {I : mm_I} {J : mm_J} {s : st_T} {Q : Option Value → mm_I → mm_J → Prop}
theorem enM_of (h : repM I J s) : enM I J (sT s) (sN s) (sLg s) (sW s) (sNp s) := ⟨h.2.2.1, h.2.2.2.1, h.1.1⟩
theorem w_begin {T : Nat → Nat} {n lg np : Nat} {W : Nat → Nat → List Nat} (h : enM I J T n lg W np) (k : ∀ I' J', mr_fr I J I' J' → enM I' J' T n lg W np → tkM I' J' T n 0 → I' 127 21 = -5 → Q none I' J') : mm_call z (d + 4) 146 [.ref 127] I J Q := by
  simp only [ce_146, bk_146, mmE, mmE0, mmH, mT, mR, mRf, mAl, mAs, mAz, mAn, Int.reduceToNat, Int32.reduceOfInt, Int64.reduceOfInt, Int.reduceAdd, swE, Nat.reduceDiv, Nat.reduceMod, Nat.reduceAdd, Nat.reduceMul, Nat.reduceEqDiff, Nat.reduceLeDiff, Nat.zero_le, List.length_nil, List.length_cons, Nat.zero_add, true_or, or_true, false_or, or_false, true_and, and_true, and_self, mb_01, mb_t, mb_f]
  have f0 : mr_fr I J (mm_wI (mm_wI I 127 17 0) 127 21 (-5)) J := mr_tr (mr_w (by unfold mrj; decide)) (mr_w (by unfold mrj; decide))
  refine w_tk (i := 0) (enM_fr h f0) (by omega) (by rw [mWI, if_pos rfl, if_neg (by decide), mWI, if_pos rfl, if_pos rfl]; rfl) (fun I1 J1 f1 f1' f1'' h1 t1 l1 => ?_)
  simp only [mmE, mmE0, mmH, mT, mR, mRf, mAl, mAs, mAz, mAn, Int.reduceToNat, Int32.reduceOfInt, Int64.reduceOfInt, Int.reduceAdd, swE, Nat.reduceDiv, Nat.reduceMod, Nat.reduceAdd, Nat.reduceMul, Nat.reduceEqDiff, Nat.reduceLeDiff, Nat.zero_le, List.length_nil, List.length_cons, Nat.zero_add, true_or, or_true, false_or, or_false, true_and, and_true, and_self, mb_01, mb_t, mb_f, Option.toList_some, Option.toList_none, List.cons_append, List.nil_append]
  refine k I1 J1 (mr_tr f0 f1) h1 t1 ?_
  rw [f1'' _ (by decide) (by decide) (by decide), mWI, if_pos rfl, if_pos rfl]
theorem c_refused {p : Int32} (h : I 127 21 = p) (Q : Option Value → mm_I → mm_J → Prop) : mm_call z (d + 1) 151 [.ref 127] I J Q = Q (some (.int (-100 - p))) (mm_wI I 127 12 0) J := by
  refine mm_ev ?_ Q
  have w : mm_wI I 127 12 0 127 21 = p := by rw [mWI, if_pos rfl, if_neg (by decide)]; exact h
  simp only [ce_151, bk_151, mmE, mmE0, mmH, mT, mR, mRf, mAl, mAs, mAz, mAn, Int.reduceToNat, Int32.reduceOfInt, Int64.reduceOfInt, Int.reduceAdd, swE, Nat.reduceDiv, Nat.reduceMod, Nat.reduceAdd, Nat.reduceMul, Nat.reduceEqDiff, Nat.reduceLeDiff, Nat.zero_le, List.length_nil, List.length_cons, Nat.zero_add, true_or, or_true, false_or, or_false, true_and, and_true, and_self, mb_01, mb_t, mb_f, w]
theorem repM_rd {I' : mm_I} {J' : mm_J} (h : repM I J s) (f : mr_fr I J I' J') : repM I' J' s ∧ frM I J I' J' := by
  refine ⟨repM_tp (T' := sT s) (n' := sN s) h (fun k k1 _ k3 k4 => f.1 k k1 k3 k4) (fun j j1 _ => f.2.1 j j1) (by funext q; exact f.2.2 _ q (by decide)) (enM_fr (enM_of h) f).1, fun k hk => ⟨f.1 k (by omega) (by omega) (by omega), by funext q; exact f.2.2 k q (by omega)⟩⟩
theorem repM_e (h : repM I J s) : repM (mm_wI I 127 12 0) J (uN s 0) := by
  refine repM_tp (T' := sT s) (n' := 0) h (fun k k1 k2 _ _ => ?_) (fun j _ j2 => ?_) rfl ⟨?_, by omega, fun i hi => by omega⟩
  · funext q
    rw [mWI, if_neg k1]
  · rw [mWI, if_pos rfl, if_neg j2]
  · rw [mWI, if_pos rfl, if_pos rfl]; rfl
theorem okM_flt {p : Nat} {I' : mm_I} {J' : mm_J} (h : repM I J s) (f : mr_fr I J I' J') : okM I J (-100 - nI p, uN s 0) (some (.int (-100 - nI p))) (mm_wI I' 127 12 0) J' := by
  obtain ⟨g1, g2⟩ := repM_rd h f
  exact ⟨rfl, repM_e g1, frM_tr g2 (frM_w (by decide))⟩
theorem rmG_s {s' : st_T} (e1 : sNp s' = sNp s) (e2 : sNr s' = sNr s) (e3 : sG s' = sG s) (e4 : sC s' = sC s) (hR : ∀ r, 1 ≤ r → sR s' r = sR s r) (h : rmG I s) : rmG I s' := by
  have eS : S0 (sNr s') (sR s') (sG s') = S0 (sNr s) (sR s) (sG s) := by rw [e2, e3]; exact S0_c hR
  have eL : lvF s' = lvF s := by
    funext f
    unfold lvF
    rw [e1, eS]
  unfold rmG
  rw [e2, e3, e4, eL]
  exact h
theorem x041 : vp_in 0 41 = True ∧ (0 : Int32).toNatClampNeg = 0 := ⟨(ix41 (x := 0) (by omega)).1, by decide⟩
theorem pM_goal (hv : va s) (h : repM I J s) : mm_call z (d + 5) 160 [.ref 127] I J (okM I J (o_goal s)) := by
  obtain ⟨⟨a1, a2, a3, a4⟩, _⟩ := id h
  obtain ⟨⟨v1, v2, v3, v4⟩, _, vw, _⟩ := id hv
  unfold o_goal
  simp only [ce_160, bk_160.1, mmE, mmE0, mmH, mT, mR, mRf, mAl, mAs, mAz, mAn, Int.reduceToNat, Int32.reduceOfInt, Int64.reduceOfInt, Int.reduceAdd, swE, Nat.reduceDiv, Nat.reduceMod, Nat.reduceAdd, Nat.reduceMul, Nat.reduceEqDiff, Nat.reduceLeDiff, Nat.zero_le, List.length_nil, List.length_cons, Nat.zero_add, true_or, or_true, false_or, or_false, true_and, and_true, and_self, mb_01, mb_t, mb_f, a1, n0E (show sNp s < 2 ^ 31 by omega)]
  by_cases q0 : sNp s = 0
  · simp only [eq_true q0, true_implies, not_true_eq_false, not_false_eq_true, false_implies, and_true, true_and, if_true]
    exact ⟨rfl, h, frM_rf⟩
  simp only [q0, true_implies, not_true_eq_false, not_false_eq_true, false_implies, and_true, true_and, if_false, bk_160.2.1, mmE, mmE0, mmH, mT, mR, mRf, mAl, mAs, mAz, mAn, Int.reduceToNat, Int32.reduceOfInt, Int64.reduceOfInt, Int.reduceAdd, swE, Nat.reduceDiv, Nat.reduceMod, Nat.reduceAdd, Nat.reduceMul, Nat.reduceEqDiff, Nat.reduceLeDiff, Nat.zero_le, List.length_nil, List.length_cons, Nat.zero_add, true_or, or_true, false_or, or_false, true_and, and_true, and_self, mb_01, mb_t, mb_f]
  refine w_begin (enM_of h) (fun I1 J1 f1 h1 t1 ft1 => ?_)
  simp only [mmE, mmE0, mmH, mT, mR, mRf, mAl, mAs, mAz, mAn, Int.reduceToNat, Int32.reduceOfInt, Int64.reduceOfInt, Int.reduceAdd, swE, Nat.reduceDiv, Nat.reduceMod, Nat.reduceAdd, Nat.reduceMul, Nat.reduceEqDiff, Nat.reduceLeDiff, Nat.zero_le, List.length_nil, List.length_cons, Nat.zero_add, true_or, or_true, false_or, or_false, true_and, and_true, and_self, mb_01, mb_t, mb_f, Option.toList_some, Option.toList_none, List.cons_append, List.nil_append]
  refine w_mReadFact v1 v4 vw h1 t1 ft1 ?_
  cases e : rdF (sT s) (sN s) (sNp s) (sW s (sLg s)) with
  | error p =>
    intro I2 J2 f2 ft2
    simp only [bk_160.2.2.1, mmE, mmE0, mmH, mT, mR, mRf, mAl, mAs, mAz, mAn, Int.reduceToNat, Int32.reduceOfInt, Int64.reduceOfInt, Int.reduceAdd, swE, Nat.reduceDiv, Nat.reduceMod, Nat.reduceAdd, Nat.reduceMul, Nat.reduceEqDiff, Nat.reduceLeDiff, Nat.zero_le, List.length_nil, List.length_cons, Nat.zero_add, true_or, or_true, false_or, or_false, true_and, and_true, and_self, mb_01, mb_t, mb_f, Option.toList_some, Option.toList_none, List.cons_append, List.nil_append, true_implies, not_true_eq_false, not_false_eq_true, false_implies, and_true, true_and, c_refused ft2]
    exact okM_flt h (mr_tr f1 f2)
  | ok q =>
    obtain ⟨o1, o2, o3, o4, o5, o6⟩ := rdF_ok v1 e
    intro I2 J2 f2 h2 t2 ft2 kd2 gl2
    have e10 : ((1 : Int32) = 0) = False := by decide
    have f02 := mr_tr f1 f2
    simp only [bk_160.2.2.1, mmE, mmE0, mmH, mT, mR, mRf, mAl, mAs, mAz, mAn, Int.reduceToNat, Int32.reduceOfInt, Int64.reduceOfInt, Int.reduceAdd, swE, Nat.reduceDiv, Nat.reduceMod, Nat.reduceAdd, Nat.reduceMul, Nat.reduceEqDiff, Nat.reduceLeDiff, Nat.zero_le, List.length_nil, List.length_cons, Nat.zero_add, true_or, or_true, false_or, or_false, true_and, and_true, and_self, mb_01, mb_t, mb_f, Option.toList_some, Option.toList_none, List.cons_append, List.nil_append, true_implies, not_true_eq_false, not_false_eq_true, false_implies, and_true, true_and, e10, t2.2.2.1, tsE, t2.2.1, c_fault ft2]
    by_cases qe : tk_s (tk_c (sT s) (sN s) q.2.2.2) = 0
    · simp only [eq_true qe, true_implies, not_true_eq_false, not_false_eq_true, false_implies, and_true, true_and, if_true, bk_160.2.2.2, mmE, mmE0, mmH, mT, mR, mRf, mAl, mAs, mAz, mAn, Int.reduceToNat, Int32.reduceOfInt, Int64.reduceOfInt, Int.reduceAdd, swE, Nat.reduceDiv, Nat.reduceMod, Nat.reduceAdd, Nat.reduceMul, Nat.reduceEqDiff, Nat.reduceLeDiff, Nat.zero_le, List.length_nil, List.length_cons, Nat.zero_add, true_or, or_true, false_or, or_false, true_and, and_true, and_self, mb_01, mb_t, mb_f]
      obtain ⟨g1, g2⟩ := repM_rd h f02
      have g3 := repM_e g1
      have w0 : ∀ k, k ≠ 127 → mm_wI I2 127 12 0 k = I2 k := fun k hk => by funext x; rw [mWI, if_neg hk]
      refine w_keep (r := 0) (k := q.1) (l := q.2.1) (np := sNp s) (by omega) v1 o1 (fun x hx => by rw [w0 _ (by decide)]; exact gl2 x hx) o2 o3 o4 (by rw [mWI, if_pos rfl, if_neg (by decide)]; exact kd2) g3.1.1 (fun I4 k1 k2 k3 k4 k5 k6 => ?_)
      simp only [mmE, mmE0, mmH, mT, mR, mRf, mAl, mAs, mAz, mAn, Int.reduceToNat, Int32.reduceOfInt, Int64.reduceOfInt, Int.reduceAdd, swE, Nat.reduceDiv, Nat.reduceMod, Nat.reduceAdd, Nat.reduceMul, Nat.reduceEqDiff, Nat.reduceLeDiff, Nat.zero_le, List.length_nil, List.length_cons, Nat.zero_add, true_or, or_true, false_or, or_false, true_and, and_true, and_self, mb_01, mb_t, mb_f, Option.toList_some, Option.toList_none, List.cons_append, List.nil_append, z01, x041, true_implies, not_true_eq_false, not_false_eq_true, false_implies, and_true, true_and]
      -- cells that stay
      have wk : ∀ k, k ≠ 127 → k ≠ 142 → k ≠ 143 → k ≠ 144 → k ≠ 146 → mm_wI (mm_wI I4 127 25 1) 146 0 (-5) k = mm_wI I2 127 12 0 k := fun k c1 c2 c3 c4 c5 => by
        rw [← k1 k c2 c3 c4]
        funext x
        rw [mWI, if_neg c5, mWI, if_neg c1]
      have w4 : ∀ k, k ≠ 127 → k ≠ 146 → mm_wI (mm_wI I4 127 25 1) 146 0 (-5) k = I4 k := fun k c1 c5 => by
        funext x
        rw [mWI, if_neg c5, mWI, if_neg c1]
      have wj : ∀ j, j ≠ 25 → mm_wI (mm_wI I4 127 25 1) 146 0 (-5) 127 j = mm_wI I2 127 12 0 127 j := fun j hj => by
        rw [mWI, if_neg (by decide), mWI, if_pos rfl, if_neg hj, k1 _ (by decide) (by decide) (by decide)]
      have wr : ∀ r, mm_wI (mm_wI I4 127 25 1) 146 0 (-5) 146 r = if r = 0 then -5 else mm_wI I2 127 12 0 146 r := fun r => by
        rw [mWI, if_pos rfl]
        split
        · rfl
        · rw [mWI, if_neg (by decide), k1 _ (by decide) (by decide) (by decide)]
      obtain ⟨⟨b1, b2, b3, b4⟩, bb, c, e', g, i, j, l, mt⟩ := g3
      refine ⟨rfl, ⟨⟨?_, ?_, ?_, ?_⟩, mfigs_c (wk _ (by decide) (by decide) (by decide) (by decide) (by decide)) (wk _ (by decide) (by decide) (by decide) (by decide) (by decide)) (wk _ (by decide) (by decide) (by decide) (by decide) (by decide)) bb, ⟨?_, c.2.1, fun i hi => ?_⟩, ⟨?_, e'.2⟩, fun r r1 r2 => ?_, fun _ => ?_, ?_, fun qg => ?_, ?_⟩, ?_⟩
      · rw [wj _ (by decide)]; exact b1
      · rw [wj _ (by decide)]; exact b2
      · rw [wj _ (by decide)]; exact b3
      · rw [mWI, if_neg (by decide), mWI, if_pos rfl, if_pos rfl]; rfl
      · rw [wj _ (by decide)]; exact c.1
      · rw [wk _ (by decide) (by decide) (by decide) (by decide) (by decide)]; exact c.2.2 i hi
      · rw [wj _ (by decide)]; exact e'.1
      · show rM_row _ r (gup (sR s) 0 (q.2.2.1, 0, -5, []) r)
        rw [gup_at, if_neg (by omega)]
        obtain ⟨m1, m2, m3, m4, m5, m6, m7⟩ := g r r1 r2
        refine ⟨?_, fun k hk => ?_, ?_, ?_, ?_, ?_, fun k hk => ?_⟩
        · rw [w4 _ (by decide) (by decide), (k2 r (by omega)).1]; exact m1
        · rw [w4 _ (by decide) (by decide), k3 _ (by omega)]; exact m2 k hk
        · rw [w4 _ (by decide) (by decide), (k2 r (by omega)).2]; exact m3
        · rw [wk _ (by decide) (by decide) (by decide) (by decide) (by decide)]; exact m4
        · rw [wr, if_neg (by omega)]; exact m5
        · rw [wk _ (by decide) (by decide) (by decide) (by decide) (by decide)]; exact m6
        · rw [wk _ (by decide) (by decide) (by decide) (by decide) (by decide)]; exact m7 k hk
      · show rM_row _ 0 (gup (sR s) 0 (q.2.2.1, 0, -5, []) 0)
        rw [gup_at, if_pos rfl]
        refine ⟨?_, fun k hk => ?_, ?_, ?_, ?_, ?_, fun k hk => by cases hk⟩
        · rw [w4 _ (by decide) (by decide)]; exact k4
        · rw [w4 _ (by decide) (by decide)]; exact k6 k hk
        · rw [w4 _ (by decide) (by decide)]; exact k5
        · rw [wk _ (by decide) (by decide) (by decide) (by decide) (by decide)]; exact mt.2.1
        · rw [wr, if_pos rfl]
        · rw [wk _ (by decide) (by decide) (by decide) (by decide) (by decide)]; exact mt.2.2
      · rw [wj _ (by decide)]; exact j
      · refine rmG_s (s := uN s 0) rfl rfl rfl rfl (fun r r1 => ?_) (rmG_c (s := uN s 0) (fun k _ _ => wk k (by omega) (by omega) (by omega) (by omega) (by omega)) (wk _ (by decide) (by decide) (by decide) (by decide) (by decide)) (wj _ (by decide)) (wj _ (by decide)) (l qg))
        show gup (sR s) 0 (q.2.2.1, 0, -5, []) r = sR s r
        rw [gup_at, if_neg (by omega)]
      · obtain ⟨mt1, mt2, mt3⟩ := mt
        refine ⟨fun m hm => ?_, ?_, ?_⟩
        · unfold mtb
          rw [wk _ (by decide) (by decide) (by decide) (by decide) (by decide), wk _ (by decide) (by decide) (by decide) (by decide) (by decide), wk _ (by decide) (by decide) (by decide) (by decide) (by decide), wk _ (by decide) (by decide) (by decide) (by decide) (by decide), wk _ (by decide) (by decide) (by decide) (by decide) (by decide)]
          exact mt1 m hm
        · rw [wk _ (by decide) (by decide) (by decide) (by decide) (by decide)]; exact mt2
        · rw [wk _ (by decide) (by decide) (by decide) (by decide) (by decide)]; exact mt3
      · exact frM_tr g2 (frM_tr (frM_w (by decide)) (fun k hk => ⟨wk k (by omega) (by omega) (by omega) (by omega) (by omega), rfl⟩))
    · have w0 : mm_wI I2 127 21 (nI (tk_j (sT s) (sN s) q.2.2.2)) 127 21 = nI (tk_j (sT s) (sN s) q.2.2.2) := by rw [mWI, if_pos rfl, if_pos rfl]
      simp only [qe, true_implies, not_true_eq_false, not_false_eq_true, false_implies, and_true, true_and, if_false, c_refused w0, mmE, mmE0, mmH, mT, mR, mRf, mAl, mAs, mAz, mAn, Int.reduceToNat, Int32.reduceOfInt, Int64.reduceOfInt, Int.reduceAdd, swE, Nat.reduceDiv, Nat.reduceMod, Nat.reduceAdd, Nat.reduceMul, Nat.reduceEqDiff, Nat.reduceLeDiff, Nat.zero_le, List.length_nil, List.length_cons, Nat.zero_add, true_or, or_true, false_or, or_false, true_and, and_true, and_self, mb_01, mb_t, mb_f, Option.toList_some, Option.toList_none, List.cons_append, List.nil_append]
      exact okM_flt h (mr_tr f02 (mr_w (by unfold mrj; decide)))
theorem w_mcopy {r n : Nat} (hr : r ≤ 40) (hn : n ≤ 6) : ∀ (w k : Nat) (I : mm_I), k + w = n → I 127 35 = nI n → I 127 24 = nI r → (∀ I' o1, (∀ c, c ≠ 148 → I' c = I c) → (∀ q, q < 6 * r + k ∨ 6 * r + n ≤ q → I' 148 q = I 148 q) → (∀ j, k ≤ j → j < n → I' 148 (6 * r + j) = I 149 j) → mm_at z (mm_call z d) (mm_code 152) Q 143 [some (.ref 127), o1] [] I' J) → mm_at z (mm_call z d) (mm_code 152) Q 109 [some (.ref 127), some (.int (nI k))] [] I J
  | 0, k, I, hk, hm, hro, K => by
    rw [hk_152_109]
    have c1 : (nI n ≤ nI k) = True := by rw [le_nI (by omega) (by omega)]; exact eq_true (by omega)
    simp only [mmE, mmE0, mmH, mT, mR, mRf, mAl, mAs, mAz, mAn, Int.reduceToNat, Int32.reduceOfInt, Int64.reduceOfInt, Int.reduceAdd, swE, Nat.reduceDiv, Nat.reduceMod, Nat.reduceAdd, Nat.reduceMul, Nat.reduceEqDiff, Nat.reduceLeDiff, Nat.zero_le, List.length_nil, List.length_cons, Nat.zero_add, true_or, or_true, false_or, or_false, true_and, and_true, and_self, mb_01, mb_t, mb_f, hm, c1, true_implies, not_true_eq_false, not_false_eq_true, false_implies, and_true, true_and]
    exact K I _ (fun _ _ => rfl) (fun _ _ => rfl) (fun j j1 j2 => by omega)
  | w + 1, k, I, hk, hm, hro, K => by
    rw [hk_152_109]
    have c1 : (nI n ≤ nI k) = False := by rw [le_nI (by omega) (by omega)]; exact eq_false (by omega)
    simp only [mmE, mmE0, mmH, mT, mR, mRf, mAl, mAs, mAz, mAn, Int.reduceToNat, Int32.reduceOfInt, Int64.reduceOfInt, Int.reduceAdd, swE, Nat.reduceDiv, Nat.reduceMod, Nat.reduceAdd, Nat.reduceMul, Nat.reduceEqDiff, Nat.reduceLeDiff, Nat.zero_le, List.length_nil, List.length_cons, Nat.zero_add, true_or, or_true, false_or, or_false, true_and, and_true, and_self, mb_01, mb_t, mb_f, hm, c1, hro, i6, ix6 (show k < 6 by omega), ix246 (show 6 * r + k < 246 by omega), true_implies, not_true_eq_false, not_false_eq_true, false_implies, and_true, true_and]
    rw [← nI_succ]
    refine w_mcopy hr hn w (k + 1) _ (by omega) (by rw [mWI, if_neg (by decide)]; exact hm) (by rw [mWI, if_neg (by decide)]; exact hro) (fun I' o1 g1 g2 g3 => ?_)
    refine K I' o1 (fun c hc => ?_) (fun q hq => ?_) (fun j j1 j2 => ?_)
    · rw [g1 c hc]
      funext q
      rw [mWI, if_neg hc]
    · rw [g2 q (by omega), mWI, if_pos rfl, if_neg (by omega)]
    · by_cases e : j = k
      · rw [e, g2 _ (by omega), mWI, if_pos rfl, if_pos rfl]
      · rw [g3 j (by omega) j2, mWI, if_neg (by decide)]
theorem pM_row (hv : va s) (h : repM I J s) : mm_call z (d + 5) 152 [.ref 127] I J (okM I J (o_row s)) := by
  obtain ⟨⟨a1, a2, a3, a4⟩, _⟩ := id h
  obtain ⟨⟨v1, v2, v3, v4⟩, _, vw, _⟩ := id hv
  unfold o_row
  simp only [ce_152, bk_152.1, mmE, mmE0, mmH, mT, mR, mRf, mAl, mAs, mAz, mAn, Int.reduceToNat, Int32.reduceOfInt, Int64.reduceOfInt, Int.reduceAdd, swE, Nat.reduceDiv, Nat.reduceMod, Nat.reduceAdd, Nat.reduceMul, Nat.reduceEqDiff, Nat.reduceLeDiff, Nat.zero_le, List.length_nil, List.length_cons, Nat.zero_add, true_or, or_true, false_or, or_false, true_and, and_true, and_self, mb_01, mb_t, mb_f, a1, n0E (show sNp s < 2 ^ 31 by omega)]
  by_cases q0 : sNp s = 0
  · simp only [eq_true q0, true_implies, not_true_eq_false, not_false_eq_true, false_implies, and_true, true_and, if_true]
    exact ⟨rfl, h, frM_rf⟩
  simp only [q0, true_implies, not_true_eq_false, not_false_eq_true, false_implies, and_true, true_and, if_false, bk_152.2.1, mmE, mmE0, mmH, mT, mR, mRf, mAl, mAs, mAz, mAn, Int.reduceToNat, Int32.reduceOfInt, Int64.reduceOfInt, Int.reduceAdd, swE, Nat.reduceDiv, Nat.reduceMod, Nat.reduceAdd, Nat.reduceMul, Nat.reduceEqDiff, Nat.reduceLeDiff, Nat.zero_le, List.length_nil, List.length_cons, Nat.zero_add, true_or, or_true, false_or, or_false, true_and, and_true, and_self, mb_01, mb_t, mb_f]
  refine w_begin (enM_of h) (fun I1 J1 f1 h1 t1 ft1 => ?_)
  simp only [mmE, mmE0, mmH, mT, mR, mRf, mAl, mAs, mAz, mAn, Int.reduceToNat, Int32.reduceOfInt, Int64.reduceOfInt, Int.reduceAdd, swE, Nat.reduceDiv, Nat.reduceMod, Nat.reduceAdd, Nat.reduceMul, Nat.reduceEqDiff, Nat.reduceLeDiff, Nat.zero_le, List.length_nil, List.length_cons, Nat.zero_add, true_or, or_true, false_or, or_false, true_and, and_true, and_self, mb_01, mb_t, mb_f, Option.toList_some, Option.toList_none, List.cons_append, List.nil_append]
  refine w_mReadFact v1 v4 vw h1 t1 ft1 ?_
  cases e : rdF (sT s) (sN s) (sNp s) (sW s (sLg s)) with
  | error p =>
    intro I2 J2 f2 ft2
    simp only [bk_152.2.2.1, mmE, mmE0, mmH, mT, mR, mRf, mAl, mAs, mAz, mAn, Int.reduceToNat, Int32.reduceOfInt, Int64.reduceOfInt, Int.reduceAdd, swE, Nat.reduceDiv, Nat.reduceMod, Nat.reduceAdd, Nat.reduceMul, Nat.reduceEqDiff, Nat.reduceLeDiff, Nat.zero_le, List.length_nil, List.length_cons, Nat.zero_add, true_or, or_true, false_or, or_false, true_and, and_true, and_self, mb_01, mb_t, mb_f, Option.toList_some, Option.toList_none, List.cons_append, List.nil_append, true_implies, not_true_eq_false, not_false_eq_true, false_implies, and_true, true_and, c_refused ft2]
    exact okM_flt h (mr_tr f1 f2)
  | ok q =>
    obtain ⟨o1, o2, o3, o4, o5, o6⟩ := rdF_ok v1 e
    intro I2 J2 f2 h2 t2 ft2 kd2 gl2
    have e10 : ((1 : Int32) = 0) = False := by decide
    have f02 := mr_tr f1 f2
    simp only [mmE, mmE0, mmH, mT, mR, mRf, mAl, mAs, mAz, mAn, Int.reduceToNat, Int32.reduceOfInt, Int64.reduceOfInt, Int.reduceAdd, swE, Nat.reduceDiv, Nat.reduceMod, Nat.reduceAdd, Nat.reduceMul, Nat.reduceEqDiff, Nat.reduceLeDiff, Nat.zero_le, List.length_nil, List.length_cons, Nat.zero_add, true_or, or_true, false_or, or_false, true_and, and_true, and_self, mb_01, mb_t, mb_f, Option.toList_some, Option.toList_none, List.cons_append, List.nil_append, true_implies, not_true_eq_false, not_false_eq_true, false_implies, and_true, true_and, e10]
    refine w_mReason v4 vw o5 h2 t2 ft2 ?_
    cases e2 : rdR (sT s) (sN s) (sW s (sLg s)) q.2.2.2 with
    | error p =>
      intro I3 J3 f3 ft3
      simp only [bk_152.2.2.1, mmE, mmE0, mmH, mT, mR, mRf, mAl, mAs, mAz, mAn, Int.reduceToNat, Int32.reduceOfInt, Int64.reduceOfInt, Int.reduceAdd, swE, Nat.reduceDiv, Nat.reduceMod, Nat.reduceAdd, Nat.reduceMul, Nat.reduceEqDiff, Nat.reduceLeDiff, Nat.zero_le, List.length_nil, List.length_cons, Nat.zero_add, true_or, or_true, false_or, or_false, true_and, and_true, and_self, mb_01, mb_t, mb_f, Option.toList_some, Option.toList_none, List.cons_append, List.nil_append, true_implies, not_true_eq_false, not_false_eq_true, false_implies, and_true, true_and, c_refused ft3]
      exact okM_flt h (mr_tr f02 f3.1)
    | ok x =>
      obtain ⟨x1, x2, x3, x4⟩ := rdR_ok e2
      intro I3 J3 f3 r3
      have f03 := mr_tr f02 f3.1
      obtain ⟨g1, g2⟩ := repM_rd h f03
      have g3 := repM_e g1
      have a3' : mm_wI I3 127 12 0 127 24 = nI (sNr s) := g3.1.2.2.1
      have n40 : (nI (sNr s) = 40) = (sNr s = 40) := eq_nI (b := 40) (by omega) (by omega)
      simp only [bk_152.2.2.2.1, mmE, mmE0, mmH, mT, mR, mRf, mAl, mAs, mAz, mAn, Int.reduceToNat, Int32.reduceOfInt, Int64.reduceOfInt, Int.reduceAdd, swE, Nat.reduceDiv, Nat.reduceMod, Nat.reduceAdd, Nat.reduceMul, Nat.reduceEqDiff, Nat.reduceLeDiff, Nat.zero_le, List.length_nil, List.length_cons, Nat.zero_add, true_or, or_true, false_or, or_false, true_and, and_true, and_self, mb_01, mb_t, mb_f, Option.toList_some, Option.toList_none, List.cons_append, List.nil_append, true_implies, not_true_eq_false, not_false_eq_true, false_implies, and_true, true_and, e10, a3', n40]
      by_cases q40 : sNr s = 40
      · simp only [eq_true q40, true_implies, not_true_eq_false, not_false_eq_true, false_implies, and_true, true_and, if_true]
        exact ⟨rfl, g3, frM_tr g2 (frM_w (by decide))⟩
      simp only [q40, true_implies, not_true_eq_false, not_false_eq_true, false_implies, and_true, true_and, if_false, bk_152.2.2.2.2.1, mmE, mmE0, mmH, mT, mR, mRf, mAl, mAs, mAz, mAn, Int.reduceToNat, Int32.reduceOfInt, Int64.reduceOfInt, Int.reduceAdd, swE, Nat.reduceDiv, Nat.reduceMod, Nat.reduceAdd, Nat.reduceMul, Nat.reduceEqDiff, Nat.reduceLeDiff, Nat.zero_le, List.length_nil, List.length_cons, Nat.zero_add, true_or, or_true, false_or, or_false, true_and, and_true, and_self, mb_01, mb_t, mb_f, a3']
      rw [← nI_succ]
      have w3 : ∀ k, k ≠ 127 → mm_wI (mm_wI I3 127 12 0) 127 24 (nI (sNr s + 1)) k = I3 k := fun k hk => by funext x; rw [mWI, if_neg hk, mWI, if_neg hk]
      have wr : mm_wI (mm_wI I3 127 12 0) 127 24 (nI (sNr s + 1)) 127 24 = nI (sNr s + 1) := by rw [mWI, if_pos rfl, if_pos rfl]
      have w3j : ∀ j, j ≠ 24 → mm_wI (mm_wI I3 127 12 0) 127 24 (nI (sNr s + 1)) 127 j = mm_wI I3 127 12 0 127 j := fun j hj => by rw [mWI, if_pos rfl, if_neg hj]
      have w3k : ∀ j, j ≠ 24 → j ≠ 12 → mm_wI (mm_wI I3 127 12 0) 127 24 (nI (sNr s + 1)) 127 j = I3 127 j := fun j hj hj2 => by rw [mWI, if_pos rfl, if_neg hj, mWI, if_pos rfl, if_neg hj2]
      rw [wr]
      refine w_keep (r := sNr s + 1) (k := q.1) (l := q.2.1) (np := sNp s) (by omega) v1 o1 (fun x hx => by rw [w3 _ (by decide), f3.2.1]; exact gl2 x hx) o2 o3 o4 (by rw [w3k _ (by decide) (by decide), f3.2.2]; exact kd2) (by rw [w3j _ (by decide)]; exact g3.1.1) (fun I4 k1 k2 k3 k4 k5 k6 => ?_)
      have e4 : I4 127 = mm_wI (mm_wI I3 127 12 0) 127 24 (nI (sNr s + 1)) 127 := k1 _ (by decide) (by decide) (by decide)
      have r4 : I4 127 24 = nI (sNr s + 1) := by rw [e4]; exact wr
      have rea4 : I4 127 33 = nI x.1 := by rw [e4, w3k _ (by decide) (by decide)]; exact r3.1
      have rul4 : I4 127 34 = x.2.1 := by rw [e4, w3k _ (by decide) (by decide)]; exact r3.2.1
      have man4 : I4 127 35 = nI x.2.2.length := by rw [e4, w3k _ (by decide) (by decide)]; exact r3.2.2.1
      have wM : ∀ (I0 : mm_I) k j v, k ≠ 127 → mm_wI I0 k j v 127 = I0 127 := fun I0 k j v hk => by funext t; rw [mWI, if_neg (fun e => hk e.symm)]
      have wM1 : ∀ (I0 : mm_I) j v, mm_wI I0 145 j v 127 = I0 127 := fun I0 j v => wM I0 _ j v (by decide)
      have wM2 : ∀ (I0 : mm_I) j v, mm_wI I0 146 j v 127 = I0 127 := fun I0 j v => wM I0 _ j v (by decide)
      have wM3 : ∀ (I0 : mm_I) j v, mm_wI I0 147 j v 127 = I0 127 := fun I0 j v => wM I0 _ j v (by decide)
      simp only [mmE, mmE0, mmH, mT, mR, mRf, mAl, mAs, mAz, mAn, Int.reduceToNat, Int32.reduceOfInt, Int64.reduceOfInt, Int.reduceAdd, swE, Nat.reduceDiv, Nat.reduceMod, Nat.reduceAdd, Nat.reduceMul, Nat.reduceEqDiff, Nat.reduceLeDiff, Nat.zero_le, List.length_nil, List.length_cons, Nat.zero_add, true_or, or_true, false_or, or_false, true_and, and_true, and_self, mb_01, mb_t, mb_f, Option.toList_some, Option.toList_none, List.cons_append, List.nil_append, r4, rea4, rul4, man4, wM1, wM2, wM3, ix41 (show sNr s + 1 < 41 by omega), true_implies, not_true_eq_false, not_false_eq_true, false_implies, and_true, true_and]
      refine w_mcopy (r := sNr s + 1) (n := x.2.2.length) (by omega) x3 x.2.2.length 0 _ (by omega) (by rw [wM3, wM2, wM1]; exact man4) (by rw [wM3, wM2, wM1]; exact r4) (fun I5 o1 c1 c2 c3 => ?_)
      have r5 : mm_wI I5 127 37 0 127 24 = nI (sNr s + 1) := by rw [mWI, if_pos rfl, if_neg (by decide), c1 _ (by decide), wM3, wM2, wM1]; exact r4
      simp only [bk_152.2.2.2.2.2, mmE, mmE0, mmH, mT, mR, mRf, mAl, mAs, mAz, mAn, Int.reduceToNat, Int32.reduceOfInt, Int64.reduceOfInt, Int.reduceAdd, swE, Nat.reduceDiv, Nat.reduceMod, Nat.reduceAdd, Nat.reduceMul, Nat.reduceEqDiff, Nat.reduceLeDiff, Nat.zero_le, List.length_nil, List.length_cons, Nat.zero_add, true_or, or_true, false_or, or_false, true_and, and_true, and_self, mb_01, mb_t, mb_f, r5, z01]
      -- cells that stay
      have wk : ∀ k, k ≠ 127 → k ≠ 142 → k ≠ 143 → k ≠ 144 → k ≠ 145 → k ≠ 146 → k ≠ 147 → k ≠ 148 → mm_wI I5 127 37 0 k = mm_wI I3 127 12 0 k := fun k d1 d2 d3 d4 d5 d6 d7 d8 => by
        have : mm_wI I5 127 37 0 k = I5 k := by funext t; rw [mWI, if_neg d1]
        rw [this, c1 k d8]
        funext t
        rw [mWI, if_neg d7, mWI, if_neg d6, mWI, if_neg d5, k1 k d2 d3 d4, mWI, if_neg d1]
      have wj : ∀ j, j ≠ 24 → j ≠ 37 → mm_wI I5 127 37 0 127 j = mm_wI I3 127 12 0 127 j := fun j d1 d2 => by
        rw [mWI, if_pos rfl, if_neg d2, c1 _ (by decide), wM3, wM2, wM1, e4, w3j j d1]
      have w5 : ∀ k, k ≠ 127 → mm_wI I5 127 37 0 k = I5 k := fun k hk => by funext t; rw [mWI, if_neg hk]
      have wa : ∀ k, k ≠ 148 → k ≠ 145 → k ≠ 146 → k ≠ 147 → k ≠ 127 → mm_wI I5 127 37 0 k = I4 k := fun k d1 d2 d3 d4 d5 => by
        rw [w5 k d5, c1 k d1]
        funext t
        rw [mWI, if_neg d4, mWI, if_neg d3, mWI, if_neg d2]
      have q1 : ∀ t, mm_wI I5 127 37 0 145 t = if t = sNr s + 1 then nI x.1 else mm_wI I3 127 12 0 145 t := fun t => by
        rw [w5 _ (by decide), c1 _ (by decide), mWI, if_neg (by decide), mWI, if_neg (by decide), mWI, if_pos rfl, k1 _ (by decide) (by decide) (by decide), w3 _ (by decide)]
        split
        · rfl
        · rw [mWI, if_neg (by decide)]
      have q2 : ∀ t, mm_wI I5 127 37 0 146 t = if t = sNr s + 1 then x.2.1 else mm_wI I3 127 12 0 146 t := fun t => by
        rw [w5 _ (by decide), c1 _ (by decide), mWI, if_neg (by decide), mWI, if_pos rfl]
        split
        · rfl
        · rw [mWI, if_neg (by decide), k1 _ (by decide) (by decide) (by decide), w3 _ (by decide), mWI, if_neg (by decide)]
      have q3 : ∀ t, mm_wI I5 127 37 0 147 t = if t = sNr s + 1 then nI x.2.2.length else mm_wI I3 127 12 0 147 t := fun t => by
        rw [w5 _ (by decide), c1 _ (by decide), mWI, if_pos rfl]
        split
        · rfl
        · rw [mWI, if_neg (by decide), mWI, if_neg (by decide), k1 _ (by decide) (by decide) (by decide), w3 _ (by decide), mWI, if_neg (by decide)]
      have q4 : ∀ t, t < 6 * (sNr s + 1) → mm_wI I5 127 37 0 148 t = mm_wI I3 127 12 0 148 t := fun t ht => by
        rw [w5 _ (by decide), c2 t (by omega), mWI, if_neg (by decide), mWI, if_neg (by decide), mWI, if_neg (by decide), k1 _ (by decide) (by decide) (by decide), w3 _ (by decide), mWI, if_neg (by decide)]
      obtain ⟨⟨b1, b2, b3, b4⟩, bb, c, e', g, i, j, l, mt⟩ := g3
      -- a former row stays
      have keepR : ∀ r y, r ≤ sNr s → rM_row (mm_wI I3 127 12 0) r y → y.2.2.2.length ≤ 6 → rM_row (mm_wI I5 127 37 0) r y := by
        intro r y hr hy hy6
        obtain ⟨m1, m2, m3, m4, m5, m6, m7⟩ := hy
        have i3 : ∀ k t, k ≠ 127 → mm_wI I3 127 12 0 k t = I3 k t := fun k t hk => by rw [mWI, if_neg hk]
        refine ⟨?_, fun k hk => ?_, ?_, ?_, ?_, ?_, fun k hk => ?_⟩
        · rw [wa _ (by decide) (by decide) (by decide) (by decide) (by decide), (k2 r (by omega)).1, w3 _ (by decide), ← i3 _ _ (by decide)]; exact m1
        · rw [wa _ (by decide) (by decide) (by decide) (by decide) (by decide), k3 _ (by omega), w3 _ (by decide), ← i3 _ _ (by decide)]; exact m2 k hk
        · rw [wa _ (by decide) (by decide) (by decide) (by decide) (by decide), (k2 r (by omega)).2, w3 _ (by decide), ← i3 _ _ (by decide)]; exact m3
        · rw [q1, if_neg (by omega)]; exact m4
        · rw [q2, if_neg (by omega)]; exact m5
        · rw [q3, if_neg (by omega)]; exact m6
        · rw [q4 _ (by omega)]; exact m7 k hk
      refine ⟨rfl, ⟨⟨?_, ?_, r5, ?_⟩, mfigs_c (wk _ (by decide) (by decide) (by decide) (by decide) (by decide) (by decide) (by decide) (by decide)) (wk _ (by decide) (by decide) (by decide) (by decide) (by decide) (by decide) (by decide) (by decide)) (wk _ (by decide) (by decide) (by decide) (by decide) (by decide) (by decide) (by decide) (by decide)) bb, ⟨?_, c.2.1, fun i hi => ?_⟩, ⟨?_, e'.2⟩, fun r r1 r2 => ?_, fun qg => ?_, ?_, (fun qg => by cases qg), ?_⟩, ?_⟩
      · rw [wj _ (by decide) (by decide)]; exact b1
      · rw [wj _ (by decide) (by decide)]; exact b2
      · rw [wj _ (by decide) (by decide)]; exact b4
      · rw [wj _ (by decide) (by decide)]; exact c.1
      · rw [wk _ (by decide) (by decide) (by decide) (by decide) (by decide) (by decide) (by decide) (by decide)]; exact c.2.2 i hi
      · rw [wj _ (by decide) (by decide)]; exact e'.1
      · show rM_row _ r (gup (sR s) (sNr s + 1) (q.2.2.1, x) r)
        have r2 : r ≤ sNr s + 1 := r2
        rw [gup_at]
        by_cases qr : r = sNr s + 1
        · rw [if_pos qr, qr]
          refine ⟨?_, fun k hk => ?_, ?_, ?_, ?_, ?_, fun k hk => ?_⟩
          · rw [wa _ (by decide) (by decide) (by decide) (by decide) (by decide)]; exact k4
          · rw [wa _ (by decide) (by decide) (by decide) (by decide) (by decide)]; exact k6 k hk
          · rw [wa _ (by decide) (by decide) (by decide) (by decide) (by decide)]; exact k5
          · rw [q1, if_pos rfl]
          · rw [q2, if_pos rfl]
          · rw [q3, if_pos rfl]
          · rw [w5 _ (by decide), c3 k (by omega) hk, mWI, if_neg (by decide), mWI, if_neg (by decide), mWI, if_neg (by decide), k1 _ (by decide) (by decide) (by decide), w3 _ (by decide)]
            exact r3.2.2.2 k hk
        · rw [if_neg qr]
          exact keepR r _ (by omega) (g r r1 (show r ≤ sNr s by omega)) (hv.2.2.2.1 r r1 (by omega)).2.2.2.1
      · show rM_row _ 0 (gup (sR s) (sNr s + 1) (q.2.2.1, x) 0)
        rw [gup_at, if_neg (by omega)]
        have := (hv.2.2.2.2 qg).2
        exact keepR 0 _ (by omega) (i qg) (by rw [this]; decide)
      · rw [mWI, if_pos rfl, if_pos rfl]; rfl
      · obtain ⟨mt1, mt2, mt3⟩ := mt
        refine ⟨fun m hm => ?_, ?_, ?_⟩
        · unfold mtb
          rw [wk _ (by decide) (by decide) (by decide) (by decide) (by decide) (by decide) (by decide) (by decide), wk _ (by decide) (by decide) (by decide) (by decide) (by decide) (by decide) (by decide) (by decide), wk _ (by decide) (by decide) (by decide) (by decide) (by decide) (by decide) (by decide) (by decide), wk _ (by decide) (by decide) (by decide) (by decide) (by decide) (by decide) (by decide) (by decide), wk _ (by decide) (by decide) (by decide) (by decide) (by decide) (by decide) (by decide) (by decide)]
          exact mt1 m hm
        · rw [q1, if_neg (by omega)]; exact mt2
        · rw [q3, if_neg (by omega)]; exact mt3
      · exact frM_tr g2 (frM_tr (frM_w (by decide)) (fun k hk => ⟨wk k (by omega) (by omega) (by omega) (by omega) (by omega) (by omega) (by omega) (by omega), rfl⟩))
end OI
