/-! rows, goals and words are typed: the class -/
def o_row (s : st_T) : op_T := if sNp s = 0 then (-3, s) else match rdF (sT s) (sN s) (sNp s) (sW s (sLg s)) with
  | .error p => (-100 - nI p, uN s 0)
  | .ok q => match rdR (sT s) (sN s) (sW s (sLg s)) q.2.2.2 with
    | .error p => (-100 - nI p, uN s 0)
    | .ok x => if sNr s = 40 then (-4, uN s 0) else (nI (sNr s + 1), uGd (uN (uR (uNr s (sNr s + 1)) (gup (sR s) (sNr s + 1) (q.2.2.1, x))) 0) false)
def o_goal (s : st_T) : op_T := if sNp s = 0 then (-3, s) else match rdF (sT s) (sN s) (sNp s) (sW s (sLg s)) with
  | .error p => (-100 - nI p, uN s 0)
  | .ok q => if tk_s (tk_c (sT s) (sN s) q.2.2.2) = 0 then (1, uHg (uN (uR s (gup (sR s) 0 (q.2.2.1, 0, -5, []))) 0) true) else (-100 - nI (tk_j (sT s) (sN s) q.2.2.2), uN s 0)
def wup (W : Nat → Nat → List Nat) (l k : Nat) (c : List Nat) : Nat → Nat → List Nat := fun a b => if a = l ∧ b = k then c else W a b
def o_word (s : st_T) (l w : Int32) : op_T := if inN 2 l then (if inN 11 w then (if tk_s (tk_c (sT s) (sN s) 0) = 1 then (if tk_s (tk_c (sT s) (sN s) (tk_e (sT s) (sN s) 0)) = 0 then (match wh (sW s l.toNatClampNeg) (tk_c (sT s) (sN s) 0) with
  | none => (1, uW (uN s 0) (wup (sW s) l.toNatClampNeg w.toNatClampNeg (tk_c (sT s) (sN s) 0)))
  | some k => if k = w.toNatClampNeg then (1, uW (uN s 0) (wup (sW s) l.toNatClampNeg w.toNatClampNeg (tk_c (sT s) (sN s) 0))) else (-3, uN s 0)) else (-100 - nI (tk_j (sT s) (sN s) (tk_e (sT s) (sN s) 0)), uN s 0)) else (-100 - nI (tk_j (sT s) (sN s) 0), uN s 0)) else (-2, s)) else (-1, s)
section OG
variable {z : mm_S} {d : Nat} {I : mm_I} {J : mm_J} {s : st_T} {Q : Option Value → mm_I → mm_J → Prop}
theorem c06 : ((0 : Int32) < 0) = False ∧ ((6 : Int32) < 0) = False ∧ (0 : Int32).toNatClampNeg = 0 ∧ (6 : Int32).toNatClampNeg = 6 := by decide
theorem w_rtake {c : Nat} {x : rw_T} (hT : mm_T c = (4, 10)) (hT1 : mm_T (c + 1) = (100, 6)) (hR : mm_R c 4 = some (c + 1)) (hc : c < 110) (hl : x.2.2.2.length ≤ 6) (h : rC_row I 110 x) (k : ∀ I', rC_row I' c x → (∀ k, k ≠ c → k ≠ c + 1 → I' k = I k) → Q none I' J) : mm_call z (d + 1) 65 [.ref c, .ref 110] I J Q := by
  obtain ⟨h1, h2, h3, h4, h5⟩ := h
  have w : ∀ (I0 : mm_I) j v q, mm_wI I0 c j v 110 q = I0 110 q := fun I0 j v q => by rw [mWI, if_neg (by omega)]
  simp only [ce_65, bk_65, mmE, mmE0, mmH, mT, mR, mRf, mAl, mAs, mAz, mAn, Int.reduceToNat, Int32.reduceOfInt, Int64.reduceOfInt, Int.reduceAdd, swE, Nat.reduceDiv, Nat.reduceMod, Nat.reduceAdd, Nat.reduceMul, Nat.reduceEqDiff, Nat.reduceLeDiff, Nat.zero_le, List.length_nil, List.length_cons, Nat.zero_add, true_or, or_true, false_or, or_false, true_and, and_true, and_self, mb_01, mb_t, mb_f, hT, hT1, hR, w, h1, h2, h3, h4, c06, true_implies, not_true_eq_false, not_false_eq_true, false_implies, and_true, true_and, Nat.le_refl]
  show (mm_T 111).1 = 100 ∧ (mm_T (c + 1)).1 = 100 ∧ _
  refine ⟨rfl, by rw [hT1], by decide, by decide, by decide, by decide, by rw [hT1]; decide, by decide, rfl, ?_⟩
  refine k _ ⟨?_, ?_, ?_, ?_, fun q hq => ?_⟩ (fun k k1 k2 => ?_)
  · show mm_cp _ 111 0 (c + 1) 0 6 c _ = _
    unfold mm_cp
    rw [if_neg (by omega), mWI, if_pos rfl, if_neg (by decide), mWI, if_pos rfl, if_neg (by decide), mWI, if_pos rfl, if_neg (by decide), mWI, if_pos rfl, if_pos rfl]
  · show mm_cp _ 111 0 (c + 1) 0 6 c _ = _
    unfold mm_cp
    rw [if_neg (by omega), mWI, if_pos rfl, if_neg (by decide), mWI, if_pos rfl, if_neg (by decide), mWI, if_pos rfl, if_pos rfl]
  · show mm_cp _ 111 0 (c + 1) 0 6 c _ = _
    unfold mm_cp
    rw [if_neg (by omega), mWI, if_pos rfl, if_neg (by decide), mWI, if_pos rfl, if_pos rfl]
  · show mm_cp _ 111 0 (c + 1) 0 6 c _ = _
    unfold mm_cp
    rw [if_neg (by omega), mWI, if_pos rfl, if_pos rfl]
  · show mm_cp _ 111 0 (c + 1) 0 6 (c + 1) q = _
    unfold mm_cp va_cpy
    rw [if_pos rfl, if_pos (by omega), show 0 + (q - 0) = q by omega, mWI, if_neg (by omega), mWI, if_neg (by omega), mWI, if_neg (by omega), mWI, if_neg (by omega)]
    exact h5 q hq
  · show mm_cp _ 111 0 (c + 1) 0 6 k = _
    unfold mm_cp
    rw [if_neg k2]
    funext q
    rw [mWI, if_neg k1, mWI, if_neg k1, mWI, if_neg k1, mWI, if_neg k1]
theorem enC_of (h : repC I J s) : enC I J (sT s) (sN s) (sLg s) (sW s) (sNp s) := ⟨h.2.2.1, h.2.2.2.1, h.1.1⟩
theorem repC_rd {I' : mm_I} {J' : mm_J} (hv : va s) (h : repC I J s) (f : rd_fr I J I' J') : repC I' J' s ∧ frC I J I' J' := by
  have en := enC_fr (enC_of h) f
  obtain ⟨⟨a1, a2, a3, a4⟩, b, c, e, g, i, j, l⟩ := h
  have hn := hv.1.2.2.1
  have f1 : ∀ k, k ≠ 104 → (k < 109 ∨ 111 < k) → I' k = I k := fun k k1 k2 => f.1 k k1 (by omega) (by omega) (by omega)
  refine ⟨⟨⟨?_, ?_, ?_, ?_⟩, figs_c (fun k _ _ => f1 k (by omega) (by omega)) b, en.1, en.2.1, rows_c hn (fun k _ _ => f1 k (by omega) (by omega)) g, fun q => rC_fr (i q) (f1 _ (by decide) (by decide)) (f1 _ (by decide) (by decide)), ?_, fun q => rcG_c hn (fun k _ _ => f1 k (by omega) (by omega)) (fun k _ _ => f1 k (by omega) (by omega)) (f1 _ (by decide) (by decide)) (fun j _ => by rw [f1 _ (by decide) (by decide)]) (l q)⟩, fun k hk => ⟨f1 k (by omega) (by omega), by funext q; exact f.2.2 k q (by omega) (by omega)⟩⟩
  · rw [f1 _ (by decide) (by decide)]; exact a1
  · rw [f1 _ (by decide) (by decide)]; exact a2
  · rw [f1 _ (by decide) (by decide)]; exact a3
  · rw [f1 _ (by decide) (by decide)]; exact a4
  · rw [f1 _ (by decide) (by decide)]; exact j
/-- the tape is emptied -/
theorem repC_e (hv : va s) (h : repC I J s) : repC (mm_wI I 104 1 0) J (uN s 0) := by
  refine repC_tp (T' := sT s) (n' := 0) hv h (fun k k1 k2 => ?_) ⟨?_, by omega, fun i hi => by omega⟩
  · funext q
    rw [mWI, if_neg k1]
  · rw [mWI, if_pos rfl, if_pos rfl]; rfl
theorem rdF_ok {T : Nat → Nat} {n np : Nat} {W : Nat → List Nat} {q : Nat × List Nat × Nat × Nat} (hnp : np ≤ 7) (h : rdF T n np W = .ok q) : q.1 < 7 ∧ q.2.1.length = kdN q.1 ∧ (∀ x ∈ q.2.1, x < np) ∧ n_number q.1 (q.2.1.getD 0 0) (q.2.1.getD 1 0) (q.2.1.getD 2 0) (q.2.1.getD 3 0) = some q.2.2.1 ∧ q.2.2.2 ≤ n ∧ isP np q.2.2.1 := by
  unfold rdF at h
  cases e0 : rdW T n W 0 with
  | none => rw [e0] at h; cases h
  | some k =>
    rw [e0] at h
    dsimp only at h
    by_cases q7 : k < 7
    · rw [if_pos q7] at h
      cases e1 : rdP T n np (kdN k) (tk_e T n 0) with
      | error p => rw [e1] at h; cases h
      | ok r =>
        rw [e1] at h
        dsimp only at h
        obtain ⟨r1, r2, r3⟩ := rdP_ok _ _ _ (tk_le (T := T) (n := n) (i := 0) (by omega)).2.2 e1
        cases e2 : n_number k (r.1.getD 0 0) (r.1.getD 1 0) (r.1.getD 2 0) (r.1.getD 3 0) with
        | none => rw [e2] at h; cases h
        | some f =>
          rw [e2] at h
          injection h with h
          subst h
          have np0 : 0 < np := by
            have : r.1 ≠ [] := by
              intro q
              rw [q] at r1
              rcases kd34 k with q | q <;> rw [q] at r1 <;> cases r1
            obtain ⟨x, hx⟩ := List.exists_mem_of_ne_nil _ this
            have := r2 x hx
            omega
          exact ⟨q7, r1, r2, e2, r3, k, _, _, _, _, q7, getD_lt r2 np0 0, getD_lt r2 np0 1, getD_lt r2 np0 2, getD_lt r2 np0 3, e2⟩
    · rw [if_neg q7] at h
      cases h
theorem rdP_err {T : Nat → Nat} {n np : Nat} : ∀ (w i p : Nat), i ≤ n → rdP T n np w i = .error p → p ≤ n
  | 0, i, p, hi, h => by cases h
  | w + 1, i, p, hi, h => by
    have l := tk_le (T := T) hi
    unfold rdP at h
    split at h
    · cases e : rdP T n np w (tk_e T n i) with
      | error p' =>
        rw [e] at h
        injection h with h
        rw [← h]
        exact rdP_err w _ p' l.2.2 e
      | ok r => rw [e] at h; cases h
    · injection h with h
      omega
theorem rdF_err {T : Nat → Nat} {n np : Nat} {W : Nat → List Nat} {p : Nat} (h : rdF T n np W = .error p) : p ≤ n := by
  have l := tk_le (T := T) (n := n) (i := 0) (by omega)
  unfold rdF at h
  cases e0 : rdW T n W 0 with
  | none =>
    rw [e0] at h
    injection h with h
    omega
  | some k =>
    rw [e0] at h
    dsimp only at h
    by_cases q7 : k < 7
    · rw [if_pos q7] at h
      cases e1 : rdP T n np (kdN k) (tk_e T n 0) with
      | error p' =>
        rw [e1] at h
        injection h with h
        rw [← h]
        exact rdP_err _ _ _ l.2.2 e1
      | ok r =>
        rw [e1] at h
        dsimp only at h
        split at h
        · injection h with h
          omega
        · cases h
    · rw [if_neg q7] at h
      injection h with h
      omega
theorem S0_c {nr : Nat} {R R' : Nat → rw_T} {G : Nat → gr_T} (h : ∀ r, 1 ≤ r → R' r = R r) : S0 nr R' G = S0 nr R G := by
  funext f
  apply propext
  constructor
  · rintro ⟨r, r1, r2, r3, r4⟩
    exact ⟨r, r1, r2, r3, by rw [← h r r1]; exact r4⟩
  · rintro ⟨r, r1, r2, r3, r4⟩
    exact ⟨r, r1, r2, r3, by rw [h r r1]; exact r4⟩
theorem rcG_s {s' : st_T} (e1 : sNp s' = sNp s) (e2 : sNr s' = sNr s) (e3 : sG s' = sG s) (e4 : sC s' = sC s) (hR : ∀ r, 1 ≤ r → sR s' r = sR s r) (h : rcG I s) : rcG I s' := by
  have eS : S0 (sNr s') (sR s') (sG s') = S0 (sNr s) (sR s) (sG s) := by rw [e2, e3]; exact S0_c hR
  have eL : lvF s' = lvF s := by
    funext f
    unfold lvF
    rw [e1, eS]
  have eH : hntF s' = hntF s := by
    funext f
    unfold hntF
    rw [eL, e1]
  unfold rcG
  rw [e1, e2, e3, e4, eH]
  rw [e2, e3] at eS
  rw [eS]
  exact h
theorem pC_goal (hv : va s) (h : repC I J s) : mm_call z (d + 6) 107 [.ref 0] I J (okC I J (o_goal s)) := by
  obtain ⟨⟨a1, a2, a3, a4⟩, _⟩ := id h
  obtain ⟨⟨v1, v2, v3, v4⟩, _, vw, _⟩ := id hv
  unfold o_goal
  simp only [ce_107, bk_107.1, mmE, mmE0, mmH, mT, mR, mRf, mAl, mAs, mAz, mAn, Int.reduceToNat, Int32.reduceOfInt, Int64.reduceOfInt, Int.reduceAdd, swE, Nat.reduceDiv, Nat.reduceMod, Nat.reduceAdd, Nat.reduceMul, Nat.reduceEqDiff, Nat.reduceLeDiff, Nat.zero_le, List.length_nil, List.length_cons, Nat.zero_add, true_or, or_true, false_or, or_false, true_and, and_true, and_self, mb_01, mb_t, mb_f, a1, n0E (show sNp s < 2 ^ 31 by omega)]
  by_cases q0 : sNp s = 0
  · simp only [eq_true q0, true_implies, not_true_eq_false, not_false_eq_true, false_implies, and_true, true_and, if_true]
    exact ⟨rfl, h, frC_rf⟩
  simp only [q0, true_implies, not_true_eq_false, not_false_eq_true, false_implies, and_true, true_and, if_false, bk_107.2.1, ce_62, bk_62.1, mmE, mmE0, mmH, mT, mR, mRf, mAl, mAs, mAz, mAn, Int.reduceToNat, Int32.reduceOfInt, Int64.reduceOfInt, Int.reduceAdd, swE, Nat.reduceDiv, Nat.reduceMod, Nat.reduceAdd, Nat.reduceMul, Nat.reduceEqDiff, Nat.reduceLeDiff, Nat.zero_le, List.length_nil, List.length_cons, Nat.zero_add, true_or, or_true, false_or, or_false, true_and, and_true, and_self, mb_01, mb_t, mb_f]
  refine w_readFact v1 v4 vw (enC_of h) ?_
  -- a fault
  have flt : ∀ (p : Nat) (I' : mm_I) (J' : mm_J), rd_fr I J I' J' → okC I J (-100 - nI p, uN s 0) (some (.int (-100 - nI p))) (mm_wI I' 104 1 0) J' := by
    intro p I' J' f
    obtain ⟨g1, g2⟩ := repC_rd hv h f
    exact ⟨rfl, repC_e hv g1, frC_tr g2 (frC_w (by decide))⟩
  cases e : rdF (sT s) (sN s) (sNp s) (sW s (sLg s)) with
  | error p =>
    have p1 := rdF_err e
    intro I' J' f
    have pm : (nI p = -1) = False := eq_false (nI_m1' (by have := h.2.2.1.2.1; omega))
    simp only [ce_62, bk_62, ce_89, bk_89, bk_107.2.2, mmE, mmE0, mmH, mT, mR, mRf, mAl, mAs, mAz, mAn, Int.reduceToNat, Int32.reduceOfInt, Int64.reduceOfInt, Int.reduceAdd, swE, Nat.reduceDiv, Nat.reduceMod, Nat.reduceAdd, Nat.reduceMul, Nat.reduceEqDiff, Nat.reduceLeDiff, Nat.zero_le, List.length_nil, List.length_cons, Nat.zero_add, true_or, or_true, false_or, or_false, true_and, and_true, and_self, mb_01, mb_t, mb_f, Option.toList_some, Option.toList_none, List.cons_append, List.nil_append, pm, true_implies, not_true_eq_false, not_false_eq_true, false_implies, and_true, true_and]
    exact flt p I' J' f
  | ok q =>
    obtain ⟨o1, o2, o3, o4, o5, o6⟩ := rdF_ok v1 e
    intro I' J' f en hr hat
    simp only [ce_62, bk_62, mmE, mmE0, mmH, mT, mR, mRf, mAl, mAs, mAz, mAn, Int.reduceToNat, Int32.reduceOfInt, Int64.reduceOfInt, Int.reduceAdd, swE, Nat.reduceDiv, Nat.reduceMod, Nat.reduceAdd, Nat.reduceMul, Nat.reduceEqDiff, Nat.reduceLeDiff, Nat.zero_le, List.length_nil, List.length_cons, Nat.zero_add, true_or, or_true, false_or, or_false, true_and, and_true, and_self, mb_01, mb_t, mb_f, Option.toList_some, Option.toList_none, List.cons_append, List.nil_append, true_implies, not_true_eq_false, not_false_eq_true, false_implies, and_true, true_and]
    refine w_readEnd (α := Nat) (x := 0) en o5 hat (fun I2 J2 f2 f2' => ?_)
    simp only [ce_62, bk_62, ce_89, bk_89, bk_107.2.2, mmE, mmE0, mmH, mT, mR, mRf, mAl, mAs, mAz, mAn, Int.reduceToNat, Int32.reduceOfInt, Int64.reduceOfInt, Int.reduceAdd, swE, Nat.reduceDiv, Nat.reduceMod, Nat.reduceAdd, Nat.reduceMul, Nat.reduceEqDiff, Nat.reduceLeDiff, Nat.zero_le, List.length_nil, List.length_cons, Nat.zero_add, true_or, or_true, false_or, or_false, true_and, and_true, and_self, mb_01, mb_t, mb_f, Option.toList_some, Option.toList_none, List.cons_append, List.nil_append]
    by_cases qe : tk_s (tk_c (sT s) (sN s) q.2.2.2) = 0
    · rw [if_pos qe, if_pos qe]
      have hr2 := rC_fr hr (f2' _ (by decide)) (f2' _ (by decide))
      simp only [eI_none, true_implies, not_true_eq_false, not_false_eq_true, false_implies, and_true, true_and, ce_86, bk_86, mmE, mmE0, mmH, mT, mR, mRf, mAl, mAs, mAz, mAn, Int.reduceToNat, Int32.reduceOfInt, Int64.reduceOfInt, Int.reduceAdd, swE, Nat.reduceDiv, Nat.reduceMod, Nat.reduceAdd, Nat.reduceMul, Nat.reduceEqDiff, Nat.reduceLeDiff, Nat.zero_le, List.length_nil, List.length_cons, Nat.zero_add, true_or, or_true, false_or, or_false, true_and, and_true, and_self, mb_01, mb_t, mb_f]
      obtain ⟨g1, g2⟩ := repC_rd hv h (rd_tr f f2)
      have g3 := repC_e hv g1
      have hr3 : rC_row (mm_wI I2 104 1 0) 110 (q.2.2.1, 0, -5, []) := rC_fr hr2 (by funext x; rw [mWI, if_neg (by decide)]) (by funext x; rw [mWI, if_neg (by decide)])
      refine w_rtake (c := 2) rfl rfl rfl (by decide) (by simp) hr3 (fun I4 r4 f4 => ?_)
      simp only [mmE, mmE0, mmH, mT, mR, mRf, mAl, mAs, mAz, mAn, Int.reduceToNat, Int32.reduceOfInt, Int64.reduceOfInt, Int.reduceAdd, swE, Nat.reduceDiv, Nat.reduceMod, Nat.reduceAdd, Nat.reduceMul, Nat.reduceEqDiff, Nat.reduceLeDiff, Nat.zero_le, List.length_nil, List.length_cons, Nat.zero_add, true_or, or_true, false_or, or_false, true_and, and_true, and_self, mb_01, mb_t, mb_f, Option.toList_some, Option.toList_none, List.cons_append, List.nil_append, z01]
      have w4 : ∀ k, k ≠ 2 → k ≠ 3 → k ≠ 1 → mm_wI I4 1 3 1 k = mm_wI I2 104 1 0 k := fun k k1 k2 k3 => by
        rw [← f4 k k1 k2]
        funext x
        rw [mWI, if_neg k3]
      have w1 : ∀ j, j ≠ 3 → mm_wI I4 1 3 1 1 j = mm_wI I2 104 1 0 1 j := fun j hj => by rw [mWI, if_pos rfl, if_neg hj, f4 _ (by decide) (by decide)]
      obtain ⟨⟨b1, b2, b3, b4⟩, bb, c, e', g, i, j, l⟩ := g3
      refine ⟨rfl, ⟨⟨?_, ?_, ?_, ?_⟩, figs_c (fun k _ _ => w4 k (by omega) (by omega) (by omega)) bb, ⟨?_, c.2.1, fun i hi => ?_⟩, ⟨?_, e'.2⟩, fun r r1 r2 => ?_, fun _ => rC_fr r4 (by funext x; rw [mWI, if_neg (by decide)]) (by funext x; rw [mWI, if_neg (by decide)]), ?_, fun qg => ?_⟩, ?_⟩
      · rw [w1 _ (by decide)]; exact b1
      · rw [w1 _ (by decide)]; exact b2
      · rw [w1 _ (by decide)]; exact b3
      · rw [mWI, if_pos rfl, if_pos rfl]; rfl
      · rw [w4 _ (by decide) (by decide) (by decide)]; exact c.1
      · rw [w4 _ (by decide) (by decide) (by decide)]; exact c.2.2 i hi
      · rw [w4 _ (by decide) (by decide) (by decide)]; exact e'.1
      · show rC_row _ _ (gup (sR s) 0 (q.2.2.1, 0, -5, []) r)
        rw [gup_at, if_neg (by omega)]
        have : r ≤ sNr s := r2
        exact rC_fr (g r r1 r2) (w4 _ (by omega) (by omega) (by omega)) (w4 _ (by omega) (by omega) (by omega))
      · rw [w4 _ (by decide) (by decide) (by decide)]; exact j
      · refine rcG_s (s := uN s 0) rfl rfl rfl rfl (fun r r1 => ?_) (rcG_c (s := uN s 0) v3 (fun k _ _ => w4 k (by omega) (by omega) (by omega)) (fun k _ _ => w4 k (by omega) (by omega) (by omega)) (w4 _ (by decide) (by decide) (by decide)) (fun j _ => by rw [w4 _ (by decide) (by decide) (by decide)]) (l qg))
        show gup (sR s) 0 (q.2.2.1, 0, -5, []) r = sR s r
        rw [gup_at, if_neg (by omega)]
      · refine frC_tr g2 (frC_tr (frC_w (by decide)) (fun k hk => ⟨w4 k (by omega) (by omega) (by omega), rfl⟩))
    · rw [if_neg qe, if_neg qe]
      have pm : (nI (tk_j (sT s) (sN s) q.2.2.2) = -1) = False := eq_false (nI_m1' (by have := h.2.2.1.2.1; have := tk_le (T := sT s) o5; omega))
      simp only [eI_some, pm, true_implies, not_true_eq_false, not_false_eq_true, false_implies, and_true, true_and]
      exact flt _ I2 J2 (rd_tr f f2)
end OG
