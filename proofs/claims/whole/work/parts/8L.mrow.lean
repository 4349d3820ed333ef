/-! the reference grades a row -/
theorem find_snoc {p : Nat → Bool} {w : Nat} : (List.range' 0 (w + 1)).find? p = match (List.range' 0 w).find? p with
  | some i => some i
  | none => if p w = true then some w else none := by
  rw [List.range'_1_concat, List.find?_append, Nat.zero_add]
  cases (List.range' 0 w).find? p with
  | some i => rfl
  | none =>
    show List.find? p [w] = _
    rw [List.find?_cons, List.find?_nil]
    cases p w <;> rfl
def gsel (o : Option Nat) (cur : Int32) : Int32 := match o with
  | none => cur
  | some i => nI i
/-- what grading a row may change -/
def fM (I I' : mm_I) (r : Nat) : Prop := (∀ k, k ≠ 127 → k ≠ 136 → k ≠ 137 → (k < 150 ∨ 154 < k) → I' k = I k) ∧ (∀ j, j ≠ 47 → j ≠ 43 → I' 127 j = I 127 j) ∧ ∀ k q, 150 ≤ k → k ≤ 154 → q ≠ r → I' k q = I k q
theorem fM_tr {I I' I'' : mm_I} {r : Nat} (h : fM I I' r) (h' : fM I' I'' r) : fM I I'' r := ⟨fun k a b c e => (h'.1 k a b c e).trans (h.1 k a b c e), fun j a b => (h'.2.1 j a b).trans (h.2.1 j a b), fun k q a b c => (h'.2.2 k q a b c).trans (h.2.2 k q a b c)⟩
theorem fM_W {I I' : mm_I} {r : Nat} (h : frW I I') : fM I I' r := ⟨fun k a b c _ => h.1 k a b c, fun j a _ => h.2 j a, fun k q a b _ => by rw [h.1 k (by omega) (by omega) (by omega)]⟩
theorem fM_a {I : mm_I} {r k : Nat} {x : Int32} (hk : 150 ≤ k ∧ k ≤ 154) : fM I (mm_wI I k r x) r := by
  refine ⟨fun c _ _ _ e => ?_, fun j _ _ => ?_, fun c q _ _ e => ?_⟩
  · funext t; rw [mWI, if_neg (by omega)]
  · rw [mWI, if_neg (by omega)]
  · rw [mWI]
    by_cases q' : c = k
    · rw [if_pos q', if_neg e]
    · rw [if_neg q']
theorem fM_j {I : mm_I} {r j : Nat} {x : Int32} (hj : j = 47 ∨ j = 43) : fM I (mm_wI I 127 j x) r := by
  refine ⟨fun c a _ _ _ => ?_, fun i a b => ?_, fun c q a b _ => ?_⟩
  · funext t; rw [mWI, if_neg a]
  · rw [mWI, if_pos rfl, if_neg (by omega)]
  · rw [mWI, if_neg (by omega)]
theorem shM_M {I I' : mm_I} {s : st_T} {r : Nat} (h : shM I s) (g : fM I I' r) : shM I' s := by
  obtain ⟨⟨a1, a2, a3⟩, b, c, e⟩ := h
  refine ⟨⟨?_, ?_, ?_⟩, mfigs_c (g.1 _ (by decide) (by decide) (by decide) (by decide)) (g.1 _ (by decide) (by decide) (by decide) (by decide)) (g.1 _ (by decide) (by decide) (by decide) (by decide)) b, fun r r1 r2 => mrow_c (fun k _ _ => g.1 k (by omega) (by omega) (by omega) (by omega)) (c r r1 r2), mtab_c (fun k _ _ => g.1 k (by omega) (by omega) (by omega) (by omega)) (fun k _ _ => by rw [g.1 k (by omega) (by omega) (by omega) (by omega)]) e⟩
  · rw [g.2.1 _ (by decide) (by decide)]; exact a1
  · rw [g.2.1 _ (by decide) (by decide)]; exact a2
  · rw [g.2.1 _ (by decide) (by decide)]; exact a3
theorem gfM_M {I I' : mm_I} {s : st_T} {r : Nat} (h : gfM I s) (g : fM I I' r) : gfM I' s := by
  intro f hf
  rw [g.1 _ (by decide) (by decide) (by decide) (by decide)]
  exact h f hf
section MC
variable {z : mm_S} {d : Nat} {J : mm_J} {s : st_T} {G : Nat → gr_T} {Q : Option Value → mm_I → mm_J → Prop}
theorem w_ctr_loop {r : Nat} (h1 : 1 ≤ r) (h2 : r ≤ sNr s) (hv : va s) : ∀ (w : Nat) (I : mm_I) (cur : Int32), w ≤ sNf s → shM I s → gfM I s → I 153 r = cur → (∀ I' o3, (∀ k, k ≠ 153 → I' k = I k) → (∀ q, q ≠ r → I' 153 q = I 153 q) → I' 153 r = gsel ((List.range' 0 w).find? fun i => gfS s i && !fg_shows (sF s i) (sR s r).1) cur → mm_at z (mm_call z (d + 4)) (mm_code 169) Q 102 [some (.ref 127), some (.int (nI r)), some (.int 0), o3] [] I' J) → mm_at z (mm_call z (d + 4)) (mm_code 169) Q 54 [some (.ref 127), some (.int (nI r)), some (.int 0), some (.int (nI w - 1))] [] I J
  | 0, I, cur, hw, h, hg, hc, K => by
    rw [hk_169_54]
    simp only [mmE, mmE0, mmH, mT, mR, mRf, mAl, mAs, mAz, mAn, Int.reduceToNat, Int32.reduceOfInt, Int64.reduceOfInt, Int.reduceAdd, swE, Nat.reduceDiv, Nat.reduceMod, Nat.reduceAdd, Nat.reduceMul, Nat.reduceEqDiff, Nat.reduceLeDiff, Nat.zero_le, List.length_nil, List.length_cons, Nat.zero_add, true_or, or_true, false_or, or_false, true_and, and_true, and_self, mb_01, mb_t, mb_f, pd0, true_implies, not_true_eq_false, not_false_eq_true, false_implies, and_true, true_and]
    exact K I _ (fun _ _ => rfl) (fun _ _ => rfl) hc
  | w + 1, I, cur, hw, h, hg, hc, K => by
    have v2 := hv.1.2.1
    have v3 := hv.1.2.2.1
    have rF := isP_F hv.1.1 (hv.2.2.2.1 r h1 h2).1
    rw [hk_169_54]
    simp only [bk_169.2.2.2.1, bk_169.2.2.2.2.1, mmE, mmE0, mmH, mT, mR, mRf, mAl, mAs, mAz, mAn, Int.reduceToNat, Int32.reduceOfInt, Int64.reduceOfInt, Int.reduceAdd, swE, Nat.reduceDiv, Nat.reduceMod, Nat.reduceAdd, Nat.reduceMul, Nat.reduceEqDiff, Nat.reduceLeDiff, Nat.zero_le, List.length_nil, List.length_cons, Nat.zero_add, true_or, or_true, false_or, or_false, true_and, and_true, and_self, mb_01, mb_t, mb_f, Option.toList_some, Option.toList_none, List.cons_append, List.nil_append, pd1, nneg (show w < 2 ^ 31 by omega), ix41 (show r < 41 by omega), ix6 (show w < 6 by omega), hg w (by omega), c_rowHolds (show w < 6 by omega) (show r ≤ 40 by omega) (hv.2.1 w (by omega)).1 (h.2.1 w (by omega)) rF (h.2.2.1 r h1 h2), mb_0, hc, pdm, true_implies, not_true_eq_false, not_false_eq_true, false_implies, and_true, true_and]
    have go : ∀ v : Int32, v = (if (gfS s w && !fg_shows (sF s w) (sR s r).1) = true then nI w else cur) → mm_at z (mm_call z (d + 4)) (mm_code 169) Q 54 [some (.ref 127), some (.int (nI r)), some (.int 0), some (.int (nI w - 1))] [] (mm_wI I 153 r v) J := by
      intro v hvv
      have fw : fM I (mm_wI I 153 r v) r := fM_a (by decide)
      refine w_ctr_loop h1 h2 hv w _ v (by omega) (shM_M h fw) (gfM_M hg fw) (by rw [mWI, if_pos rfl, if_pos rfl]) (fun I' o3 k1 k2 k3 => K I' o3 (fun k hk => ?_) (fun q hq => ?_) ?_)
      · rw [k1 k hk]; funext t; rw [mWI, if_neg hk]
      · rw [k2 q hq, mWI, if_pos rfl, if_neg hq]
      · rw [k3, find_snoc]
        cases (List.range' 0 w).find? fun i => gfS s i && !fg_shows (sF s i) (sR s r).1 with
        | some i => rfl
        | none =>
          show v = gsel (if (gfS s w && !fg_shows (sF s w) (sR s r).1) = true then some w else none) cur
          rw [hvv]
          split <;> rfl
    cases eg : gfS s w with
    | false =>
      simp only [true_implies, not_true_eq_false, not_false_eq_true, false_implies, and_true, true_and]
      exact go cur (by rw [eg, Bool.false_and, if_neg (by decide)])
    | true =>
      simp only [Bool.true_eq_false, true_implies, not_true_eq_false, not_false_eq_true, false_implies, and_true, true_and]
      cases es : fg_shows (sF s w) (sR s r).1 with
      | false =>
        simp only [true_implies, not_true_eq_false, not_false_eq_true, false_implies, and_true, true_and]
        exact go (nI w) (by rw [eg, es]; rfl)
      | true =>
        simp only [Bool.true_eq_false, true_implies, not_true_eq_false, not_false_eq_true, false_implies, and_true, true_and]
        exact go cur (by rw [eg, es]; rfl)
theorem w_gradeRow {I : mm_I} {r n : Nat} (h1 : 1 ≤ r) (h2 : r ≤ sNr s) (hn : n < 40) (h0 : G r = gr0) (hv : va s) (h : shM I s) (hG : gMs I (sNr s) G) (hg : gfM I s) (hl : lv2 I s G) (ho : I 127 43 = nI n) (K : ∀ I', fM I I' r → gM I' r (gXS s G (n + 1) r) → I' 127 43 = nI (n + 1) → lv2 I' s (gup G r (gXS s G (n + 1) r)) → Q none I' J) : mm_call z (d + 10) 169 [.ref 127, .int (nI r)] I J Q := by
  have v3 := hv.1.2.2.1
  have v2 := hv.1.2.1
  have vP := (hv.2.2.2.1 r h1 h2).1
  have gF := isP_F hv.1.1 vP
  have sg := (un_sl gF).2
  have gr0a : (G r).2.1 = 0 := by rw [h0]; rfl
  have hw := @wyS_le s G r
  simp only [ce_169, bk_169.1, mmE, mmE0, mmH, mT, mR, mRf, mAl, mAs, mAz, mAn, Int.reduceToNat, Int32.reduceOfInt, Int64.reduceOfInt, Int.reduceAdd, swE, Nat.reduceDiv, Nat.reduceMod, Nat.reduceAdd, Nat.reduceMul, Nat.reduceEqDiff, Nat.reduceLeDiff, Nat.zero_le, List.length_nil, List.length_cons, Nat.zero_add, true_or, or_true, false_or, or_false, true_and, and_true, and_self, mb_01, mb_t, mb_f]
  refine w_wayOf h1 h2 gr0a hv h hG hg hl (fun I1 k1 k2 k3 => ?_)
  have w5 : (nI (wyS s G r) = 5) = (wyS s G r = 5) := eq_nI (b := 5) (by omega) (by omega)
  have w0 : (nI (wyS s G r) = 0) = (wyS s G r = 0) := n0E (by omega)
  have wle : (nI (wyS s G r) ≤ 0) = (wyS s G r ≤ 0) := le_nI (b := 0) (by omega) (by omega)
  have h1' := shM_W h k1
  have fa : fM I1 (mm_wI I1 151 r (nI (wyS s G r))) r := fM_a (by decide)
  have ra : mm_wI I1 151 r (nI (wyS s G r)) 144 r = nI (sl (sR s r).1) := by rw [mWI, if_neg (by decide)]; exact (h1'.2.2.1 r h1 h2).2.2.1
  have la : mm_wI I1 151 r (nI (wyS s G r)) 137 = I1 137 := by funext t; rw [mWI, if_neg (by decide)]
  simp only [bk_169.2.1, bk_169.2.2.1, mmE, mmE0, mmH, mT, mR, mRf, mAl, mAs, mAz, mAn, Int.reduceToNat, Int32.reduceOfInt, Int64.reduceOfInt, Int.reduceAdd, swE, Nat.reduceDiv, Nat.reduceMod, Nat.reduceAdd, Nat.reduceMul, Nat.reduceEqDiff, Nat.reduceLeDiff, Nat.zero_le, List.length_nil, List.length_cons, Nat.zero_add, true_or, or_true, false_or, or_false, true_and, and_true, and_self, mb_01, mb_t, mb_f, Option.toList_some, Option.toList_none, List.cons_append, List.nil_append, ix41 (show r < 41 by omega), w5, ra, la, ix4400 sg, true_implies, not_true_eq_false, not_false_eq_true, false_implies, and_true, true_and]
  -- from the gap on
  have rest : ∀ g : Int32, g = nI (if wyS s G r = 5 then rt_lvl (sNp s) (S0 (sNr s) (sR s) G) (sR s r).1 else 0) → mm_at z (mm_call z (d + 9)) (mm_code 169) Q 54 [some (.ref 127), some (.int (nI r)), some (.int (nI (wyS s G r))), some (.int (nI (sNf s) - 1))] [] (mm_wI (mm_wI (mm_wI I1 151 r (nI (wyS s G r))) 152 r g) 153 r (-5)) J := by
    intro g hgg
    have fb : fM I1 (mm_wI (mm_wI (mm_wI I1 151 r (nI (wyS s G r))) 152 r g) 153 r (-5)) r := fM_tr fa (fM_tr (fM_a (by decide)) (fM_a (by decide)))
    have cb : mm_wI (mm_wI (mm_wI I1 151 r (nI (wyS s G r))) 152 r g) 153 r (-5) 153 r = -5 := by rw [mWI, if_pos rfl, if_pos rfl]
    have wb : mm_wI (mm_wI (mm_wI I1 151 r (nI (wyS s G r))) 152 r g) 153 r (-5) 151 r = nI (wyS s G r) := by rw [mWI, if_neg (by decide), mWI, if_neg (by decide), mWI, if_pos rfl, if_pos rfl]
    have gb : mm_wI (mm_wI (mm_wI I1 151 r (nI (wyS s G r))) 152 r g) 153 r (-5) 152 r = g := by rw [mWI, if_neg (by decide), mWI, if_pos rfl, if_pos rfl]
    have lb : ∀ j, mm_wI (mm_wI (mm_wI I1 151 r (nI (wyS s G r))) 152 r g) 153 r (-5) 127 j = I1 127 j := fun j => by rw [mWI, if_neg (by decide), mWI, if_neg (by decide), mWI, if_neg (by decide)]
    have vb : mm_wI (mm_wI (mm_wI I1 151 r (nI (wyS s G r))) 152 r g) 153 r (-5) 137 = I1 137 := by funext t; rw [mWI, if_neg (by decide), mWI, if_neg (by decide), mWI, if_neg (by decide)]
    generalize mm_wI (mm_wI (mm_wI I1 151 r (nI (wyS s G r))) 152 r g) 153 r (-5) = I2 at fb cb wb gb lb vb ⊢
    -- from the verdict on
    have fin : ∀ (I3 : mm_I) o3, fM I1 I3 r → I3 153 r = (if wyS s G r = 0 then wI (agS s (sR s r).1) else -5) → I3 151 r = nI (wyS s G r) → I3 152 r = g → (∀ j, I3 127 j = I1 127 j) → I3 137 = I1 137 → mm_at z (mm_call z (d + 9)) (mm_code 169) Q 102 [some (.ref 127), some (.int (nI r)), some (.int (nI (wyS s G r))), o3] [] I3 J := by
      intro I3 o3 m1 m2 m3 m4 m5 m6
      have i1o : I1 127 43 = nI n := by rw [k1.2 _ (by decide)]; exact ho
      have e3o : I3 127 43 = nI n := by rw [m5]; exact i1o
      have gv : (gXS s G (n + 1) r).2.1 = if wyS s G r = 0 then (if agS s (sR s r).1 = none then 2 else 0) else 1 := rfl
      -- the end
      have fin2 : ∀ v, v = (gXS s G (n + 1) r).2.1 → ∀ x : Int32, x = (if wyS s G r ≤ 0 then I1 127 47 else -5) → Q none (mm_wI (mm_wI (mm_wI (mm_wI I3 150 r (nI v)) 127 43 (nI (n + 1))) 154 r (nI (n + 1))) 127 47 x) J := by
        intro v hvv x hx
        have f4 : fM I3 (mm_wI (mm_wI (mm_wI (mm_wI I3 150 r (nI v)) 127 43 (nI (n + 1))) 154 r (nI (n + 1))) 127 47 x) r := fM_tr (fM_a (by decide)) (fM_tr (fM_j (Or.inr rfl)) (fM_tr (fM_a (by decide)) (fM_j (Or.inl rfl))))
        refine K _ (fM_tr (fM_W k1) (fM_tr m1 f4)) ⟨?_, ?_, ?_, ?_, ?_⟩ ?_ ?_
        · rw [mWI, if_neg (by decide), mWI, if_pos rfl, if_pos rfl]; rfl
        · rw [mWI, if_neg (by decide), mWI, if_neg (by decide), mWI, if_neg (by decide), mWI, if_pos rfl, if_pos rfl, hvv]
        · rw [mWI, if_neg (by decide), mWI, if_neg (by decide), mWI, if_neg (by decide), mWI, if_neg (by decide)]; exact m3
        · rw [mWI, if_neg (by decide), mWI, if_neg (by decide), mWI, if_neg (by decide), mWI, if_neg (by decide), m4, hgg]; rfl
        · rw [mWI, if_neg (by decide), mWI, if_neg (by decide), mWI, if_neg (by decide), mWI, if_neg (by decide), m2]; rfl
        · rw [mWI, if_pos rfl, if_neg (by decide), mWI, if_neg (by decide), mWI, if_pos rfl, if_pos rfl]
        · intro q
          rw [mWI, if_pos rfl, if_pos rfl, hx] at q
          by_cases q0 : wyS s G r ≤ 0
          · rw [if_pos q0] at q
            have q00 : wyS s G r = 0 := by omega
            have nv : ¬ (gXS s G (n + 1) r).2.1 = 1 := by rw [gv, if_pos q00]; split <;> omega
            rw [S0_up h1 h2 gr0a, if_neg nv]
            intro t ht
            rw [mWI, if_neg (by decide), mWI, if_neg (by decide), mWI, if_neg (by decide), mWI, if_neg (by decide), m6]
            exact k2 q t ht
          · rw [if_neg q0] at q
            exact absurd q (by decide)
      have wo : ∀ v : Int32, mm_wI I3 150 r v 127 43 = nI n := fun v => by rw [mWI, if_neg (by decide)]; exact e3o
      have wo2 : ∀ v : Int32, mm_wI (mm_wI I3 150 r v) 127 43 (nI n + 1) 127 43 = nI (n + 1) := fun v => by rw [mWI, if_pos rfl, if_pos rfl, nI_succ]
      have wl : ∀ v : Int32, mm_wI (mm_wI (mm_wI I3 150 r v) 127 43 (nI n + 1)) 154 r (nI (n + 1)) 127 47 = I1 127 47 := fun v => by rw [mWI, if_neg (by decide), mWI, if_pos rfl, if_neg (by decide), mWI, if_neg (by decide), m5]
      have e5 : (0 ≤ wI (agS s (sR s r).1)) = (agS s (sR s r).1 ≠ none) := by
        cases e : agS s (sR s r).1 with
        | none => exact propext ⟨fun w => absurd w (by decide), fun w => absurd rfl w⟩
        | some i =>
          have := agS_lt e
          refine propext ⟨fun _ w => (by cases w), fun _ => ?_⟩
          show 0 ≤ nI i
          rw [show (0 : Int32) = nI 0 from rfl, le_nI (by omega) (by omega)]
          omega
      simp only [bk_169.2.2.2.2.2.1, bk_169.2.2.2.2.2.2.1, bk_169.2.2.2.2.2.2.2.1, bk_169.2.2.2.2.2.2.2.2.1, bk_169.2.2.2.2.2.2.2.2.2.1, bk_169.2.2.2.2.2.2.2.2.2.2, mmE, mmE0, mmH, mT, mR, mRf, mAl, mAs, mAz, mAn, Int.reduceToNat, Int32.reduceOfInt, Int64.reduceOfInt, Int.reduceAdd, swE, Nat.reduceDiv, Nat.reduceMod, Nat.reduceAdd, Nat.reduceMul, Nat.reduceEqDiff, Nat.reduceLeDiff, Nat.zero_le, List.length_nil, List.length_cons, Nat.zero_add, true_or, or_true, false_or, or_false, true_and, and_true, and_self, mb_01, mb_t, mb_f, ix41 (show r < 41 by omega), wle, m2, wo, wo2, wl, true_implies, not_true_eq_false, not_false_eq_true, false_implies, and_true, true_and]
      rw [nI_succ] at fin2
      by_cases q0 : wyS s G r ≤ 0
      · have q00 : wyS s G r = 0 := by omega
        rw [if_pos q00]
        have e5' : (wI (agS s (sR s r).1) < 0) = (agS s (sR s r).1 = none) := by
          rw [← Int32.not_le, e5]
          exact propext ⟨fun w => Decidable.byContradiction w, fun w v => v w⟩
        simp only [eq_true q0, true_implies, not_true_eq_false, not_false_eq_true, false_implies, and_true, true_and, e5']
        rw [if_pos q00] at gv
        by_cases qn : agS s (sR s r).1 = none
        · rw [if_pos qn] at gv
          simp only [eq_true qn, true_implies, not_true_eq_false, not_false_eq_true, false_implies, and_true, true_and]
          have := fin2 2 gv.symm (I1 127 47) (by rw [if_pos q0])
          rw [nI_succ]
          exact this
        · rw [if_neg qn] at gv
          simp only [qn, true_implies, not_true_eq_false, not_false_eq_true, false_implies, and_true, true_and]
          have := fin2 0 gv.symm (I1 127 47) (by rw [if_pos q0])
          rw [nI_succ]
          exact this
      · rw [if_neg (show ¬ wyS s G r = 0 by omega)] at gv
        simp only [q0, true_implies, not_true_eq_false, not_false_eq_true, false_implies, and_true, true_and]
        have := fin2 1 gv.symm (-5) (by rw [if_neg q0])
        rw [nI_succ]
        exact this
    by_cases q0 : wyS s G r = 0
    · rw [if_pos q0] at fin
      have e0 : nI (wyS s G r) = 0 := by rw [q0]; rfl
      rw [e0] at fin ⊢
      refine w_ctr_loop (z := z) (d := d + 5) h1 h2 hv (sNf s) I2 (-5) (Nat.le_refl _) (shM_M h1' fb) (gfM_M (gfM_W hg k1) fb) cb (fun I3 o3 a1 a2 a3 => ?_)
      refine fin I3 o3 ⟨fun k x y w v => ?_, fun j x y => ?_, fun k q x y w => ?_⟩ ?_ ?_ ?_ (fun j => ?_) ?_
      · rw [a1 k (by omega)]; exact fb.1 k x y w v
      · rw [a1 _ (by decide)]; exact fb.2.1 j x y
      · by_cases ek : k = 153
        · rw [ek, a2 q w]; exact fb.2.2 _ q (by decide) (by decide) w
        · rw [a1 k ek]; exact fb.2.2 k q x y w
      · rw [a3]
        show gsel (agS s (sR s r).1) (-5) = _
        cases agS s (sR s r).1 <;> rfl
      · rw [a1 _ (by decide), wb, e0]
      · rw [a1 _ (by decide)]; exact gb
      · rw [a1 _ (by decide)]; exact lb j
      · rw [a1 _ (by decide)]; exact vb
    · rw [if_neg q0] at fin
      have w0' : (nI (wyS s G r) = 0) = False := by rw [w0]; exact eq_false q0
      rw [hk_169_54]
      have := fin I2 (some (.int (nI (sNf s) - 1))) fb cb wb gb lb vb
      simp only [mmE, mmE0, mmH, mT, mR, mRf, mAl, mAs, mAz, mAn, Int.reduceToNat, Int32.reduceOfInt, Int64.reduceOfInt, Int.reduceAdd, swE, Nat.reduceDiv, Nat.reduceMod, Nat.reduceAdd, Nat.reduceMul, Nat.reduceEqDiff, Nat.reduceLeDiff, Nat.zero_le, List.length_nil, List.length_cons, Nat.zero_add, true_or, or_true, false_or, or_false, true_and, and_true, and_self, mb_01, mb_t, mb_f, w0', true_implies, not_true_eq_false, not_false_eq_true, false_implies, and_true, true_and]
      by_cases ql : (nI (sNf s) - 1 : Int32) < 0
      · simp only [eq_true ql, true_implies, not_true_eq_false, not_false_eq_true, false_implies, and_true, true_and]
        exact this
      · simp only [ql, true_implies, not_true_eq_false, not_false_eq_true, false_implies, and_true, true_and]
        exact this
  by_cases q5 : wyS s G r = 5
  · have hv' := k3 (Or.inl q5) (sl (sR s r).1) sg
    rw [lvs_sl gF] at hv'
    have wE := @wyS_q s G r
    have l2 : rt_lvl (sNp s) (S0 (sNr s) (sR s) G) (sR s r).1 ≤ 2 := by
      rw [q5] at wE
      have q3 : qwS s G r ≤ 3 := by
        unfold qwS
        by_cases a1 : (sR s r).2.1 = 1
        · rw [if_pos a1]; omega
        rw [if_neg a1]
        by_cases a2 : S0 (sNr s) (sR s) G (sR s r).1
        · rw [cif_pos a2]; omega
        rw [cif_neg a2]
        split <;> omega
      by_cases a : qwS s G r ≠ 0
      · rw [if_pos a] at wE; omega
      · rw [if_neg a] at wE
        split at wE
        · omega
        · by_cases qq : rt_lv (sNp s) (S0 (sNr s) (sR s) G) 2 (sR s r).1
          · exact (@rt_lvl_le (sNp s) (S0 (sNr s) (sR s) G) (sR s r).1 2 (by omega)).mpr qq
          · rw [cif_neg qq] at wE; omega
    have eN : lvN (sNp s) (S0 (sNr s) (sR s) G) 2 (sR s r).1 = rt_lvl (sNp s) (S0 (sNr s) (sR s) G) (sR s r).1 := if_pos l2
    rw [eN, if_pos (by omega)] at hv'
    simp only [eq_true q5, true_implies, not_true_eq_false, not_false_eq_true, false_implies, and_true, true_and, hv', (shM_M h1' (fM_tr fa (fM_tr (fM_a (I := mm_wI I1 151 r (nI (wyS s G r))) (k := 152) (r := r) (x := nI (rt_lvl (sNp s) (S0 (sNr s) (sR s) G) (sR s r).1)) (by decide)) (fM_a (k := 153) (r := r) (x := -5) (by decide))))).1.2.1]
    exact rest _ (by rw [if_pos q5])
  · simp only [q5, true_implies, not_true_eq_false, not_false_eq_true, false_implies, and_true, true_and, (shM_M h1' (fM_tr fa (fM_tr (fM_a (I := mm_wI I1 151 r (nI (wyS s G r))) (k := 152) (r := r) (x := 0) (by decide)) (fM_a (k := 153) (r := r) (x := -5) (by decide))))).1.2.1]
    exact rest _ (by rw [if_neg q5]; rfl)
end MC
