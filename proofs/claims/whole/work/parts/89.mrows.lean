/-! the reference's levels from right rows -/
def frW (I I' : mm_I) : Prop := (∀ k, k ≠ 127 → k ≠ 136 → k ≠ 137 → I' k = I k) ∧ ∀ j, j ≠ 47 → I' 127 j = I 127 j
theorem frW_rf {I : mm_I} : frW I I := ⟨fun _ _ _ _ => rfl, fun _ _ => rfl⟩
theorem frW_tr {I I' I'' : mm_I} (h : frW I I') (h' : frW I' I'') : frW I I'' := ⟨fun k a b c => (h'.1 k a b c).trans (h.1 k a b c), fun j a => (h'.2 j a).trans (h.2 j a)⟩
theorem frW_V {I I' : mm_I} (h : frV I I') : frW I I' := ⟨fun k _ b c => h k b c, fun j _ => by rw [h _ (by decide) (by decide)]⟩
theorem mpt_W {I I' : mm_I} {np : Nat} (h : mpt I np) (g : frW I I') : mpt I' np := by
  obtain ⟨a, c, e⟩ := h
  refine ⟨?_, mtab_c (fun k _ _ => g.1 k (by omega) (by omega) (by omega)) (fun k _ _ => by rw [g.1 k (by omega) (by omega) (by omega)]) c, e⟩
  rw [g.2 _ (by decide)]; exact a
/-- grades as the reference keeps them -/
def gMs (I : mm_I) (nr : Nat) (G : Nat → gr_T) : Prop := ∀ r, 1 ≤ r → r ≤ nr → gM I r (G r) ∧ (G r).1 ≤ 40 ∧ (G r).2.1 ≤ 2 ∧ ((G r).1 = 0 → (G r).2.1 = 0)
theorem gMs_W {I I' : mm_I} {nr : Nat} {G : Nat → gr_T} (h : gMs I nr G) (g : frW I I') : gMs I' nr G := by
  intro r r1 r2
  obtain ⟨a, b⟩ := h r r1 r2
  refine ⟨?_, b⟩
  unfold gM
  rw [g.1 _ (by decide) (by decide) (by decide), g.1 _ (by decide) (by decide) (by decide), g.1 _ (by decide) (by decide) (by decide), g.1 _ (by decide) (by decide) (by decide), g.1 _ (by decide) (by decide) (by decide)]
  exact a
theorem shM_W {I I' : mm_I} {s : st_T} (h : shM I s) (g : frW I I') : shM I' s := by
  obtain ⟨⟨a1, a2, a3⟩, b, c, e⟩ := h
  refine ⟨⟨?_, ?_, ?_⟩, mfigs_c (g.1 _ (by decide) (by decide) (by decide)) (g.1 _ (by decide) (by decide) (by decide)) (g.1 _ (by decide) (by decide) (by decide)) b, fun r r1 r2 => mrow_c (fun k _ _ => g.1 k (by omega) (by omega) (by omega)) (c r r1 r2), mtab_c (fun k _ _ => g.1 k (by omega) (by omega) (by omega)) (fun k _ _ => by rw [g.1 k (by omega) (by omega) (by omega)]) e⟩
  · rw [g.2 _ (by decide)]; exact a1
  · rw [g.2 _ (by decide)]; exact a2
  · rw [g.2 _ (by decide)]; exact a3
section NL
variable {z : mm_S} {d : Nat} {J : mm_J} {s : st_T} {Q : Option Value → mm_I → mm_J → Prop}
theorem w_nl_loop : ∀ (w i : Nat) (I : mm_I), i + w = 4400 → (∀ I', (∀ k, k ≠ 137 → I' k = I k) → (∀ t, t < i → I' 137 t = I 137 t) → (∀ t, i ≤ t → t < 4400 → I' 137 t = -1) → Q none (mm_wI I' 127 47 (-5)) J) → mm_at z (mm_call z d) (mm_code 174) Q 2 [some (.ref 127), some (.int (nI i))] [] I J
  | 0, i, I, hi, K => by
    rw [hk_174_2]
    have c1 : (4400 ≤ nI i) = True := by rw [show (4400 : Int32) = nI 4400 from rfl, le_nI (by omega) (by omega)]; exact eq_true (by omega)
    simp only [bk_174.2, mmE, mmE0, mmH, mT, mR, mRf, mAl, mAs, mAz, mAn, Int.reduceToNat, Int32.reduceOfInt, Int64.reduceOfInt, Int.reduceAdd, swE, Nat.reduceDiv, Nat.reduceMod, Nat.reduceAdd, Nat.reduceMul, Nat.reduceEqDiff, Nat.reduceLeDiff, Nat.zero_le, List.length_nil, List.length_cons, Nat.zero_add, true_or, or_true, false_or, or_false, true_and, and_true, and_self, mb_01, mb_t, mb_f, c1, true_implies, not_true_eq_false, not_false_eq_true, false_implies, and_true, true_and]
    exact K I (fun _ _ => rfl) (fun _ _ => rfl) (fun t h1 h2 => by omega)
  | w + 1, i, I, hi, K => by
    rw [hk_174_2]
    have c1 : (4400 ≤ nI i) = False := by rw [show (4400 : Int32) = nI 4400 from rfl, le_nI (by omega) (by omega)]; exact eq_false (by omega)
    simp only [mmE, mmE0, mmH, mT, mR, mRf, mAl, mAs, mAz, mAn, Int.reduceToNat, Int32.reduceOfInt, Int64.reduceOfInt, Int.reduceAdd, swE, Nat.reduceDiv, Nat.reduceMod, Nat.reduceAdd, Nat.reduceMul, Nat.reduceEqDiff, Nat.reduceLeDiff, Nat.zero_le, List.length_nil, List.length_cons, Nat.zero_add, true_or, or_true, false_or, or_false, true_and, and_true, and_self, mb_01, mb_t, mb_f, c1, ix4400 (show i < 4400 by omega), true_implies, not_true_eq_false, not_false_eq_true, false_implies, and_true, true_and]
    rw [← nI_succ]
    refine w_nl_loop w (i + 1) _ (by omega) (fun I' g1 g2 g3 => K I' (fun k hk => ?_) (fun t ht => ?_) (fun t h1 h2 => ?_))
    · rw [g1 k hk]
      funext q
      rw [mWI, if_neg hk]
    · rw [g2 t (by omega), mWI, if_pos rfl, if_neg (by omega)]
    · by_cases q : t = i
      · rw [g2 t (by omega), mWI, if_pos rfl, if_pos q]
      · exact g3 t (by omega) h2
theorem w_noLevels {I : mm_I} (K : ∀ I', frW I I' → I' 127 47 = -5 → rm_lv I' (fun _ => 6) → Q none I' J) : mm_call z (d + 1) 174 [.ref 127] I J Q := by
  simp only [ce_174, bk_174.1, mmE, mmE0, mmH, mT, mR, mRf, mAl, mAs, mAz, mAn, Int.reduceToNat, Int32.reduceOfInt, Int64.reduceOfInt, Int.reduceAdd, swE, Nat.reduceDiv, Nat.reduceMod, Nat.reduceAdd, Nat.reduceMul, Nat.reduceEqDiff, Nat.reduceLeDiff, Nat.zero_le, List.length_nil, List.length_cons, Nat.zero_add, true_or, or_true, false_or, or_false, true_and, and_true, and_self, mb_01, mb_t, mb_f]
  refine w_nl_loop (z := z) (d := d) 4400 0 I rfl (fun I' g1 _ g3 => K _ ⟨fun k a _ c => ?_, fun j a => ?_⟩ ?_ (fun t ht => ?_))
  · funext q
    rw [mWI, if_neg a, g1 k c]
  · rw [mWI, if_pos rfl, if_neg a, g1 _ (by decide)]
  · rw [mWI, if_pos rfl, if_pos rfl]
  · rw [mWI, if_neg (by decide), g3 t (by omega) ht, if_neg]
    unfold lvs
    split
    · exact (show ¬ 6 < 6 by omega)
    · omega
noncomputable def vR (R : Nat → rw_T) (G : Nat → gr_T) (k f : Nat) : Nat := cif (∃ r, 1 ≤ r ∧ r < k ∧ (G r).2.1 = 1 ∧ (R r).1 = f) 0 6
theorem vR_S {R : Nat → rw_T} {G : Nat → gr_T} {k : Nat} (h1 : 1 ≤ k) : vR R G (k + 1) = if (G k).2.1 = 1 then gup (vR R G k) (R k).1 0 else vR R G k := by
  funext f
  by_cases q : (G k).2.1 = 1
  · rw [if_pos q, gup_at]
    by_cases e : f = (R k).1
    · rw [if_pos e]
      exact cif_pos ⟨k, h1, by omega, q, e.symm⟩
    · rw [if_neg e]
      refine cif_c ⟨fun ⟨r, a, b, c, w⟩ => ⟨r, a, ?_, c, w⟩, fun ⟨r, a, b, c, w⟩ => ⟨r, a, by omega, c, w⟩⟩
      by_cases er : r = k
      · rw [er] at w; exact absurd w.symm e
      · omega
  · rw [if_neg q]
    refine cif_c ⟨fun ⟨r, a, b, c, w⟩ => ⟨r, a, ?_, c, w⟩, fun ⟨r, a, b, c, w⟩ => ⟨r, a, by omega, c, w⟩⟩
    by_cases er : r = k
    · rw [er] at c; exact absurd c q
    · omega
theorem vR_lv {np nr : Nat} {R : Nat → rw_T} {G : Nat → gr_T} : vR R G (nr + 1) = lvN np (S0 nr R G) 0 := by
  funext f
  have hk := @rt_lvl_le np (S0 nr R G) f 0 (by omega)
  unfold lvN
  by_cases q : rt_lv np (S0 nr R G) 0 f
  · have q' := hk.mpr q
    obtain ⟨r, a, b, c, w⟩ := (q : S0 nr R G f)
    rw [if_pos q']
    have : vR R G (nr + 1) f = 0 := cif_pos ⟨r, a, by omega, c, w⟩
    omega
  · rw [if_neg (fun w => q (hk.mp w))]
    exact cif_neg (fun ⟨r, a, b, c, w⟩ => q ⟨r, a, by omega, c, w⟩)
theorem w_lr_loop {G : Nat → gr_T} (hv : va s) : ∀ (w r : Nat) (I : mm_I), 1 ≤ r → r + w = sNr s + 1 → shM I s → gMs I (sNr s) G → rm_lv I (vR (sR s) G r) → (∀ I', frW I I' → I' 127 47 = I 127 47 → rm_lv I' (vR (sR s) G (sNr s + 1)) → Q none I' J) → mm_at z (mm_call z d) (mm_code 182) Q 6 [some (.ref 127), some (.int (nI r))] [] I J
  | 0, r, I, h1, hr, h, hG, hV, K => by
    have v3 := hv.1.2.2.1
    rw [hk_182_6]
    have c1 : (nI (sNr s) < nI r) = True := by rw [lt_nI (by omega) (by omega)]; exact eq_true (by omega)
    simp only [bk_182.2.2, mmE, mmE0, mmH, mT, mR, mRf, mAl, mAs, mAz, mAn, Int.reduceToNat, Int32.reduceOfInt, Int64.reduceOfInt, Int.reduceAdd, swE, Nat.reduceDiv, Nat.reduceMod, Nat.reduceAdd, Nat.reduceMul, Nat.reduceEqDiff, Nat.reduceLeDiff, Nat.zero_le, List.length_nil, List.length_cons, Nat.zero_add, true_or, or_true, false_or, or_false, true_and, and_true, and_self, mb_01, mb_t, mb_f, h.1.2.2, c1, true_implies, not_true_eq_false, not_false_eq_true, false_implies, and_true, true_and]
    rw [show r = sNr s + 1 by omega] at hV
    exact K I frW_rf rfl hV
  | w + 1, r, I, h1, hr, h, hG, hV, K => by
    have v3 := hv.1.2.2.1
    obtain ⟨⟨o1, o2, o3, o4, o5⟩, p1, p2, p3⟩ := hG r h1 (by omega)
    have hrow := h.2.2.1 r h1 (by omega)
    have gF := isP_F hv.1.1 (hv.2.2.2.1 r h1 (by omega)).1
    have sg := (un_sl gF).2
    rw [hk_182_6]
    have c1 : (nI (sNr s) < nI r) = False := by rw [lt_nI (by omega) (by omega)]; exact eq_false (by omega)
    have c2 : (nI (G r).1 ≤ 0) = ((G r).1 ≤ 0) := le_nI (b := 0) (by omega) (by omega)
    have c3 : (nI (G r).2.1 = 1) = ((G r).2.1 = 1) := eq_nI (b := 1) (by omega) (by omega)
    have eS := vR_S (R := sR s) (G := G) h1
    simp only [bk_182.2.1, mmE, mmE0, mmH, mT, mR, mRf, mAl, mAs, mAz, mAn, Int.reduceToNat, Int32.reduceOfInt, Int64.reduceOfInt, Int.reduceAdd, swE, Nat.reduceDiv, Nat.reduceMod, Nat.reduceAdd, Nat.reduceMul, Nat.reduceEqDiff, Nat.reduceLeDiff, Nat.zero_le, List.length_nil, List.length_cons, Nat.zero_add, true_or, or_true, false_or, or_false, true_and, and_true, and_self, mb_01, mb_t, mb_f, h.1.2.2, c1, ix41 (show r < 41 by omega), o1, o2, hrow.2.2.1, ix4400 sg, c2, c3, true_implies, not_true_eq_false, not_false_eq_true, false_implies, and_true, true_and]
    rw [← nI_succ]
    have skip : ¬ (G r).2.1 = 1 → mm_at z (mm_call z d) (mm_code 182) Q 6 [some (.ref 127), some (.int (nI (r + 1)))] [] I J := by
      intro q
      rw [if_neg q] at eS
      exact w_lr_loop hv w (r + 1) I (by omega) (by omega) h hG (by rw [eS]; exact hV) K
    by_cases q0 : (G r).1 ≤ 0
    · simp only [eq_true q0, true_implies, not_true_eq_false, not_false_eq_true, false_implies, and_true, true_and]
      exact skip (by rw [p3 (by omega)]; omega)
    · by_cases q1 : (G r).2.1 = 1
      · simp only [q0, eq_true q1, true_implies, not_true_eq_false, not_false_eq_true, false_implies, and_true, true_and]
        rw [if_pos q1] at eS
        have fw : frW I (mm_wI I 137 (sl (sR s r).1) 0) := ⟨fun k _ _ c => by funext x; rw [mWI, if_neg c], fun j _ => by rw [mWI, if_neg (by decide)]⟩
        refine w_lr_loop hv w (r + 1) _ (by omega) (by omega) (shM_W h fw) (gMs_W hG fw) (by rw [eS]; exact rm_lv_w (v := 0) gF (by decide) hV) (fun I' k1 k2 k3 => K I' (frW_tr fw k1) (by rw [k2, mWI, if_neg (by decide)]) k3)
      · simp only [q0, q1, true_implies, not_true_eq_false, not_false_eq_true, false_implies, and_true, true_and]
        exact skip q1
theorem w_levelRows {I : mm_I} {G : Nat → gr_T} (hv : va s) (h : shM I s) (hG : gMs I (sNr s) G) (K : ∀ I', frW I I' → I' 127 47 = -5 → rm_lv I' (lvN (sNp s) (S0 (sNr s) (sR s) G) 0) → Q none I' J) : mm_call z (d + 2) 182 [.ref 127] I J Q := by
  simp only [ce_182, bk_182.1, mmE, mmE0, mmH, mT, mR, mRf, mAl, mAs, mAz, mAn, Int.reduceToNat, Int32.reduceOfInt, Int64.reduceOfInt, Int.reduceAdd, swE, Nat.reduceDiv, Nat.reduceMod, Nat.reduceAdd, Nat.reduceMul, Nat.reduceEqDiff, Nat.reduceLeDiff, Nat.zero_le, List.length_nil, List.length_cons, Nat.zero_add, true_or, or_true, false_or, or_false, true_and, and_true, and_self, mb_01, mb_t, mb_f]
  refine w_noLevels (fun I1 g1 g2 g3 => ?_)
  simp only [mmE, mmE0, mmH, mT, mR, mRf, mAl, mAs, mAz, mAn, Int.reduceToNat, Int32.reduceOfInt, Int64.reduceOfInt, Int.reduceAdd, swE, Nat.reduceDiv, Nat.reduceMod, Nat.reduceAdd, Nat.reduceMul, Nat.reduceEqDiff, Nat.reduceLeDiff, Nat.zero_le, List.length_nil, List.length_cons, Nat.zero_add, true_or, or_true, false_or, or_false, true_and, and_true, and_self, mb_01, mb_t, mb_f, Option.toList_some, Option.toList_none, List.cons_append, List.nil_append]
  have e1 : vR (sR s) G 1 = fun _ => 6 := by
    funext f
    exact cif_neg (fun ⟨r, a, b, _⟩ => by omega)
  refine w_lr_loop (z := z) (d := d + 1) hv (sNr s) 1 I1 (by omega) (by omega) (shM_W h g1) (gMs_W hG g1) (by rw [e1]; exact g3) (fun I2 k1 k2 k3 => K I2 (frW_tr g1 k1) (k2.trans g2) ?_)
  rw [← vR_lv]
  exact k3
theorem mpt_of {I : mm_I} (hv : va s) (h : shM I s) : mpt I (sNp s) := ⟨h.1.1, h.2.2.2, hv.1.1⟩
/-- the levels for a row -/
theorem w_levelOf {I : mm_I} {G : Nat → gr_T} {r : Nat} (hv : va s) (h : shM I s) (hG : gMs I (sNr s) G) (h1 : 1 ≤ r) (h2 : r ≤ sNr s) (hl : I 127 47 = 2 → rm_lv I (lvN (sNp s) (S0 (sNr s) (sR s) G) 2)) (K : ∀ I', frW I I' → I' 127 47 = 2 → rm_lv I' (lvN (sNp s) (S0 (sNr s) (sR s) G) 2) → Q (some (.int (if lvN (sNp s) (S0 (sNr s) (sR s) G) 2 (sR s r).1 < 6 then nI (lvN (sNp s) (S0 (sNr s) (sR s) G) 2 (sR s r).1) else -1))) I' J) : mm_call z (d + 8) 181 [.ref 127, .int (nI r)] I J Q := by
  have v3 := hv.1.2.2.1
  have gF := isP_F hv.1.1 (hv.2.2.2.1 r h1 h2).1
  have sg := (un_sl gF).2
  have fin : ∀ I', frW I I' → I' 127 47 = 2 → rm_lv I' (lvN (sNp s) (S0 (sNr s) (sR s) G) 2) → mm_at z (mm_call z (d + 7)) (mm_code 181) Q 22 [some (.ref 127), some (.int (nI r))] [] I' J := by
    intro I' g1 g2 g3
    have hrow := (shM_W h g1).2.2.1 r h1 h2
    have hv' := g3 (sl (sR s r).1) sg
    rw [lvs_sl gF] at hv'
    simp only [bk_181.2, mmE, mmE0, mmH, mT, mR, mRf, mAl, mAs, mAz, mAn, Int.reduceToNat, Int32.reduceOfInt, Int64.reduceOfInt, Int.reduceAdd, swE, Nat.reduceDiv, Nat.reduceMod, Nat.reduceAdd, Nat.reduceMul, Nat.reduceEqDiff, Nat.reduceLeDiff, Nat.zero_le, List.length_nil, List.length_cons, Nat.zero_add, true_or, or_true, false_or, or_false, true_and, and_true, and_self, mb_01, mb_t, mb_f, ix41 (show r < 41 by omega), hrow.2.2.1, ix4400 sg, hv', true_implies, not_true_eq_false, not_false_eq_true, false_implies, and_true, true_and]
    exact K I' g1 g2 g3
  simp only [ce_181, bk_181.1, mmE, mmE0, mmH, mT, mR, mRf, mAl, mAs, mAz, mAn, Int.reduceToNat, Int32.reduceOfInt, Int64.reduceOfInt, Int.reduceAdd, swE, Nat.reduceDiv, Nat.reduceMod, Nat.reduceAdd, Nat.reduceMul, Nat.reduceEqDiff, Nat.reduceLeDiff, Nat.zero_le, List.length_nil, List.length_cons, Nat.zero_add, true_or, or_true, false_or, or_false, true_and, and_true, and_self, mb_01, mb_t, mb_f]
  by_cases q : I 127 47 = 2
  · simp only [eq_true q, true_implies, not_true_eq_false, not_false_eq_true, false_implies, and_true, true_and]
    exact fin I frW_rf q (hl q)
  · simp only [q, true_implies, not_true_eq_false, not_false_eq_true, false_implies, and_true, true_and]
    refine w_levelRows hv h hG (fun I1 g1 g2 g3 => ?_)
    simp only [mmE, mmE0, mmH, mT, mR, mRf, mAl, mAs, mAz, mAn, Int.reduceToNat, Int32.reduceOfInt, Int64.reduceOfInt, Int.reduceAdd, swE, Nat.reduceDiv, Nat.reduceMod, Nat.reduceAdd, Nat.reduceMul, Nat.reduceEqDiff, Nat.reduceLeDiff, Nat.zero_le, List.length_nil, List.length_cons, Nat.zero_add, true_or, or_true, false_or, or_false, true_and, and_true, and_self, mb_01, mb_t, mb_f, Option.toList_some, Option.toList_none, List.cons_append, List.nil_append]
    refine w_spreadUpTo (most := 2) (by omega) (mpt_W (mpt_of hv h) g1) g3 (fun I2 k1 k2 => ?_)
    simp only [mmE, mmE0, mmH, mT, mR, mRf, mAl, mAs, mAz, mAn, Int.reduceToNat, Int32.reduceOfInt, Int64.reduceOfInt, Int.reduceAdd, swE, Nat.reduceDiv, Nat.reduceMod, Nat.reduceAdd, Nat.reduceMul, Nat.reduceEqDiff, Nat.reduceLeDiff, Nat.zero_le, List.length_nil, List.length_cons, Nat.zero_add, true_or, or_true, false_or, or_false, true_and, and_true, and_self, mb_01, mb_t, mb_f, Option.toList_some, Option.toList_none, List.cons_append, List.nil_append]
    have fw : frW I2 (mm_wI I2 127 47 2) := ⟨fun k a _ _ => by funext x; rw [mWI, if_neg a], fun j a => by rw [mWI, if_pos rfl, if_neg a]⟩
    refine fin _ (frW_tr g1 (frW_tr (frW_V k1) fw)) (by rw [mWI, if_pos rfl, if_pos rfl]) ?_
    unfold rm_lv
    intro t ht
    rw [mWI, if_neg (by decide)]
    exact k2 t ht
theorem lvN5 {np : Nat} {S0 : Nat → Prop} : lvN np S0 5 = rt_lvl np S0 := by
  funext f
  unfold lvN
  have := @rt_lvl_6 np S0 f
  split <;> omega
theorem w_levelAll {I : mm_I} {G : Nat → gr_T} (hv : va s) (h : shM I s) (hG : gMs I (sNr s) G) (hl : I 127 47 = 5 → rm_lv I (rt_lvl (sNp s) (S0 (sNr s) (sR s) G))) (K : ∀ I', frW I I' → I' 127 47 = 5 → rm_lv I' (rt_lvl (sNp s) (S0 (sNr s) (sR s) G)) → Q none I' J) : mm_call z (d + 8) 196 [.ref 127] I J Q := by
  simp only [ce_196, bk_196.1, bk_196.2, mmE, mmE0, mmH, mT, mR, mRf, mAl, mAs, mAz, mAn, Int.reduceToNat, Int32.reduceOfInt, Int64.reduceOfInt, Int.reduceAdd, swE, Nat.reduceDiv, Nat.reduceMod, Nat.reduceAdd, Nat.reduceMul, Nat.reduceEqDiff, Nat.reduceLeDiff, Nat.zero_le, List.length_nil, List.length_cons, Nat.zero_add, true_or, or_true, false_or, or_false, true_and, and_true, and_self, mb_01, mb_t, mb_f]
  by_cases q : I 127 47 = 5
  · simp only [eq_true q, true_implies, not_true_eq_false, not_false_eq_true, false_implies, and_true, true_and]
    exact K I frW_rf q (hl q)
  · simp only [q, true_implies, not_true_eq_false, not_false_eq_true, false_implies, and_true, true_and]
    refine w_levelRows hv h hG (fun I1 g1 g2 g3 => ?_)
    simp only [mmE, mmE0, mmH, mT, mR, mRf, mAl, mAs, mAz, mAn, Int.reduceToNat, Int32.reduceOfInt, Int64.reduceOfInt, Int.reduceAdd, swE, Nat.reduceDiv, Nat.reduceMod, Nat.reduceAdd, Nat.reduceMul, Nat.reduceEqDiff, Nat.reduceLeDiff, Nat.zero_le, List.length_nil, List.length_cons, Nat.zero_add, true_or, or_true, false_or, or_false, true_and, and_true, and_self, mb_01, mb_t, mb_f, Option.toList_some, Option.toList_none, List.cons_append, List.nil_append]
    refine w_spreadUpTo (most := 5) (by omega) (mpt_W (mpt_of hv h) g1) g3 (fun I2 k1 k2 => ?_)
    simp only [mmE, mmE0, mmH, mT, mR, mRf, mAl, mAs, mAz, mAn, Int.reduceToNat, Int32.reduceOfInt, Int64.reduceOfInt, Int.reduceAdd, swE, Nat.reduceDiv, Nat.reduceMod, Nat.reduceAdd, Nat.reduceMul, Nat.reduceEqDiff, Nat.reduceLeDiff, Nat.zero_le, List.length_nil, List.length_cons, Nat.zero_add, true_or, or_true, false_or, or_false, true_and, and_true, and_self, mb_01, mb_t, mb_f, Option.toList_some, Option.toList_none, List.cons_append, List.nil_append, bk_196.2]
    rw [lvN5] at k2
    have fw : frW I2 (mm_wI I2 127 47 5) := ⟨fun k a _ _ => by funext x; rw [mWI, if_neg a], fun j a => by rw [mWI, if_pos rfl, if_neg a]⟩
    refine K _ (frW_tr g1 (frW_tr (frW_V k1) fw)) (by rw [mWI, if_pos rfl, if_pos rfl]) ?_
    unfold rm_lv
    intro t ht
    rw [mWI, if_neg (by decide)]
    exact k2 t ht
end NL
