/-! the reference's grading: a row's way -/
def vL (ls : List Nat) (f : Nat) : Nat := if ls.contains f = true then 0 else 6
theorem vL_app {ls : List Nat} {g : Nat} : vL (ls ++ [g]) = gup (vL ls) g 0 := by
  funext f
  unfold vL
  rw [gup_at]
  by_cases e : f = g
  · rw [if_pos e, if_pos]
    rw [List.contains_iff_mem, e]
    exact List.mem_append.mpr (Or.inr List.mem_cons_self)
  · rw [if_neg e]
    congr 1
    rw [List.contains_iff_mem, List.contains_iff_mem, List.mem_append, List.mem_singleton]
    exact propext ⟨fun q => q.resolve_right e, Or.inl⟩
theorem kV_vL {ls : List Nat} : kV (vL ls) 1 = fun g => ls.contains g := by
  funext g
  unfold kV vL
  cases h : ls.contains g
  · rw [if_neg (by decide)]; rfl
  · rw [if_pos rfl]; rfl
theorem isP_pos {np f : Nat} (h : isP np f) : 0 < np := by
  obtain ⟨k, a, b, c, e, hk, ha, _⟩ := h
  omega
section MB
variable {z : mm_S} {d : Nat} {I : mm_I} {J : mm_J} {s : st_T} {G : Nat → gr_T} {Q : Option Value → mm_I → mm_J → Prop}
theorem w_by_loop {r : Nat} (h1 : 1 ≤ r) (h2 : r ≤ sNr s) (hv : va s) : ∀ (l : List Nat) (i : Nat) (I : mm_I) (o3 : Option Value), (osS s r).drop i = l → i ≤ (osS s r).length → shM I s → gMs I (sNr s) G → rm_lv I (vL (rgt (sNr s) (sR s) G ((osS s r).take i))) → (∀ I' o2 o3, frW I I' → I' 127 47 = I 127 47 → rm_lv I' (vL (rgt (sNr s) (sR s) G (osS s r))) → mm_at z (mm_call z (d + 6)) (mm_code 173) Q 73 [some (.ref 127), some (.int (nI r)), o2, o3] [] I' J) → mm_at z (mm_call z (d + 6)) (mm_code 173) Q 6 [some (.ref 127), some (.int (nI r)), some (.int (nI i)), o3] [] I J
  | [], i, I, o3, hl, hi, h, hG, hV, K => by
    have v3 := hv.1.2.2.1
    obtain ⟨_, _, _, _, _, r6, _⟩ := h.2.2.1 r h1 h2
    have hl6 := (hv.2.2.2.1 r h1 h2).2.2.2.1
    have e : (osS s r).length ≤ i := List.drop_eq_nil_iff.mp hl
    have eL : (osS s r).length = (sR s r).2.2.2.length := rfl
    rw [hk_173_6]
    have c1 : (nI (sR s r).2.2.2.length ≤ nI i) = True := by rw [le_nI (by omega) (by omega)]; exact eq_true e
    simp only [mmE, mmE0, mmH, mT, mR, mRf, mAl, mAs, mAz, mAn, Int.reduceToNat, Int32.reduceOfInt, Int64.reduceOfInt, Int.reduceAdd, swE, Nat.reduceDiv, Nat.reduceMod, Nat.reduceAdd, Nat.reduceMul, Nat.reduceEqDiff, Nat.reduceLeDiff, Nat.zero_le, List.length_nil, List.length_cons, Nat.zero_add, true_or, or_true, false_or, or_false, true_and, and_true, and_self, mb_01, mb_t, mb_f, ix41 (show r < 41 by omega), r6, c1, true_implies, not_true_eq_false, not_false_eq_true, false_implies, and_true, true_and]
    rw [List.take_of_length_le e] at hV
    exact K I _ _ frW_rf rfl hV
  | o :: l, i, I, o3, hl, hi, h, hG, hV, K => by
    have v3 := hv.1.2.2.1
    obtain ⟨_, _, _, _, _, r6, r7⟩ := h.2.2.1 r h1 h2
    obtain ⟨_, _, _, hl6, ho⟩ := hv.2.2.2.1 r h1 h2
    have eL : (osS s r).length = (sR s r).2.2.2.length := rfl
    obtain ⟨il, eo, mo, hl', tk⟩ := osD hl
    obtain ⟨o1, o2⟩ := ho o mo
    have rO := r7 i il
    rw [eo] at rO
    rw [hk_173_6]
    have c1 : (nI (sR s r).2.2.2.length ≤ nI i) = False := by rw [le_nI (by omega) (by omega)]; exact eq_false (by omega)
    have c2 : (nI (sNr s) < nI o) = (sNr s < o) := lt_nI (by omega) (by omega)
    have rA := rgt_app (G := G) (nr := sNr s) (R := sR s) (l := (osS s r).take i) (o := o)
    simp only [bk_173.2.1, mmE, mmE0, mmH, mT, mR, mRf, mAl, mAs, mAz, mAn, Int.reduceToNat, Int32.reduceOfInt, Int64.reduceOfInt, Int.reduceAdd, swE, Nat.reduceDiv, Nat.reduceMod, Nat.reduceAdd, Nat.reduceMul, Nat.reduceEqDiff, Nat.reduceLeDiff, Nat.zero_le, List.length_nil, List.length_cons, Nat.zero_add, true_or, or_true, false_or, or_false, true_and, and_true, and_self, mb_01, mb_t, mb_f, ix41 (show r < 41 by omega), r6, c1, i6, ix246 (show 6 * r + i < 246 by omega), rO, h.1.2.2, c2, true_implies, not_true_eq_false, not_false_eq_true, false_implies, and_true, true_and]
    rw [← nI_succ]
    have skip : (decide (o ≤ sNr s) && (G o).2.1 == 1) = false → mm_at z (mm_call z (d + 6)) (mm_code 173) Q 6 [some (.ref 127), some (.int (nI r)), some (.int (nI (i + 1))), some (.int (nI o))] [] I J := by
      intro e
      rw [e, if_neg (by decide)] at rA
      exact w_by_loop h1 h2 hv l (i + 1) I _ hl' il h hG (by rw [tk, rA]; exact hV) K
    by_cases q : sNr s < o
    · simp only [eq_true q, true_implies, not_true_eq_false, not_false_eq_true, false_implies, and_true, true_and]
      exact skip (by rw [decide_eq_false (show ¬ o ≤ sNr s by omega)]; rfl)
    · obtain ⟨⟨g1, g1', _⟩, g2, g3, g4⟩ := hG o o1 (by omega)
      have oF := isP_F hv.1.1 (hv.2.2.2.1 o o1 (by omega)).1
      have so := (un_sl oF).2
      have c3 : (nI (G o).1 ≤ 0) = ((G o).1 ≤ 0) := le_nI (b := 0) (by omega) (by omega)
      have c4 : (nI (G o).2.1 = 1) = ((G o).2.1 = 1) := eq_nI (b := 1) (by omega) (by omega)
      simp only [q, true_implies, not_true_eq_false, not_false_eq_true, false_implies, and_true, true_and, ix41 (show o < 41 by omega), g1, g1', c3, c4, (h.2.2.1 o o1 (by omega)).2.2.1, ix4400 so]
      by_cases q0 : (G o).1 ≤ 0
      · simp only [eq_true q0, true_implies, not_true_eq_false, not_false_eq_true, false_implies, and_true, true_and]
        refine skip ?_
        rw [g4 (by omega)]
        exact Bool.and_false _
      · by_cases q1 : (G o).2.1 = 1
        · simp only [q0, eq_true q1, true_implies, not_true_eq_false, not_false_eq_true, false_implies, and_true, true_and]
          rw [decide_eq_true (show o ≤ sNr s by omega), Bool.true_and, if_pos (beq_iff_eq.mpr q1)] at rA
          have fw : frW I (mm_wI I 137 (sl (sR s o).1) 0) := ⟨fun k _ _ c => by funext x; rw [mWI, if_neg c], fun j _ => by rw [mWI, if_neg (by decide)]⟩
          refine w_by_loop h1 h2 hv l (i + 1) _ _ hl' il (shM_W h fw) (gMs_W hG fw) (by rw [tk, rA, vL_app]; exact rm_lv_w (v := 0) oF (by decide) hV) (fun I' o2 o3 k1 k2 k3 => K I' o2 o3 (frW_tr fw k1) (by rw [k2, mWI, if_neg (by decide)]) k3)
        · simp only [q0, q1, true_implies, not_true_eq_false, not_false_eq_true, false_implies, and_true, true_and]
          refine skip ?_
          rw [show ((G o).2.1 == 1) = false from beq_eq_false_iff_ne.mpr q1]
          exact Bool.and_false _
theorem w_isBy {r m : Nat} (h1 : 1 ≤ r) (h2 : r ≤ sNr s) (hm : m < 17) (er : (sR s r).2.2.1 = nI m) (hv : va s) (h : shM I s) (hG : gMs I (sNr s) G) (K : ∀ I', frW I I' → I' 127 47 = -5 → Q (some (.int (mb (fl (sNp s) m (sR s r).1 fun g => (rgt (sNr s) (sR s) G (osS s r)).contains g).isSome))) I' J) : mm_call z (d + 7) 173 [.ref 127, .int (nI r)] I J Q := by
  have v3 := hv.1.2.2.1
  have vP := (hv.2.2.2.1 r h1 h2).1
  have gF := isP_F hv.1.1 vP
  simp only [ce_173, bk_173.1, mmE, mmE0, mmH, mT, mR, mRf, mAl, mAs, mAz, mAn, Int.reduceToNat, Int32.reduceOfInt, Int64.reduceOfInt, Int.reduceAdd, swE, Nat.reduceDiv, Nat.reduceMod, Nat.reduceAdd, Nat.reduceMul, Nat.reduceEqDiff, Nat.reduceLeDiff, Nat.zero_le, List.length_nil, List.length_cons, Nat.zero_add, true_or, or_true, false_or, or_false, true_and, and_true, and_self, mb_01, mb_t, mb_f]
  refine w_noLevels (fun I1 g1 g2 g3 => ?_)
  simp only [mmE, mmE0, mmH, mT, mR, mRf, mAl, mAs, mAz, mAn, Int.reduceToNat, Int32.reduceOfInt, Int64.reduceOfInt, Int.reduceAdd, swE, Nat.reduceDiv, Nat.reduceMod, Nat.reduceAdd, Nat.reduceMul, Nat.reduceEqDiff, Nat.reduceLeDiff, Nat.zero_le, List.length_nil, List.length_cons, Nat.zero_add, true_or, or_true, false_or, or_false, true_and, and_true, and_self, mb_01, mb_t, mb_f, Option.toList_some, Option.toList_none, List.cons_append, List.nil_append]
  have e0 : vL (rgt (sNr s) (sR s) G ((osS s r).take 0)) = fun _ => 6 := by
    funext f
    rfl
  refine w_by_loop (z := z) (d := d) h1 h2 hv (osS s r) 0 I1 _ rfl (Nat.zero_le _) (shM_W h g1) (gMs_W hG g1) (by rw [e0]; exact g3) (fun I2 o2 o3 k1 k2 k3 => ?_)
  have h2' := shM_W (shM_W h g1) k1
  obtain ⟨_, _, r3, _, r5, _, _⟩ := h2'.2.2.1 r h1 h2
  rw [er] at r5
  simp only [bk_173.2.2, mmE, mmE0, mmH, mT, mR, mRf, mAl, mAs, mAz, mAn, Int.reduceToNat, Int32.reduceOfInt, Int64.reduceOfInt, Int.reduceAdd, swE, Nat.reduceDiv, Nat.reduceMod, Nat.reduceAdd, Nat.reduceMul, Nat.reduceEqDiff, Nat.reduceLeDiff, Nat.zero_le, List.length_nil, List.length_cons, Nat.zero_add, true_or, or_true, false_or, or_false, true_and, and_true, and_self, mb_01, mb_t, mb_f, ix41 (show r < 41 by omega), r3, r5, true_implies, not_true_eq_false, not_false_eq_true, false_implies, and_true, true_and]
  refine w_follows (bl := 1) (V := vL (rgt (sNr s) (sR s) G (osS s r))) hm (by omega) (isP_pos vP) gF ⟨h2'.1.1, k3, h2'.2.2.2, hv.1.1⟩ ?_
  rw [kV_vL]
  cases e : fl (sNp s) m (sR s r).1 (fun g => (rgt (sNr s) (sR s) G (osS s r)).contains g) with
  | some lf =>
    rw [e] at K
    intro I3 a1 _
    simp only [mmE, mmE0, mmH, mT, mR, mRf, mAl, mAs, mAz, mAn, Int.reduceToNat, Int32.reduceOfInt, Int64.reduceOfInt, Int.reduceAdd, swE, Nat.reduceDiv, Nat.reduceMod, Nat.reduceAdd, Nat.reduceMul, Nat.reduceEqDiff, Nat.reduceLeDiff, Nat.zero_le, List.length_nil, List.length_cons, Nat.zero_add, true_or, or_true, false_or, or_false, true_and, and_true, and_self, mb_01, mb_t, mb_f, Option.toList_some, Option.toList_none, List.cons_append, List.nil_append, z01]
    exact K I3 (frW_tr g1 (frW_tr k1 (frW_V (frV_A a1)))) (by rw [a1 _ (by decide), k2]; exact g2)
  | none =>
    rw [e] at K
    intro I3 a1
    simp only [mmE, mmE0, mmH, mT, mR, mRf, mAl, mAs, mAz, mAn, Int.reduceToNat, Int32.reduceOfInt, Int64.reduceOfInt, Int.reduceAdd, swE, Nat.reduceDiv, Nat.reduceMod, Nat.reduceAdd, Nat.reduceMul, Nat.reduceEqDiff, Nat.reduceLeDiff, Nat.zero_le, List.length_nil, List.length_cons, Nat.zero_add, true_or, or_true, false_or, or_false, true_and, and_true, and_self, mb_01, mb_t, mb_f, Option.toList_some, Option.toList_none, List.cons_append, List.nil_append, z01]
    exact K I3 (frW_tr g1 (frW_tr k1 (frW_V (frV_A a1)))) (by rw [a1 _ (by decide), k2]; exact g2)
/-- levels at hand, if they are said to be -/
def lv2 (I : mm_I) (s : st_T) (G : Nat → gr_T) : Prop := I 127 47 = 2 → rm_lv I (lvN (sNp s) (S0 (sNr s) (sR s) G) 2)
theorem gfM_W {I' : mm_I} (h : gfM I s) (g : frW I I') : gfM I' s := by
  intro f hf
  rw [g.1 _ (by decide) (by decide) (by decide)]
  exact h f hf
theorem w_wayOf {r : Nat} (h1 : 1 ≤ r) (h2 : r ≤ sNr s) (h0 : (G r).2.1 = 0) (hv : va s) (h : shM I s) (hG : gMs I (sNr s) G) (hg : gfM I s) (hl : lv2 I s G) (K : ∀ I', frW I I' → lv2 I' s G → (wyS s G r = 5 ∨ wyS s G r = 0 → rm_lv I' (lvN (sNp s) (S0 (sNr s) (sR s) G) 2)) → Q (some (.int (nI (wyS s G r)))) I' J) : mm_call z (d + 9) 170 [.ref 127, .int (nI r)] I J Q := by
  have v3 := hv.1.2.2.1
  obtain ⟨vP, v3', vr3, vl6, vos⟩ := hv.2.2.2.1 r h1 h2
  have gF := isP_F hv.1.1 vP
  obtain ⟨_, _, _, r4, _, _, _⟩ := h.2.2.1 r h1 h2
  have e1 : (nI (sR s r).2.1 = 1) = ((sR s r).2.1 = 1) := eq_nI (b := 1) (by omega) (by omega)
  have e2 : (nI (sR s r).2.1 = 2) = ((sR s r).2.1 = 2) := eq_nI (b := 2) (by omega) (by omega)
  have e3 : (nI (sR s r).2.1 = 3) = ((sR s r).2.1 = 3) := eq_nI (b := 3) (by omega) (by omega)
  have wE := @wyS_q s G r
  unfold qwS at wE
  simp only [ce_170, bk_170.1, bk_170.2.1, bk_170.2.2.1, mmE, mmE0, mmH, mT, mR, mRf, mAl, mAs, mAz, mAn, Int.reduceToNat, Int32.reduceOfInt, Int64.reduceOfInt, Int.reduceAdd, swE, Nat.reduceDiv, Nat.reduceMod, Nat.reduceAdd, Nat.reduceMul, Nat.reduceEqDiff, Nat.reduceLeDiff, Nat.zero_le, List.length_nil, List.length_cons, Nat.zero_add, true_or, or_true, false_or, or_false, true_and, and_true, and_self, mb_01, mb_t, mb_f, Option.toList_some, Option.toList_none, List.cons_append, List.nil_append, ix41 (show r < 41 by omega), r4, e1, e2, c_again h1 h2 h0 hv h hG, c_seen h1 h2 hv h hg, mb_0, true_implies, not_true_eq_false, not_false_eq_true, false_implies, and_true, true_and]
  by_cases q1 : (sR s r).2.1 = 1
  · rw [if_pos q1, if_pos (by omega)] at wE
    simp only [eq_true q1, true_implies, not_true_eq_false, not_false_eq_true, false_implies, and_true, true_and]
    have := K I frW_rf hl (fun w => by omega)
    rw [wE] at this
    exact this
  rw [if_neg q1] at wE
  simp only [q1, true_implies, not_true_eq_false, not_false_eq_true, false_implies, and_true, true_and]
  have sb := S0_b (nr := sNr s) (R := sR s) (G := G) (f := (sR s r).1)
  cases ea : (List.range' 1 (sNr s)).any fun o => (G o).2.1 == 1 && (sR s o).1 == (sR s r).1 with
  | true =>
    rw [cif_pos (sb.mpr ea), if_pos (by omega)] at wE
    simp only [Bool.true_eq_false, true_implies, not_true_eq_false, not_false_eq_true, false_implies, and_true, true_and]
    have := K I frW_rf hl (fun w => by omega)
    rw [wE] at this
    exact this
  | false =>
  have nS : ¬ S0 (sNr s) (sR s) G (sR s r).1 := fun w => by rw [sb.mp w] at ea; cases ea
  rw [cif_neg nS] at wE
  simp only [true_implies, not_true_eq_false, not_false_eq_true, false_implies, and_true, true_and]
  -- by the levels
  have lev : ∀ (Ix : mm_I), frW I Ix → lv2 Ix s G → wyS s G r = cif (rt_lv (sNp s) (S0 (sNr s) (sR s) G) 2 (sR s r).1) 5 0 → mm_at z (mm_call z (d + 8)) (mm_code 170) Q 62 [some (.ref 127), some (.int (nI r))] [] Ix J := by
    intro Ix k1 k2 k3
    simp only [bk_170.2.2.2.2.1, mmE, mmE0, mmH, mT, mR, mRf, mAl, mAs, mAz, mAn, Int.reduceToNat, Int32.reduceOfInt, Int64.reduceOfInt, Int.reduceAdd, swE, Nat.reduceDiv, Nat.reduceMod, Nat.reduceAdd, Nat.reduceMul, Nat.reduceEqDiff, Nat.reduceLeDiff, Nat.zero_le, List.length_nil, List.length_cons, Nat.zero_add, true_or, or_true, false_or, or_false, true_and, and_true, and_self, mb_01, mb_t, mb_f]
    refine w_levelOf hv (shM_W h k1) (gMs_W hG k1) h1 h2 k2 (fun I1 m1 m2 m3 => ?_)
    have hlv := @rt_lvl_le (sNp s) (S0 (sNr s) (sR s) G) (sR s r).1 2 (by omega)
    have hl0 := @rt_lvl_le (sNp s) (S0 (sNr s) (sR s) G) (sR s r).1 0 (by omega)
    have n0 : ¬ rt_lvl (sNp s) (S0 (sNr s) (sR s) G) (sR s r).1 ≤ 0 := fun w => nS (hl0.mp w)
    have fin := K I1 (frW_tr k1 m1) (fun _ => m3) (fun _ => m3)
    have eN : lvN (sNp s) (S0 (sNr s) (sR s) G) 2 (sR s r).1 = if rt_lvl (sNp s) (S0 (sNr s) (sR s) G) (sR s r).1 ≤ 2 then rt_lvl (sNp s) (S0 (sNr s) (sR s) G) (sR s r).1 else 6 := rfl
    by_cases q : rt_lv (sNp s) (S0 (sNr s) (sR s) G) 2 (sR s r).1
    · have q' := hlv.mpr q
      rw [cif_pos q] at k3
      rw [k3] at fin
      rw [if_pos q'] at eN
      have c1 : (nI (lvN (sNp s) (S0 (sNr s) (sR s) G) 2 (sR s r).1) ≤ 0) = False := by
        rw [show (0 : Int32) = nI 0 from rfl, le_nI (by omega) (by omega)]
        exact eq_false (by omega)
      rw [if_pos (show lvN (sNp s) (S0 (sNr s) (sR s) G) 2 (sR s r).1 < 6 by omega)]
      simp only [bk_170.2.2.2.2.2.1, bk_170.2.2.2.2.2.2, mmE, mmE0, mmH, mT, mR, mRf, mAl, mAs, mAz, mAn, Int.reduceToNat, Int32.reduceOfInt, Int64.reduceOfInt, Int.reduceAdd, swE, Nat.reduceDiv, Nat.reduceMod, Nat.reduceAdd, Nat.reduceMul, Nat.reduceEqDiff, Nat.reduceLeDiff, Nat.zero_le, List.length_nil, List.length_cons, Nat.zero_add, true_or, or_true, false_or, or_false, true_and, and_true, and_self, mb_01, mb_t, mb_f, Option.toList_some, Option.toList_none, List.cons_append, List.nil_append, c1, true_implies, not_true_eq_false, not_false_eq_true, false_implies, and_true, true_and]
      exact fin
    · have q' : ¬ rt_lvl (sNp s) (S0 (sNr s) (sR s) G) (sR s r).1 ≤ 2 := fun w => q (hlv.mp w)
      rw [cif_neg q] at k3
      rw [k3] at fin
      rw [if_neg q'] at eN
      have c1 : ((-1 : Int32) ≤ 0) = True := by decide
      rw [if_neg (show ¬ lvN (sNp s) (S0 (sNr s) (sR s) G) 2 (sR s r).1 < 6 by omega)]
      simp only [bk_170.2.2.2.2.2.1, bk_170.2.2.2.2.2.2, mmE, mmE0, mmH, mT, mR, mRf, mAl, mAs, mAz, mAn, Int.reduceToNat, Int32.reduceOfInt, Int64.reduceOfInt, Int.reduceAdd, swE, Nat.reduceDiv, Nat.reduceMod, Nat.reduceAdd, Nat.reduceMul, Nat.reduceEqDiff, Nat.reduceLeDiff, Nat.zero_le, List.length_nil, List.length_cons, Nat.zero_add, true_or, or_true, false_or, or_false, true_and, and_true, and_self, mb_01, mb_t, mb_f, Option.toList_some, Option.toList_none, List.cons_append, List.nil_append, c1, true_implies, not_true_eq_false, not_false_eq_true, false_implies, and_true, true_and]
      exact fin
  -- by the rule
  have by3 : (wyS s G r = if (sR s r).2.1 = 3 ∧ (fl (sNp s) (sR s r).2.2.1.toNatClampNeg (sR s r).1 (fun g => (rgt (sNr s) (sR s) G (osS s r)).contains g)).isSome = true then 4 else cif (rt_lv (sNp s) (S0 (sNr s) (sR s) G) 2 (sR s r).1) 5 0) → mm_at z (mm_call z (d + 8)) (mm_code 170) Q 42 [some (.ref 127), some (.int (nI r))] [] I J := by
    intro wE
    simp only [bk_170.2.2.2.1, mmE, mmE0, mmH, mT, mR, mRf, mAl, mAs, mAz, mAn, Int.reduceToNat, Int32.reduceOfInt, Int64.reduceOfInt, Int.reduceAdd, swE, Nat.reduceDiv, Nat.reduceMod, Nat.reduceAdd, Nat.reduceMul, Nat.reduceEqDiff, Nat.reduceLeDiff, Nat.zero_le, List.length_nil, List.length_cons, Nat.zero_add, true_or, or_true, false_or, or_false, true_and, and_true, and_self, mb_01, mb_t, mb_f, ix41 (show r < 41 by omega), r4, e3, true_implies, not_true_eq_false, not_false_eq_true, false_implies, and_true, true_and]
    by_cases q3 : (sR s r).2.1 = 3
    · obtain ⟨m, hm, er⟩ := vr3 q3
      have em : (sR s r).2.2.1.toNatClampNeg = m := by rw [er, nI_clamp (by omega)]
      rw [em] at wE
      simp only [eq_true q3, true_implies, not_true_eq_false, not_false_eq_true, false_implies, and_true, true_and]
      refine w_isBy h1 h2 hm er hv h hG (fun I1 k1 k2 => ?_)
      have l1 : lv2 I1 s G := fun w => by rw [k2] at w; exact absurd w (by decide)
      simp only [mmE, mmE0, mmH, mT, mR, mRf, mAl, mAs, mAz, mAn, Int.reduceToNat, Int32.reduceOfInt, Int64.reduceOfInt, Int.reduceAdd, swE, Nat.reduceDiv, Nat.reduceMod, Nat.reduceAdd, Nat.reduceMul, Nat.reduceEqDiff, Nat.reduceLeDiff, Nat.zero_le, List.length_nil, List.length_cons, Nat.zero_add, true_or, or_true, false_or, or_false, true_and, and_true, and_self, mb_01, mb_t, mb_f, Option.toList_some, Option.toList_none, List.cons_append, List.nil_append, mb_0]
      cases ef : (fl (sNp s) m (sR s r).1 fun g => (rgt (sNr s) (sR s) G (osS s r)).contains g).isSome with
      | true =>
        rw [ef, if_pos ⟨q3, rfl⟩] at wE
        simp only [Bool.true_eq_false, true_implies, not_true_eq_false, not_false_eq_true, false_implies, and_true, true_and]
        have := K I1 k1 l1 (fun w => by omega)
        rw [wE] at this
        exact this
      | false =>
        rw [ef, if_neg (fun w => by cases w.2)] at wE
        simp only [true_implies, not_true_eq_false, not_false_eq_true, false_implies, and_true, true_and]
        exact lev I1 k1 l1 wE
    · rw [if_neg (fun w => q3 w.1)] at wE
      simp only [q3, true_implies, not_true_eq_false, not_false_eq_true, false_implies, and_true, true_and]
      exact lev I frW_rf hl wE
  by_cases q2 : (sR s r).2.1 = 2
  · simp only [eq_true q2, true_implies, not_true_eq_false, not_false_eq_true, false_implies, and_true, true_and]
    by_cases qs : kd (sR s r).1 = 6 ∧ ((List.range' 0 (sNf s)).any (gfS s)) = true ∧ agS s (sR s r).1 = none
    · rw [show (if (sR s r).2.1 = 2 ∧ kd (sR s r).1 = 6 ∧ ((List.range' 0 (sNf s)).any (gfS s)) = true ∧ agS s (sR s r).1 = none then 3 else 0) = 3 from if_pos ⟨q2, qs⟩, if_pos (show 3 ≠ 0 by omega)] at wE
      rw [decide_eq_true qs]
      simp only [Bool.true_eq_false, true_implies, not_true_eq_false, not_false_eq_true, false_implies, and_true, true_and]
      have := K I frW_rf hl (fun w => by omega)
      rw [wE] at this
      exact this
    · rw [show (if (sR s r).2.1 = 2 ∧ kd (sR s r).1 = 6 ∧ ((List.range' 0 (sNf s)).any (gfS s)) = true ∧ agS s (sR s r).1 = none then 3 else 0) = 0 from if_neg (fun w => qs w.2), if_neg (show ¬ (0 ≠ 0) by omega)] at wE
      rw [decide_eq_false qs]
      simp only [true_implies, not_true_eq_false, not_false_eq_true, false_implies, and_true, true_and]
      exact by3 wE
  · rw [show (if (sR s r).2.1 = 2 ∧ kd (sR s r).1 = 6 ∧ ((List.range' 0 (sNf s)).any (gfS s)) = true ∧ agS s (sR s r).1 = none then 3 else 0) = 0 from if_neg (fun w => q2 w.1), if_neg (show ¬ (0 ≠ 0) by omega)] at wE
    simp only [q2, true_implies, not_true_eq_false, not_false_eq_true, false_implies, and_true, true_and]
    exact by3 wE
end MB
