/-! levels and hints: the reference -/
theorem nd_cnt {A B : List Nat} (hA : A.Nodup) (hB : B.Nodup) (h : ∀ x, x ∈ A ↔ x ∈ B) : A.length = B.length := Nat.le_antisymm (nd_le hA (fun x hx => (h x).mp hx)) (nd_le hB (fun x hx => (h x).mpr hx))
theorem nd_map {f : Nat → Nat} : ∀ {l : List Nat}, l.Nodup → (∀ x ∈ l, ∀ y ∈ l, f x = f y → x = y) → (l.map f).Nodup
  | [], _, _ => List.nodup_nil
  | a :: l, h, hi => by
    rw [List.nodup_cons] at h
    rw [List.map_cons, List.nodup_cons]
    refine ⟨fun w => ?_, nd_map h.2 (fun x hx y hy => hi x (List.mem_cons_of_mem _ hx) y (List.mem_cons_of_mem _ hy))⟩
    obtain ⟨b, hb, e⟩ := List.mem_map.mp w
    have := hi b (List.mem_cons_of_mem _ hb) a List.mem_cons_self e
    rw [this] at hb
    exact h.1 hb
/-- as many slots as facts of a level -/
theorem cnt_sl {V : Nat → Nat} {m : Nat} (hm : m < 6) (h : ∀ f, isF f = false → V f = 6) : (List.range' 0 4400).countP (fun t => lvs V t == m) = cntL V m := by
  unfold cntL
  rw [List.countP_eq_length_filter, List.countP_eq_length_filter]
  have hin : ∀ f, f ∈ (List.range' 0 1180).filter (fun f => V f == m) → isF f = true ∧ V f = m := by
    intro f hf
    rw [List.mem_filter, beq_iff_eq] at hf
    refine ⟨?_, hf.2⟩
    cases e : isF f with
    | true => rfl
    | false => have := h f e; omega
  rw [← List.length_map (as := (List.range' 0 1180).filter fun f => V f == m) sl]
  refine nd_cnt (List.Pairwise.filter _ (List.nodup_range' (step := 1) (by omega))) (nd_map (List.Pairwise.filter _ (List.nodup_range' (step := 1) (by omega))) (fun x hx y hy e => (sl_inj (hin x hx).1 (hin y hy).1).mp e)) (fun t => ?_)
  rw [List.mem_filter, List.mem_map, List.mem_range'_1, beq_iff_eq]
  constructor
  · rintro ⟨t1, t2⟩
    unfold lvs at t2
    by_cases q : isF (un t) = true ∧ sl (un t) = t
    · rw [if_pos q] at t2
      refine ⟨un t, ?_, q.2⟩
      rw [List.mem_filter, List.mem_range'_1, beq_iff_eq]
      exact ⟨⟨by omega, by have := isF_lt q.1; omega⟩, t2⟩
    · rw [if_neg q] at t2
      omega
  · rintro ⟨f, f1, rfl⟩
    obtain ⟨f2, f3⟩ := hin f f1
    have := (un_sl f2).2
    exact ⟨⟨by omega, by omega⟩, by rw [lvs_sl f2]; exact f3⟩
theorem lvF_no {s : st_T} {f : Nat} (hv : va s) (h : isF f = false) : lvF s f = 6 := by
  by_cases q : lvF s f ≤ 5
  · have := isP_F hv.1.1 (lvF_P hv q)
    rw [h] at this
    cases this
  · have : lvF s f ≤ 6 := rt_lvl_6
    omega
section MH
variable {z : mm_S} {d : Nat} {J : mm_J} {s : st_T} {Q : Option Value → mm_I → mm_J → Prop}
theorem gMs_of {I : mm_I} (hv : inv s) (h : repM I J s) (hg : sGd s = true) : gMs I (sNr s) (sG s) := by
  intro r a b
  obtain ⟨x1, x2, x3, x4, x5⟩ := (hv.2 hg).1.1 r a b
  exact ⟨(h.2.2.2.2.2.2.2.1 hg).1 r a b, x1, x2, fun q => by rw [x5 q]; rfl⟩
theorem w_lva {I : mm_I} (hv : inv s) (h : repM I J s) (hg : sGd s = true) (K : ∀ I', repM I' J s → frM I J I' J → rm_lv I' (lvF s) → Q none I' J) : mm_call z (d + 8) 196 [.ref 127] I J Q := by
  obtain ⟨h1, ⟨h2, h3⟩, h4⟩ := h.2.2.2.2.2.2.2.1 hg
  refine w_levelAll (G := sG s) hv.1 (shM_of h) (gMs_of hv h hg) (fun q => h4 q) (fun I1 f1 l1 r1 => ?_)
  have f2 : fN I I1 := fN_M (r := 0) (fM_W f1)
  refine K I1 (repM_N h f2 rfl rfl rfl rfl rfl rfl rfl rfl rfl rfl (by rw [f1.2 _ (by decide)]; exact h.2.2.2.2.2.2.1) (fun _ => ⟨fun r r1 r2 => ?_, ⟨?_, fun i hi => ?_⟩, fun _ => r1⟩)) (frM_N f2) r1
  · unfold gM
    rw [f1.1 _ (by decide) (by decide) (by decide), f1.1 _ (by decide) (by decide) (by decide), f1.1 _ (by decide) (by decide) (by decide), f1.1 _ (by decide) (by decide) (by decide), f1.1 _ (by decide) (by decide) (by decide)]
    exact h1 r r1 r2
  · rw [f1.2 _ (by decide)]; exact h2
  · rw [f1.1 _ (by decide) (by decide) (by decide)]; exact h3 i hi
theorem lvm_at {I : mm_I} {V : Nat → Nat} {f : Nat} (hF : isF f = true) (h : rm_lv I V) : I 137 (sl f) = if V f < 6 then nI (V f) else -1 := by
  rw [h _ (un_sl hF).2, lvs_sl hF]
theorem pM_level {I : mm_I} {k a b c e : Int32} (hv : inv s) (h : repM I J s) : mm_call z (d + 9) 200 [.ref 127, .int k, .int a, .int b, .int c, .int e] I J (okM I J (o_level s k a b c e)) := by
  obtain ⟨⟨a1, a2, a3, a4⟩, _, _, _, _, _, hg, _⟩ := id h
  have v1 := hv.1.1.1
  unfold o_level
  simp only [ce_200, bk_200.1, mmE, mmE0, mmH, mT, mR, mRf, mAl, mAs, mAz, mAn, Int.reduceToNat, Int32.reduceOfInt, Int64.reduceOfInt, Int.reduceAdd, swE, Nat.reduceDiv, Nat.reduceMod, Nat.reduceAdd, Nat.reduceMul, Nat.reduceEqDiff, Nat.reduceLeDiff, Nat.zero_le, List.length_nil, List.length_cons, Nat.zero_add, true_or, or_true, false_or, or_false, true_and, and_true, and_self, mb_01, mb_t, mb_f, Option.toList_some, Option.toList_none, List.cons_append, List.nil_append, c_slot v1 a1, slot_fact v1]
  cases en : n_fact (sNp s) k a b c e with
  | none =>
    have m1 : (0 ≤ eI (Option.map sl (none : Option Nat))) = False := by decide
    simp only [m1, true_implies, not_true_eq_false, not_false_eq_true, false_implies, and_true, true_and]
    exact ⟨rfl, h, frM_rf⟩
  | some g =>
    have gF := isP_F v1 (n_fact_P v1 en)
    have sg := (un_sl gF).2
    have eM : eI (Option.map sl (some g)) = nI (sl g) := rfl
    have m1 : (0 ≤ nI (sl g)) = True := by
      rw [show (0 : Int32) = nI 0 from rfl, le_nI (by omega) (by omega)]
      exact eq_true (by omega)
    simp only [eM, m1, true_implies, not_true_eq_false, not_false_eq_true, false_implies, and_true, true_and, bk_200.2.1, mmE, mmE0, mmH, mT, mR, mRf, mAl, mAs, mAz, mAn, Int.reduceToNat, Int32.reduceOfInt, Int64.reduceOfInt, Int.reduceAdd, swE, Nat.reduceDiv, Nat.reduceMod, Nat.reduceAdd, Nat.reduceMul, Nat.reduceEqDiff, Nat.reduceLeDiff, Nat.zero_le, List.length_nil, List.length_cons, Nat.zero_add, true_or, or_true, false_or, or_false, true_and, and_true, and_self, mb_01, mb_t, mb_f, hg, mb0]
    cases eg : sGd s with
    | false =>
      simp only [true_implies, not_true_eq_false, not_false_eq_true, false_implies, and_true, true_and, Bool.false_eq_true, if_false]
      exact ⟨rfl, h, frM_rf⟩
    | true =>
      simp only [true_implies, not_true_eq_false, not_false_eq_true, false_implies, and_true, true_and, Bool.true_eq_false, if_true, bk_200.2.2.1, mmE, mmE0, mmH, mT, mR, mRf, mAl, mAs, mAz, mAn, Int.reduceToNat, Int32.reduceOfInt, Int64.reduceOfInt, Int.reduceAdd, swE, Nat.reduceDiv, Nat.reduceMod, Nat.reduceAdd, Nat.reduceMul, Nat.reduceEqDiff, Nat.reduceLeDiff, Nat.zero_le, List.length_nil, List.length_cons, Nat.zero_add, true_or, or_true, false_or, or_false, true_and, and_true, and_self, mb_01, mb_t, mb_f]
      refine w_lva hv h eg (fun I1 k1 k2 k3 => ?_)
      have el := lvm_at gF k3
      simp only [bk_200.2.2.2.1, bk_200.2.2.2.2, mmE, mmE0, mmH, mT, mR, mRf, mAl, mAs, mAz, mAn, Int.reduceToNat, Int32.reduceOfInt, Int64.reduceOfInt, Int.reduceAdd, swE, Nat.reduceDiv, Nat.reduceMod, Nat.reduceAdd, Nat.reduceMul, Nat.reduceEqDiff, Nat.reduceLeDiff, Nat.zero_le, List.length_nil, List.length_cons, Nat.zero_add, true_or, or_true, false_or, or_false, true_and, and_true, and_self, mb_01, mb_t, mb_f, Option.toList_some, Option.toList_none, List.cons_append, List.nil_append, ix4400 sg, el]
      have l6 : lvF s g ≤ 6 := rt_lvl_6
      unfold lvI
      by_cases q : lvF s g ≤ 5
      · have c1 : (0 ≤ nI (lvF s g)) = True := by
          rw [show (0 : Int32) = nI 0 from rfl, le_nI (by omega) (by omega)]
          exact eq_true (by omega)
        rw [if_pos (show lvF s g < 6 by omega), if_pos q]
        simp only [c1, true_implies, not_true_eq_false, not_false_eq_true, false_implies, and_true, true_and]
        exact ⟨rfl, k1, k2⟩
      · have c1 : (0 ≤ (-1 : Int32)) = False := by decide
        rw [if_neg (show ¬ lvF s g < 6 by omega), if_neg q]
        simp only [c1, true_implies, not_true_eq_false, not_false_eq_true, false_implies, and_true, true_and]
        exact ⟨rfl, k1, k2⟩
theorem w_rc_loop {I : mm_I} {V : Nat → Nat} {m : Nat} (hm : m < 6) (hV : rm_lv I V) (h6 : ∀ t, lvs V t ≤ 6) : ∀ (w i a : Nat), i + w = 4400 → Q (some (.int (nI (a + (List.range' i w).countP fun t => lvs V t == m)))) I J → mm_at z (mm_call z d) (mm_code 201) Q 33 [some (.ref 127), some (.int (nI m)), some (.int (nI a)), some (.int (nI i))] [] I J
  | 0, i, a, hi, k => by
    have ei : i = 4400 := by omega
    subst ei
    rw [hk_201_33]
    have c1 : (4400 ≤ nI 4400) = True := by decide
    simp only [bk_201.2.2.2.2.2, mmE, mmE0, mmH, mT, mR, mRf, mAl, mAs, mAz, mAn, Int.reduceToNat, Int32.reduceOfInt, Int64.reduceOfInt, Int.reduceAdd, swE, Nat.reduceDiv, Nat.reduceMod, Nat.reduceAdd, Nat.reduceMul, Nat.reduceEqDiff, Nat.reduceLeDiff, Nat.zero_le, List.length_nil, List.length_cons, Nat.zero_add, true_or, or_true, false_or, or_false, true_and, and_true, and_self, mb_01, mb_t, mb_f, c1, true_implies, not_true_eq_false, not_false_eq_true, false_implies, and_true, true_and]
    exact k
  | w + 1, i, a, hi, k => by
    rw [hk_201_33]
    have l1 := hV i (by omega)
    have l6 := h6 i
    have c1 : (4400 ≤ nI i) = False := by rw [show (4400 : Int32) = nI 4400 from rfl, le_nI (by omega) (by omega)]; exact eq_false (by omega)
    have e1 : ((if lvs V i < 6 then nI (lvs V i) else -1) = nI m) = (lvs V i = m) := by
      by_cases q : lvs V i < 6
      · rw [if_pos q]; exact eq_nI (by omega) (by omega)
      · rw [if_neg q]
        exact propext ⟨fun w => absurd w.symm (nI_m1' (by omega)), fun w => by omega⟩
    have p0 : nI a + 0 = nI a := Int32.add_zero _
    have p1 : nI a + 1 = nI (a + 1) := (nI_succ a).symm
    have p2 : nI i + 1 = nI (i + 1) := (nI_succ i).symm
    rw [List.range'_succ, List.countP_cons] at k
    have ih := fun a => w_rc_loop hm hV h6 w (i + 1) a (by omega)
    simp only [bk_201.2.2.2.1, bk_201.2.2.2.2.1, mmE, mmE0, mmH, mT, mR, mRf, mAl, mAs, mAz, mAn, Int.reduceToNat, Int32.reduceOfInt, Int64.reduceOfInt, Int.reduceAdd, swE, Nat.reduceDiv, Nat.reduceMod, Nat.reduceAdd, Nat.reduceMul, Nat.reduceEqDiff, Nat.reduceLeDiff, Nat.zero_le, List.length_nil, List.length_cons, Nat.zero_add, true_or, or_true, false_or, or_false, true_and, and_true, and_self, mb_01, mb_t, mb_f, c1, ix4400 (show i < 4400 by omega), l1, e1, p0, p1, p2, true_implies, not_true_eq_false, not_false_eq_true, false_implies, and_true, true_and]
    by_cases q : lvs V i = m
    · rw [if_pos (beq_iff_eq.mpr q)] at k
      simp only [eq_true q, true_implies, not_true_eq_false, not_false_eq_true, false_implies, and_true, true_and]
      refine ih (a + 1) ?_
      rw [Nat.add_assoc, Nat.add_comm 1]
      exact k
    · rw [if_neg (fun w => q (beq_iff_eq.mp w)), Nat.add_zero] at k
      simp only [q, true_implies, not_true_eq_false, not_false_eq_true, false_implies, and_true, true_and]
      exact ih a k
theorem in06 {x : Int32} : (decide ((0 : Int64) ≤ x.toInt64) && decide (x.toInt64 ≤ Int64.ofInt 5)) = inN 6 x := by
  rw [← in_np (show 6 ≤ 10000 by omega)]
  rfl
theorem pM_reached {I : mm_I} {x : Int32} (hv : inv s) (h : repM I J s) : mm_call z (d + 9) 201 [.ref 127, .int x] I J (okM I J (o_reached s x)) := by
  have hg := h.2.2.2.2.2.2.1
  have hk : ∀ v, okM I J (v, s) (some (.int v)) I J := fun v => ⟨rfl, h, frM_rf⟩
  unfold o_reached
  have e0 : (Int64.ofInt 0 : Int64) = 0 ∧ (Int64.ofInt 5 : Int64) = (nI 6 - 1).toInt64 := by decide
  simp only [ce_201, bk_201.1, bk_201.2.1, mmE, mmE0, mmH, mT, mR, mRf, mAl, mAs, mAz, mAn, Int.reduceToNat, Int32.reduceOfInt, Int64.reduceOfInt, Int.reduceAdd, swE, Nat.reduceDiv, Nat.reduceMod, Nat.reduceAdd, Nat.reduceMul, Nat.reduceEqDiff, Nat.reduceLeDiff, Nat.zero_le, List.length_nil, List.length_cons, Nat.zero_add, true_or, or_true, false_or, or_false, true_and, and_true, and_self, mb_01, mb_t, mb_f, Option.toList_some, Option.toList_none, List.cons_append, List.nil_append, c_in, e0, in_np (show 6 ≤ 10000 by omega), mb_0, hg]
  cases ei : inN 6 x with
  | false =>
    simp only [true_implies, not_true_eq_false, not_false_eq_true, false_implies, and_true, true_and, Bool.false_eq_true, if_false]
    exact hk _
  | true =>
    cases eg : sGd s with
    | false =>
      simp only [true_implies, not_true_eq_false, not_false_eq_true, false_implies, and_true, true_and, Bool.false_eq_true, Bool.true_eq_false, if_true, if_false]
      exact hk _
    | true =>
      obtain ⟨m, hm, rfl⟩ := inN_t ei
      simp only [true_implies, not_true_eq_false, not_false_eq_true, false_implies, and_true, true_and, Bool.true_eq_false, if_true, bk_201.2.2.1, mmE, mmE0, mmH, mT, mR, mRf, mAl, mAs, mAz, mAn, Int.reduceToNat, Int32.reduceOfInt, Int64.reduceOfInt, Int.reduceAdd, swE, Nat.reduceDiv, Nat.reduceMod, Nat.reduceAdd, Nat.reduceMul, Nat.reduceEqDiff, Nat.reduceLeDiff, Nat.zero_le, List.length_nil, List.length_cons, Nat.zero_add, true_or, or_true, false_or, or_false, true_and, and_true, and_self, mb_01, mb_t, mb_f]
      refine w_lva hv h eg (fun I1 k1 k2 k3 => ?_)
      simp only [mmE, mmE0, mmH, mT, mR, mRf, mAl, mAs, mAz, mAn, Int.reduceToNat, Int32.reduceOfInt, Int64.reduceOfInt, Int.reduceAdd, swE, Nat.reduceDiv, Nat.reduceMod, Nat.reduceAdd, Nat.reduceMul, Nat.reduceEqDiff, Nat.reduceLeDiff, Nat.zero_le, List.length_nil, List.length_cons, Nat.zero_add, true_or, or_true, false_or, or_false, true_and, and_true, and_self, mb_01, mb_t, mb_f, Option.toList_some, Option.toList_none, List.cons_append, List.nil_append]
      have h6 : ∀ t, lvs (lvF s) t ≤ 6 := by
        intro t
        unfold lvs
        split
        · exact rt_lvl_6
        · omega
      refine w_rc_loop (z := z) (d := d + 8) hm k3 h6 4400 0 0 (by omega) ⟨?_, k1, k2⟩
      rw [Nat.zero_add, cnt_sl hm (fun f hf => lvF_no hv.1 hf), nI_clamp (show m < 2 ^ 31 by omega)]
end MH
