/-! the reference's search: what follows by a rule -/
def kV (V : Nat → Nat) (bl g : Nat) : Bool := decide (V g < bl)
theorem lvs_sl {V : Nat → Nat} {g : Nat} (hg : isF g = true) : lvs V (sl g) = V g := by
  unfold lvs
  rw [(un_sl hg).1, if_pos ⟨hg, rfl⟩]
theorem ix4400 {x : Nat} (h : x < 4400) : vp_in (nI x) 4400 = True ∧ (nI x).toNatClampNeg = x := ⟨eq_true (vp_in_nI h (by decide)), nI_clamp (by omega)⟩
/-- the last of the premises -/
theorem rul_tl {m : Nat} (hm : m < 17) : ((rul m).1.tail = [] ∧ Int32.ofInt (mt2.getD m 0) = -1 ∧ m ≠ 12) ∨ (∃ t, (rul m).1.tail = [t] ∧ Int32.ofInt (mt2.getD m 0) = nI (cdt t) ∧ m ≠ 12) ∨ (∃ t, (rul m).1.tail = [t, (3, 0, 3, 0, 4)] ∧ Int32.ofInt (mt2.getD m 0) = nI (cdt t) ∧ m = 12) := by
  obtain ⟨⟨c1, c2⟩, c3, c4⟩ := tm_1c m hm
  have b := tm_1b m hm
  match hh : (rul m).1, c1, c2 with
  | [a], _, _ =>
    rw [hh] at b c3
    have n12 : m ≠ 12 := fun q => by
      have := c3.mpr q
      cases this
    rw [if_neg (by simp)] at b
    exact Or.inl ⟨rfl, b, n12⟩
  | [a, t], _, _ =>
    rw [hh] at b c3
    have n12 : m ≠ 12 := fun q => by
      have := c3.mpr q
      cases this
    rw [if_pos (by simp)] at b
    exact Or.inr (Or.inl ⟨t, rfl, b, n12⟩)
  | [a, t, u], _, _ =>
    rw [hh] at b c3 c4
    have e12 : m = 12 := c3.mp rfl
    rw [if_pos (by simp)] at b
    have e : u = (3, 0, 3, 0, 4) := eq_of_beq (c4 e12)
    subst e
    exact Or.inr (Or.inr ⟨t, rfl, b, e12⟩)
theorem rul_hd {m : Nat} (hm : m < 17) : (rul m).1 = (rul m).1.getD 0 z0 :: (rul m).1.tail := by
  have c1 := (tm_1c m hm).1.1
  match hh : (rul m).1, c1 with
  | a :: r, _ => rfl
theorem rul_k7 {m : Nat} {t : rt_T} (hm : m < 17) (ht : t ∈ (rul m).1) : t.1 < 7 := of_decide_eq_true (List.all_eq_true.mp (tm_1e m hm) t ht)
section MO
variable {z : mm_S} {d : Nat} {I : mm_I} {J : mm_J} {np : Nat} {V : Nat → Nat} {Q : Option Value → mm_I → mm_J → Prop}
theorem c_isHad {t : rt_T} {l : List Nat} {n bl : Nat} (hn7 : np ≤ 7) (hb : bl ≤ 6) (hk : t.1 < 7) (hw : pw t < n) (hw6 : pw t < 6) (hl : ∀ j, j < n → ls_f l j < np) (hA : mlt I l n) (hp : I 127 0 = nI np) (hV : rm_lv I V) (Q : Option Value → mm_I → mm_J → Prop) : mm_call z (d + 4) 178 [.ref 127, .int (nI (cdt t)), .int (nI bl)] I J Q = Q (some (.int (mb (gkn (kV V bl) (rt_f (ls_f l) t))))) I J := by
  refine mm_ev ?_ Q
  simp only [ce_178, bk_178.1, bk_178.2.1, bk_178.2.2, mmE, mmE0, mmH, mT, mR, mRf, mAl, mAs, mAz, mAn, Int.reduceToNat, Int32.reduceOfInt, Int64.reduceOfInt, Int.reduceAdd, swE, Nat.reduceDiv, Nat.reduceMod, Nat.reduceAdd, Nat.reduceMul, Nat.reduceEqDiff, Nat.reduceLeDiff, Nat.zero_le, List.length_nil, List.length_cons, Nat.zero_add, true_or, or_true, false_or, or_false, true_and, and_true, and_self, mb_01, mb_t, mb_f, Option.toList_some, Option.toList_none, List.cons_append, List.nil_append, c_slotBy hn7 hk hw hw6 hl hA hp, z01]
  cases e : rt_f (ls_f l) t with
  | none =>
    have m1 : (eI (Option.map sl (none : Option Nat)) < 0) = True := by decide
    simp only [m1, true_implies, not_true_eq_false, not_false_eq_true, false_implies, and_true, true_and]
    rfl
  | some g =>
    have h1 : t.2.1 ≤ pw t := pc_le (t := t) (i := 1) (by omega) (by omega)
    have h2 : t.2.2.1 ≤ pw t := pc_le (t := t) (i := 2) (by omega) (by omega)
    have h3 : t.2.2.2.1 ≤ pw t := pc_le (t := t) (i := 3) (by omega) (by omega)
    have h4 : t.2.2.2.2 ≤ pw t := pc_le (t := t) (i := 4) (by omega) (by omega)
    have l1 := hl t.2.1 (by omega)
    have l2 := hl t.2.2.1 (by omega)
    have l3 := hl t.2.2.2.1 (by omega)
    have l4 := hl t.2.2.2.2 (by omega)
    have gF := (nn_kd hk (show ls_f l t.2.1 < 7 by omega) (show ls_f l t.2.2.1 < 7 by omega) (show ls_f l t.2.2.2.1 < 7 by omega) (show ls_f l t.2.2.2.2 < 7 by omega) e).2
    have sg := (un_sl gF).2
    have hv := hV (sl g) sg
    rw [lvs_sl gF] at hv
    rw [show eI (Option.map sl (some g)) = nI (sl g) from rfl]
    simp only [nneg (show sl g < 2 ^ 31 by omega), ix4400 sg, hv, true_implies, not_true_eq_false, not_false_eq_true, false_implies, and_true, true_and]
    rw [show gkn (kV V bl) (some g) = decide (V g < bl) from rfl]
    by_cases q : V g < 6
    · rw [if_pos q]
      have c2 : (nI bl ≤ nI (V g)) = (bl ≤ V g) := le_nI (by omega) (by omega)
      simp only [nneg (show V g < 2 ^ 31 by omega), c2, true_implies, not_true_eq_false, not_false_eq_true, false_implies, and_true, true_and]
      by_cases q2 : bl ≤ V g
      · rw [decide_eq_false (by omega)]
        simp only [eq_true q2, true_implies, not_true_eq_false, not_false_eq_true, false_implies, and_true, true_and, mb_f]
      · rw [decide_eq_true (by omega)]
        simp only [q2, true_implies, not_true_eq_false, not_false_eq_true, false_implies, and_true, true_and, mb_t]
    · rw [if_neg q, decide_eq_false (by omega)]
      have m1 : ((-1 : Int32) < 0) = True := by decide
      simp only [m1, true_implies, not_true_eq_false, not_false_eq_true, false_implies, and_true, true_and, mb_f]
theorem c_holdsAll {m bl : Nat} {l : List Nat} (hm : m < 17) (hn7 : np ≤ 7) (hb : bl ≤ 6) (hl : ∀ j, j < ltr m → ls_f l j < np) (hA : mlt I l (ltr m)) (hp : I 127 0 = nI np) (hV : rm_lv I V) (ht : mtab I) (Q : Option Value → mm_I → mm_J → Prop) : mm_call z (d + 5) 180 [.ref 127, .int (nI m), .int (nI bl)] I J Q = Q (some (.int (mb ((rul m).1.tail.all fun t => gkn (kV V bl) (rt_f (ls_f l) t))))) I J := by
  refine mm_ev ?_ Q
  obtain ⟨t1, t2, t3, t4, t5, k7, l6⟩ := tb_rul hm
  have hL : ltr m = pw (rul m).2 + 1 := rfl
  have ix17 : vp_in (nI m) 17 = True ∧ (nI m).toNatClampNeg = m := ⟨eq_true (vp_in_nI hm (by decide)), nI_clamp (by omega)⟩
  have p2 := (ht.1 m hm).2.2.2.1
  have m12 : (nI m = 12) = (m = 12) := eq_nI (b := 12) (by omega) (by omega)
  have had : ∀ t, t ∈ (rul m).1 → ∀ (z : mm_S) (d : Nat) (Q : Option Value → mm_I → mm_J → Prop), mm_call z (d + 4) 178 [.ref 127, .int (nI (cdt t)), .int (nI bl)] I J Q = Q (some (.int (mb (gkn (kV V bl) (rt_f (ls_f l) t))))) I J := fun t htm z d Q => c_isHad hn7 hb (rul_k7 hm htm) (by have := t5 t htm; omega) (by have := t5 t htm; omega) hl hA hp hV Q
  simp only [ce_180, bk_180.1, bk_180.2.1, bk_180.2.2.1, bk_180.2.2.2.1, bk_180.2.2.2.2, mmE, mmE0, mmH, mT, mR, mRf, mAl, mAs, mAz, mAn, Int.reduceToNat, Int32.reduceOfInt, Int64.reduceOfInt, Int.reduceAdd, swE, Nat.reduceDiv, Nat.reduceMod, Nat.reduceAdd, Nat.reduceMul, Nat.reduceEqDiff, Nat.reduceLeDiff, Nat.zero_le, List.length_nil, List.length_cons, Nat.zero_add, true_or, or_true, false_or, or_false, true_and, and_true, and_self, mb_01, mb_t, mb_f, Option.toList_some, Option.toList_none, List.cons_append, List.nil_append, ix17, p2, m12, z01]
  rcases rul_tl hm with ⟨e1, e2, e3⟩ | ⟨t, e1, e2, e3⟩ | ⟨t, e1, e2, e3⟩
  · have m1 : ((-1 : Int32) < 0) = True := by decide
    rw [e1]
    simp only [e2, m1, e3, true_implies, not_true_eq_false, not_false_eq_true, false_implies, and_true, true_and]
    rfl
  · have ht1 : t ∈ (rul m).1 := List.mem_of_mem_tail (by rw [e1]; exact List.mem_cons_self)
    have hd := had t ht1
    rw [e1]
    have c5 : cdt t < 2 ^ 31 := by
      have a := rul_k7 hm ht1
      have b := t5 t ht1
      have h1 : t.2.1 ≤ pw t := pc_le (t := t) (i := 1) (by omega) (by omega)
      have h2 : t.2.2.1 ≤ pw t := pc_le (t := t) (i := 2) (by omega) (by omega)
      have h3 : t.2.2.2.1 ≤ pw t := pc_le (t := t) (i := 3) (by omega) (by omega)
      have h4 : t.2.2.2.2 ≤ pw t := pc_le (t := t) (i := 4) (by omega) (by omega)
      unfold cdt
      omega
    simp only [e2, nneg c5, hd, mb_0, e3, mmE, mmE0, mmH, mT, mR, mRf, mAl, mAs, mAz, mAn, Int.reduceToNat, Int32.reduceOfInt, Int64.reduceOfInt, Int.reduceAdd, swE, Nat.reduceDiv, Nat.reduceMod, Nat.reduceAdd, Nat.reduceMul, Nat.reduceEqDiff, Nat.reduceLeDiff, Nat.zero_le, List.length_nil, List.length_cons, Nat.zero_add, true_or, or_true, false_or, or_false, true_and, and_true, and_self, mb_01, mb_t, mb_f, Option.toList_some, Option.toList_none, List.cons_append, List.nil_append, true_implies, not_true_eq_false, not_false_eq_true, false_implies, and_true, true_and, bk_180.2.1, bk_180.2.2.1, bk_180.2.2.2.1, bk_180.2.2.2.2, m12, z01, List.all_cons, List.all_nil, Bool.and_true]
    cases gkn (kV V bl) (rt_f (ls_f l) t) with
    | false => simp only [true_implies, not_true_eq_false, not_false_eq_true, false_implies, and_true, true_and, mb_f]
    | true => simp only [true_implies, not_true_eq_false, not_false_eq_true, false_implies, and_true, true_and, Bool.true_eq_false, mb_t]
  · have ht1 : t ∈ (rul m).1 := List.mem_of_mem_tail (by rw [e1]; exact List.mem_cons_self)
    have ht2 : ((3, 0, 3, 0, 4) : rt_T) ∈ (rul m).1 := List.mem_of_mem_tail (by rw [e1]; exact List.mem_cons_of_mem _ List.mem_cons_self)
    have hd := had t ht1
    have hd2 := had _ ht2
    rw [show nI (cdt (3, 0, 3, 0, 4)) = 30304 from rfl] at hd2
    rw [e1]
    have c5 : cdt t < 2 ^ 31 := by
      have a := rul_k7 hm ht1
      have b := t5 t ht1
      have h1 : t.2.1 ≤ pw t := pc_le (t := t) (i := 1) (by omega) (by omega)
      have h2 : t.2.2.1 ≤ pw t := pc_le (t := t) (i := 2) (by omega) (by omega)
      have h3 : t.2.2.2.1 ≤ pw t := pc_le (t := t) (i := 3) (by omega) (by omega)
      have h4 : t.2.2.2.2 ≤ pw t := pc_le (t := t) (i := 4) (by omega) (by omega)
      unfold cdt
      omega
    simp only [e2, nneg c5, hd, hd2, mb_0, eq_true e3, mmE, mmE0, mmH, mT, mR, mRf, mAl, mAs, mAz, mAn, Int.reduceToNat, Int32.reduceOfInt, Int64.reduceOfInt, Int.reduceAdd, swE, Nat.reduceDiv, Nat.reduceMod, Nat.reduceAdd, Nat.reduceMul, Nat.reduceEqDiff, Nat.reduceLeDiff, Nat.zero_le, List.length_nil, List.length_cons, Nat.zero_add, true_or, or_true, false_or, or_false, true_and, and_true, and_self, mb_01, mb_t, mb_f, Option.toList_some, Option.toList_none, List.cons_append, List.nil_append, true_implies, not_true_eq_false, not_false_eq_true, false_implies, and_true, true_and, bk_180.2.1, bk_180.2.2.1, bk_180.2.2.2.1, bk_180.2.2.2.2, m12, z01, List.all_cons, List.all_nil, Bool.and_true]
    cases gkn (kV V bl) (rt_f (ls_f l) t) with
    | false => simp only [true_implies, not_true_eq_false, not_false_eq_true, false_implies, and_true, true_and, Bool.false_and, mb_f]
    | true =>
      simp only [true_implies, not_true_eq_false, not_false_eq_true, false_implies, and_true, true_and, Bool.true_eq_false, Bool.true_and]
      cases gkn (kV V bl) (rt_f (ls_f l) (3, 0, 3, 0, 4)) with
      | false => simp only [true_implies, not_true_eq_false, not_false_eq_true, false_implies, and_true, true_and, mb_f]
      | true => simp only [true_implies, not_true_eq_false, not_false_eq_true, false_implies, and_true, true_and, Bool.true_eq_false, mb_t]
end MO
