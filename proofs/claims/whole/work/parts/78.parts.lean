/-! the search of the class: its tables -/
def prtL : List rt_T := (rt_rules.map fun q => q.1 ++ [q.2]).flatten
def prt (p : Nat) : rt_T := prtL.getD p (0, 0, 0, 0, 0)
def fp (m : Nat) : Nat := [0, 3, 6, 9, 11, 13, 15, 18, 21, 23, 26, 29, 32, 36, 39, 42, 45, 48].getD m 0
def pc (t : rt_T) (i : Nat) : Nat := if i = 0 then t.1 else if i = 1 then t.2.1 else if i = 2 then t.2.2.1 else if i = 3 then t.2.2.2.1 else if i = 4 then t.2.2.2.2 else pw t
set_option maxRecDepth 100000 in
theorem tb_part : ∀ p, p < 48 → ∀ i, i < 6 → mm_ro 1003 (6 * p + i) = nI (pc (prt p) i) := by decide +kernel
set_option maxRecDepth 100000 in
theorem tb_first : ∀ m, m < 18 → mm_ro 1004 m = nI (fp m) := by decide +kernel
set_option maxRecDepth 100000 in
theorem tb_prt : ∀ p, p < 48 → (prt p).1 < 7 ∧ pw (prt p) < 6 := by decide +kernel
set_option maxRecDepth 100000 in
theorem tb_r1 : ∀ m, m < 17 → ((List.range' (fp m) (fp (m + 1) - 1 - fp m)).map prt == (rul m).1) = true := by decide +kernel
set_option maxRecDepth 100000 in
theorem tb_r2 : ∀ m, m < 17 → (prt (fp (m + 1) - 1) == (rul m).2) = true := by decide +kernel
set_option maxRecDepth 100000 in
theorem tb_r3 : ∀ m, m < 17 → fp m < fp (m + 1) - 1 ∧ fp (m + 1) ≤ 48 ∧ (rul m).2.1 < 7 ∧ ltr m ≤ 6 := by decide +kernel
set_option maxRecDepth 100000 in
theorem tb_r4 : ∀ m, m < 17 → ((rul m).1.all fun t => decide (pw t ≤ pw (rul m).2)) = true := by decide +kernel
theorem tb_rul {m : Nat} (h : m < 17) : (List.range' (fp m) (fp (m + 1) - 1 - fp m)).map prt = (rul m).1 ∧ prt (fp (m + 1) - 1) = (rul m).2 ∧ fp m < fp (m + 1) - 1 ∧ fp (m + 1) ≤ 48 ∧ (∀ t ∈ (rul m).1, pw t ≤ pw (rul m).2) ∧ (rul m).2.1 < 7 ∧ ltr m ≤ 6 := by
  obtain ⟨a, b, c, e⟩ := tb_r3 m h
  refine ⟨eq_of_beq (tb_r1 m h), eq_of_beq (tb_r2 m h), a, b, fun t ht => ?_, c, e⟩
  exact of_decide_eq_true (List.all_eq_true.mp (tb_r4 m h) t ht)
theorem pc_le {t : rt_T} {i : Nat} (h1 : 1 ≤ i) (h2 : i ≤ 4) : pc t i ≤ pw t := by
  unfold pc pw
  rcases (show i = 1 ∨ i = 2 ∨ i = 3 ∨ i = 4 by omega) with rfl | rfl | rfl | rfl <;> simp <;> omega
section SR
variable {z : mm_S} {d : Nat} {I : mm_I} {J : mm_J}
theorem c_partAt {p i : Nat} (hp : p < 48) (hi : i < 6) (Q : Option Value → mm_I → mm_J → Prop) : mm_call z (d + 1) 73 [.int (nI p), .int (nI i)] I J Q = Q (some (.int (nI (pc (prt p) i)))) I J := by
  refine mm_ev ?_ Q
  have e : nI p * 6 + nI i = nI (6 * p + i) := by
    rw [show (6 : Int32) = nI 6 from rfl, nI_mul, nI_add, Nat.mul_comm]
  have c1 : (nI (6 * p + i) < Int32.ofNat 288) = True := eq_true (nI_lt (b := 288) (by omega) (by decide))
  have c2 : vp_in (nI (6 * p + i)) 288 = True := eq_true (vp_in_nI (by omega) (by decide))
  have c3 : (nI (6 * p + i)).toNatClampNeg = 6 * p + i := nI_clamp (by omega)
  simp only [ce_73, bk_73, mmE, mmE0, mmH, mT, mR, mRf, mAl, mAs, mAz, mAn, Int.reduceToNat, Int32.reduceOfInt, Int64.reduceOfInt, Int.reduceAdd, swE, Nat.reduceDiv, Nat.reduceMod, Nat.reduceAdd, Nat.reduceMul, Nat.reduceEqDiff, Nat.reduceLeDiff, Nat.zero_le, List.length_nil, List.length_cons, Nat.zero_add, true_or, or_true, false_or, or_false, true_and, and_true, and_self, mb_01, mb_t, mb_f, e, nneg (show 6 * p + i < 2 ^ 31 by omega), c1, c2, c3, tb_part p hp i hi, true_implies, not_true_eq_false, not_false_eq_true, false_implies, and_true, true_and]
theorem c_pointAt {p i n : Nat} {l : List Nat} (hp : p < 48) (h1 : 1 ≤ i) (h2 : i ≤ 4) (hL : ∀ j, j < n → I 123 j = nI (ls_f l j)) (hw : pw (prt p) < n) (Q : Option Value → mm_I → mm_J → Prop) : mm_call z (d + 2) 76 [.ref 122, .int (nI p), .int (nI i)] I J Q = Q (some (.int (nI (ls_f l (pc (prt p) i))))) I J := by
  refine mm_ev ?_ Q
  have h6 := (tb_prt p hp).2
  have hc := pc_le (t := prt p) h1 h2
  simp only [ce_76, bk_76, mmE, mmE0, mmH, mT, mR, mRf, mAl, mAs, mAz, mAn, Int.reduceToNat, Int32.reduceOfInt, Int64.reduceOfInt, Int.reduceAdd, swE, Nat.reduceDiv, Nat.reduceMod, Nat.reduceAdd, Nat.reduceMul, Nat.reduceEqDiff, Nat.reduceLeDiff, Nat.zero_le, List.length_nil, List.length_cons, Nat.zero_add, true_or, or_true, false_or, or_false, true_and, and_true, and_self, mb_01, mb_t, mb_f, Option.toList_some, Option.toList_none, List.cons_append, List.nil_append, c_partAt hp (show i < 6 by omega), nneg (show pc (prt p) i < 2 ^ 31 by omega), ix6 (show pc (prt p) i < 6 by omega), hL (pc (prt p) i) (by omega), true_implies, not_true_eq_false, not_false_eq_true, false_implies, and_true, true_and]
theorem c_factAt {p n : Nat} {l : List Nat} (hp : p < 48) (hl7 : ∀ j, ls_f l j < 7) (hL : ∀ j, j < n → I 123 j = nI (ls_f l j)) (hw : pw (prt p) < n) (Q : Option Value → mm_I → mm_J → Prop) : mm_call z (d + 3) 75 [.ref 122, .int (nI p)] I J Q = Q (some (.int (eI (rt_f (ls_f l) (prt p))))) I J := by
  refine mm_ev ?_ Q
  have k7 := (tb_prt p hp).1
  have n0 := fun (z : mm_S) (d : Nat) => c_partAt (z := z) (d := d) (I := I) (J := J) hp (show 0 < 6 by omega)
  have n1 := fun (z : mm_S) (d : Nat) => c_pointAt (z := z) (d := d) (J := J) hp (show 1 ≤ 1 by omega) (by omega) hL hw
  have n2 := fun (z : mm_S) (d : Nat) => c_pointAt (z := z) (d := d) (J := J) hp (show 1 ≤ 2 by omega) (by omega) hL hw
  have n3 := fun (z : mm_S) (d : Nat) => c_pointAt (z := z) (d := d) (J := J) hp (show 1 ≤ 3 by omega) (by omega) hL hw
  have n4 := fun (z : mm_S) (d : Nat) => c_pointAt (z := z) (d := d) (J := J) hp (show 1 ≤ 4 by omega) (by omega) hL hw
  have nE := fa_number_n k7 (hl7 (pc (prt p) 1)) (hl7 (pc (prt p) 2)) (hl7 (pc (prt p) 3)) (hl7 (pc (prt p) 4))
  rw [show nI 0 = 0 from rfl] at n0
  rw [show nI 1 = 1 from rfl] at n1
  rw [show nI 2 = 2 from rfl] at n2
  rw [show nI 3 = 3 from rfl] at n3
  rw [show nI 4 = 4 from rfl] at n4
  simp only [ce_75, bk_75, mmE, mmE0, mmH, mT, mR, mRf, mAl, mAs, mAz, mAn, Int.reduceToNat, Int32.reduceOfInt, Int64.reduceOfInt, Int.reduceAdd, swE, Nat.reduceDiv, Nat.reduceMod, Nat.reduceAdd, Nat.reduceMul, Nat.reduceEqDiff, Nat.reduceLeDiff, Nat.zero_le, List.length_nil, List.length_cons, Nat.zero_add, true_or, or_true, false_or, or_false, true_and, and_true, and_self, mb_01, mb_t, mb_f, Option.toList_some, Option.toList_none, List.cons_append, List.nil_append, n0, n1, n2, n3, n4, c_number, show pc (prt p) 0 = (prt p).1 from rfl, nE]
  rfl
end SR
