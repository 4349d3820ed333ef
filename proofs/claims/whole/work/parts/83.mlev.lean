/-! the reference's search: letters, slots, what is had -/
def cdt (t : rt_T) : Nat := 10000 * t.1 + 1000 * t.2.1 + 100 * t.2.2.1 + 10 * t.2.2.2.1 + t.2.2.2.2
theorem nI_dv {a b : Nat} (ha : a < 2 ^ 31) (hb : b < 2 ^ 31) : nI a / nI b = nI (a / b) := by
  apply Int32.toInt_inj.mp
  have hd : a / b ≤ a := Nat.div_le_self a b
  rw [Int32.toInt_div, nI_toInt ha, nI_toInt hb, nI_toInt (by omega)]
  rw [show ((a : Int).tdiv (b : Int)) = ((a / b : Nat) : Int) from (Int.ofNat_tdiv a b).symm]
  have key : ∀ q : Nat, q ≤ a → ((q : Int)).bmod (2 ^ 32) = q := fun q hq => Int.bmod_eq_of_le_mul_two (by omega) (by omega)
  exact key _ hd
theorem nI_rm2 {a b : Nat} : nI a - nI (a / b) * nI b = nI (a % b) := by
  rw [nI_mul, nI_sub (Nat.div_mul_le_self a b)]
  congr 1
  have := Nat.div_add_mod a b
  rw [Nat.mul_comm] at this
  omega
theorem nI_rm {a b : Nat} (ha : a < 2 ^ 31) (hb : b < 2 ^ 31) : nI a - nI a / nI b * nI b = nI (a % b) := by
  rw [nI_dv ha hb, nI_mul, nI_sub (Nat.div_mul_le_self a b)]
  congr 1
  have := Nat.div_add_mod a b
  rw [Nat.mul_comm] at this
  omega
def z0 : rt_T := (0, 0, 0, 0, 0)
set_option maxRecDepth 100000 in
theorem tm_1a : ∀ m, m < 17 → Int32.ofInt (mt1.getD m 0) = nI (cdt ((rul m).1.getD 0 z0)) ∧ Int32.ofInt (mt3.getD m 0) = nI (cdt (rul m).2) := by decide +kernel
set_option maxRecDepth 100000 in
theorem tm_1b : ∀ m, m < 17 → (if 2 ≤ (rul m).1.length then Int32.ofInt (mt2.getD m 0) = nI (cdt ((rul m).1.getD 1 z0)) else Int32.ofInt (mt2.getD m 0) = -1) := by decide +kernel
set_option maxRecDepth 100000 in
theorem tm_1c : ∀ m, m < 17 → (1 ≤ (rul m).1.length ∧ (rul m).1.length ≤ 3) ∧ ((rul m).1.length = 3 ↔ m = 12) ∧ (m = 12 → ((rul m).1.getD 2 z0 == (3, 0, 3, 0, 4)) = true) := by decide +kernel
set_option maxRecDepth 100000 in
theorem tm_1d : ∀ m, m < 17 → mtL.getD m 0 = ltr m ∧ mtF.getD m 0 ≤ ltr m ∧ pw ((rul m).1.getD 0 z0) < mtF.getD m 0 ∧ mtF.getD m 0 ≤ 4 ∧ ltr m - mtF.getD m 0 ≤ 3 := by decide +kernel
set_option maxRecDepth 100000 in
theorem tm_1e : ∀ m, m < 17 → ((rul m).1.all fun t => decide (t.1 < 7)) = true := by decide +kernel
section ML
variable {z : mm_S} {d : Nat} {I : mm_I} {J : mm_J} {np : Nat} {Q : Option Value → mm_I → mm_J → Prop}
theorem w_power_loop {n : Nat} (hn : n ≤ 10) (hp : I 127 0 = nI np) : ∀ (w i x : Nat), i + w = n → Q (some (.int (nI (x * np ^ w)))) I J → mm_at z (mm_call z d) (mm_code 176) Q 4 [some (.ref 127), some (.int (nI n)), some (.int (nI x)), some (.int (nI i))] [] I J
  | 0, i, x, hi, k => by
    rw [hk_176_4]
    have c1 : (nI n ≤ nI i) = True := by rw [le_nI (by omega) (by omega)]; exact eq_true (by omega)
    simp only [bk_176.2, mmE, mmE0, mmH, mT, mR, mRf, mAl, mAs, mAz, mAn, Int.reduceToNat, Int32.reduceOfInt, Int64.reduceOfInt, Int.reduceAdd, swE, Nat.reduceDiv, Nat.reduceMod, Nat.reduceAdd, Nat.reduceMul, Nat.reduceEqDiff, Nat.reduceLeDiff, Nat.zero_le, List.length_nil, List.length_cons, Nat.zero_add, true_or, or_true, false_or, or_false, true_and, and_true, and_self, mb_01, mb_t, mb_f, c1, true_implies, not_true_eq_false, not_false_eq_true, false_implies, and_true, true_and]
    rw [Nat.pow_zero, Nat.mul_one] at k
    exact k
  | w + 1, i, x, hi, k => by
    rw [hk_176_4]
    have c1 : (nI n ≤ nI i) = False := by rw [le_nI (by omega) (by omega)]; exact eq_false (by omega)
    simp only [mmE, mmE0, mmH, mT, mR, mRf, mAl, mAs, mAz, mAn, Int.reduceToNat, Int32.reduceOfInt, Int64.reduceOfInt, Int.reduceAdd, swE, Nat.reduceDiv, Nat.reduceMod, Nat.reduceAdd, Nat.reduceMul, Nat.reduceEqDiff, Nat.reduceLeDiff, Nat.zero_le, List.length_nil, List.length_cons, Nat.zero_add, true_or, or_true, false_or, or_false, true_and, and_true, and_self, mb_01, mb_t, mb_f, c1, hp, nI_mul, true_implies, not_true_eq_false, not_false_eq_true, false_implies, and_true, true_and]
    rw [← nI_succ]
    refine w_power_loop hn hp w (i + 1) (x * np) (by omega) ?_
    rw [Nat.pow_succ, Nat.mul_comm (np ^ w) np, ← Nat.mul_assoc] at k
    exact k
theorem c_power {n : Nat} (hn : n ≤ 10) (hp : I 127 0 = nI np) (Q : Option Value → mm_I → mm_J → Prop) : mm_call z (d + 1) 176 [.ref 127, .int (nI n)] I J Q = Q (some (.int (nI (np ^ n)))) I J := by
  refine mm_ev ?_ Q
  simp only [ce_176, bk_176.1, mmE, mmE0, mmH, mT, mR, mRf, mAl, mAs, mAz, mAn, Int.reduceToNat, Int32.reduceOfInt, Int64.reduceOfInt, Int.reduceAdd, swE, Nat.reduceDiv, Nat.reduceMod, Nat.reduceAdd, Nat.reduceMul, Nat.reduceEqDiff, Nat.reduceLeDiff, Nat.zero_le, List.length_nil, List.length_cons, Nat.zero_add, true_or, or_true, false_or, or_false, true_and, and_true, and_self, mb_01, mb_t, mb_f]
  refine w_power_loop (z := z) (d := d) hn hp n 0 1 (by omega) ⟨?_, rfl, rfl⟩
  rw [Nat.one_mul]
theorem w_assign_loop {a b : Nat} {o3 : Int32} (hnp : 0 < np) (hn7 : np ≤ 7) : ∀ (w n : Nat) (I : mm_I), a + w ≤ 6 → n < 2 ^ 31 → I 127 0 = nI np → (∀ I', (∀ k, k ≠ 136 → I' k = I k) → (∀ j, j < a ∨ a + w ≤ j → I' 136 j = I 136 j) → (∀ j, j < w → I' 136 (a + j) = nI ((dg np w n).getD j 0)) → Q none I' J) → mm_at z (mm_call z d) (mm_code 177) Q 8 [some (.ref 127), some (.int (nI a)), some (.int (nI b)), some (.int o3), some (.int (nI n)), some (.int (nI (a + w) - 1))] [] I J
  | 0, n, I, ha, hn, hp, K => by
    rw [hk_177_8]
    have c1 : ((nI (a + 0) - 1 : Int32) < nI a) = True := by
      rw [Nat.add_zero]
      cases a with
      | zero => decide
      | succ a =>
        rw [pd1, lt_nI (by omega) (by omega)]
        exact eq_true (by omega)
    simp only [bk_177.2, mmE, mmE0, mmH, mT, mR, mRf, mAl, mAs, mAz, mAn, Int.reduceToNat, Int32.reduceOfInt, Int64.reduceOfInt, Int.reduceAdd, swE, Nat.reduceDiv, Nat.reduceMod, Nat.reduceAdd, Nat.reduceMul, Nat.reduceEqDiff, Nat.reduceLeDiff, Nat.zero_le, List.length_nil, List.length_cons, Nat.zero_add, true_or, or_true, false_or, or_false, true_and, and_true, and_self, mb_01, mb_t, mb_f, c1, true_implies, not_true_eq_false, not_false_eq_true, false_implies, and_true, true_and]
    exact K I (fun _ _ => rfl) (fun _ _ => rfl) (fun j hj => by omega)
  | w + 1, n, I, ha, hn, hp, K => by
    rw [hk_177_8]
    have e1 : nI (a + (w + 1)) - 1 = nI (a + w) := pd1 (a + w)
    have c1 : (nI (a + w) < nI a) = False := by rw [lt_nI (by omega) (by omega)]; exact eq_false (by omega)
    have c0 : (nI np = 0) = False := by rw [n0E (by omega)]; exact eq_false (by omega)
    have wp : ∀ x j, mm_wI I 136 j x 127 0 = nI np := fun x j => by rw [mWI, if_neg (by decide)]; exact hp
    simp only [mmE, mmE0, mmH, mT, mR, mRf, mAl, mAs, mAz, mAn, Int.reduceToNat, Int32.reduceOfInt, Int64.reduceOfInt, Int.reduceAdd, swE, Nat.reduceDiv, Nat.reduceMod, Nat.reduceAdd, Nat.reduceMul, Nat.reduceEqDiff, Nat.reduceLeDiff, Nat.zero_le, List.length_nil, List.length_cons, Nat.zero_add, true_or, or_true, false_or, or_false, true_and, and_true, and_self, mb_01, mb_t, mb_f, e1, c1, hp, c0, ix6 (show a + w < 6 by omega), nI_dv hn (show np < 2 ^ 31 by omega), nI_rm2, wp, pdm, true_implies, not_true_eq_false, not_false_eq_true, false_implies, and_true, true_and]
    have hd : n / np ≤ n := Nat.div_le_self n np
    refine w_assign_loop hnp hn7 w (n / np) _ (by omega) (by omega) (wp _ _) (fun I' g1 g2 g3 => ?_)
    have hl := dg_len (np := np) w (n / np)
    refine K I' (fun k hk => ?_) (fun j hj => ?_) (fun j hj => ?_)
    · rw [g1 k hk]
      funext q
      rw [mWI, if_neg hk]
    · rw [g2 j (by omega), mWI, if_pos rfl, if_neg (by omega)]
    · show _ = nI ((dg np w (n / np) ++ [n % np]).getD j 0)
      rw [List.getD_eq_getElem?_getD]
      by_cases q : j = w
      · rw [q, g2 _ (by omega), mWI, if_pos rfl, if_pos rfl, List.getElem?_append_right (by omega), hl, Nat.sub_self]
        rfl
      · rw [g3 j (by omega), List.getElem?_append_left (by omega), ← List.getD_eq_getElem?_getD]
theorem w_assign {a b n : Nat} (hnp : 0 < np) (hn7 : np ≤ 7) (hab : a ≤ b) (hb : b ≤ 6) (hn : n < 2 ^ 31) (hp : I 127 0 = nI np) (K : ∀ I', (∀ k, k ≠ 136 → I' k = I k) → (∀ j, j < a ∨ b ≤ j → I' 136 j = I 136 j) → (∀ j, j < b - a → I' 136 (a + j) = nI ((dg np (b - a) n).getD j 0)) → Q none I' J) : mm_call z (d + 1) 177 [.ref 127, .int (nI a), .int (nI b), .int (nI n)] I J Q := by
  simp only [ce_177, bk_177.1, mmE, mmE0, mmH, mT, mR, mRf, mAl, mAs, mAz, mAn, Int.reduceToNat, Int32.reduceOfInt, Int64.reduceOfInt, Int.reduceAdd, swE, Nat.reduceDiv, Nat.reduceMod, Nat.reduceAdd, Nat.reduceMul, Nat.reduceEqDiff, Nat.reduceLeDiff, Nat.zero_le, List.length_nil, List.length_cons, Nat.zero_add, true_or, or_true, false_or, or_false, true_and, and_true, and_self, mb_01, mb_t, mb_f]
  have := w_assign_loop (z := z) (d := d) (J := J) (Q := Q) (a := a) (b := b) (o3 := nI n) hnp hn7 (b - a) n I (by omega) hn hp (fun I' g1 g2 g3 => K I' g1 (fun j hj => g2 j (by omega)) g3)
  rw [show a + (b - a) = b by omega] at this
  exact this
/-- letters as the reference has them -/
def mlt (I : mm_I) (l : List Nat) (n : Nat) : Prop := ∀ j, j < n → I 136 j = nI (ls_f l j)
theorem c_slotBy {t : rt_T} {l : List Nat} {n : Nat} (hn7 : np ≤ 7) (hk : t.1 < 7) (hw : pw t < n) (hw6 : pw t < 6) (hl : ∀ j, j < n → ls_f l j < np) (hA : mlt I l n) (hp : I 127 0 = nI np) (Q : Option Value → mm_I → mm_J → Prop) : mm_call z (d + 3) 179 [.ref 127, .int (nI (cdt t))] I J Q = Q (some (.int (eI ((rt_f (ls_f l) t).map sl)))) I J := by
  refine mm_ev ?_ Q
  have h1 : t.2.1 ≤ pw t := pc_le (t := t) (i := 1) (by omega) (by omega)
  have h2 : t.2.2.1 ≤ pw t := pc_le (t := t) (i := 2) (by omega) (by omega)
  have h3 : t.2.2.2.1 ≤ pw t := pc_le (t := t) (i := 3) (by omega) (by omega)
  have h4 : t.2.2.2.2 ≤ pw t := pc_le (t := t) (i := 4) (by omega) (by omega)
  have eC : cdt t = 10000 * t.1 + 1000 * t.2.1 + 100 * t.2.2.1 + 10 * t.2.2.2.1 + t.2.2.2.2 := rfl
  have q1 : nI (cdt t) / 10000 = nI t.1 := by
    rw [show (10000 : Int32) = nI 10000 from rfl, nI_dv (by omega) (by omega)]
    congr 1
    omega
  have dv : ∀ a b c, a < 2 ^ 31 → b < 2 ^ 31 → a / b % 10 = c → nI a / nI b - nI a / nI b / 10 * 10 = nI c := by
    intro a b c ha hb e
    rw [nI_dv ha hb, show (10 : Int32) = nI 10 from rfl, nI_rm (by have := Nat.div_le_self a b; omega) (by omega), e]
  have q2 : nI (cdt t) / 1000 - nI (cdt t) / 1000 / 10 * 10 = nI t.2.1 := dv _ 1000 _ (by omega) (by omega) (by omega)
  have q3 : nI (cdt t) / 100 - nI (cdt t) / 100 / 10 * 10 = nI t.2.2.1 := dv _ 100 _ (by omega) (by omega) (by omega)
  have q4 : nI (cdt t) / 10 - nI (cdt t) / 10 / 10 * 10 = nI t.2.2.2.1 := dv _ 10 _ (by omega) (by omega) (by omega)
  have q5 : nI (cdt t) - nI (cdt t) / 10 * 10 = nI t.2.2.2.2 := by
    rw [show (10 : Int32) = nI 10 from rfl, nI_rm (by omega) (by omega)]
    congr 1
    omega
  have nz : ((10000 : Int32) = 0) = False ∧ ((1000 : Int32) = 0) = False ∧ ((100 : Int32) = 0) = False ∧ ((10 : Int32) = 0) = False := by decide
  have l1 := hl t.2.1 (by omega)
  have l2 := hl t.2.2.1 (by omega)
  have l3 := hl t.2.2.2.1 (by omega)
  have l4 := hl t.2.2.2.2 (by omega)
  have sE := rm_slot_n hn7 hk l1 l2 l3 (show ls_f l t.2.2.2.2 < 7 by omega) (fun _ => l4)
  simp only [ce_179, bk_179, mmE, mmE0, mmH, mT, mR, mRf, mAl, mAs, mAz, mAn, Int.reduceToNat, Int32.reduceOfInt, Int64.reduceOfInt, Int.reduceAdd, swE, Nat.reduceDiv, Nat.reduceMod, Nat.reduceAdd, Nat.reduceMul, Nat.reduceEqDiff, Nat.reduceLeDiff, Nat.zero_le, List.length_nil, List.length_cons, Nat.zero_add, true_or, or_true, false_or, or_false, true_and, and_true, and_self, mb_01, mb_t, mb_f, Option.toList_some, Option.toList_none, List.cons_append, List.nil_append, nz, not_false_eq_true, q1, q2, q3, q4, q5, ix6 (show t.2.1 < 6 by omega), ix6 (show t.2.2.1 < 6 by omega), ix6 (show t.2.2.2.1 < 6 by omega), ix6 (show t.2.2.2.2 < 6 by omega), hA t.2.1 (by omega), hA t.2.2.1 (by omega), hA t.2.2.2.1 (by omega), hA t.2.2.2.2 (by omega), c_slot hn7 hp, sE, true_implies, not_true_eq_false, not_false_eq_true, false_implies, and_true, true_and]
  rfl
end ML
