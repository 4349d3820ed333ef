/-! ranges, and the reference's numbers of facts -/
theorem lc_lt {x y : Int64} : (lg_cmp x y < 0) = (x < y) := by
  have h := @lc_ge x y
  apply propext
  rw [← Int32.not_le, h, Classical.not_not]
theorem lc_gt {x y : Int64} : (0 < lg_cmp x y) = (y < x) := by
  unfold lg_cmp
  apply propext
  by_cases h : x > y
  · rw [if_pos h]
    exact ⟨fun _ => h, fun _ => by decide⟩
  · rw [if_neg h]
    by_cases h2 : x = y
    · rw [if_pos h2]
      exact ⟨fun q => absurd q (by decide), fun q => absurd q h⟩
    · rw [if_neg h2]
      exact ⟨fun q => absurd q (by decide), fun q => absurd q h⟩
/-- an int of a range of numbers from 0 on -/
def inN (n : Nat) (x : Int32) : Bool := decide (0 ≤ x.toInt ∧ x.toInt < (n : Int))
theorem inN_t {n : Nat} {x : Int32} (h : inN n x = true) : ∃ m, m < n ∧ x = nI m := by
  unfold inN at h
  rw [decide_eq_true_eq] at h
  have hlt : x.toInt < 2 ^ 31 := Int32.toInt_lt x
  refine ⟨x.toInt.toNat, by omega, Int32.toInt_inj.mp ?_⟩
  rw [nI_toInt (by omega)]
  omega
theorem inN_nI {n m : Nat} (h : m < 2 ^ 31) : inN n (nI m) = decide (m < n) := by
  unfold inN
  rw [nI_toInt h, Bool.eq_iff_iff, decide_eq_true_eq, decide_eq_true_eq]
  omega
theorem inN_f {n : Nat} {x : Int32} (h : inN n x = false) : x < 0 ∨ ((n : Int) ≤ x.toInt) := by
  unfold inN at h
  rw [decide_eq_false_iff_not] at h
  by_cases q : x < 0
  · exact Or.inl q
  · right
    rw [Int32.lt_iff_toInt_lt] at q
    have : (0 : Int32).toInt = 0 := rfl
    omega
theorem in_ab {x : Int32} {a b : Int} (ha : -2000 ≤ a ∧ a ≤ 2000) (hb : -2000 ≤ b ∧ b ≤ 2000) : (decide (Int64.ofInt a ≤ x.toInt64) && decide (x.toInt64 ≤ Int64.ofInt b)) = decide (a ≤ x.toInt ∧ x.toInt ≤ b) := by
  have hs : Int64.size = 18446744073709551616 := rfl
  rw [Bool.eq_iff_iff, Bool.and_eq_true, decide_eq_true_eq, decide_eq_true_eq, decide_eq_true_eq, Int64.le_iff_toInt_le, Int64.le_iff_toInt_le, Int32.toInt_toInt64, Int64.toInt_ofInt, Int64.toInt_ofInt, Int.bmod_eq_of_le (by omega) (by omega), Int.bmod_eq_of_le (by omega) (by omega)]
theorem nI_m1 {n : Nat} (h : n ≤ 10000) : (nI n - 1).toInt = (n : Int) - 1 := by
  rw [Int32.toInt_sub, nI_toInt (by omega)]
  have : (1 : Int32).toInt = 1 := rfl
  rw [this, Int.bmod_eq_of_le (by omega) (by omega)]
theorem in_np {x : Int32} {n : Nat} (h : n ≤ 10000) : (decide ((0 : Int64) ≤ x.toInt64) && decide (x.toInt64 ≤ (nI n - 1).toInt64)) = inN n x := by
  unfold inN
  rw [Bool.eq_iff_iff, Bool.and_eq_true, decide_eq_true_eq, decide_eq_true_eq, decide_eq_true_eq, Int64.le_iff_toInt_le, Int64.le_iff_toInt_le, Int32.toInt_toInt64, Int32.toInt_toInt64, nI_m1 h]
  have : (0 : Int64).toInt = 0 := rfl
  rw [this]
  omega
theorem in_6 {x : Int32} : (decide ((0 : Int64) ≤ x.toInt64) && decide (x.toInt64 ≤ (6 : Int64))) = inN 7 x := by
  have := @in_ab x 0 6 (by omega) (by omega)
  rw [show Int64.ofInt 0 = 0 from rfl, show Int64.ofInt 6 = 6 from rfl] at this
  rw [this]
  unfold inN
  rw [Bool.eq_iff_iff, decide_eq_true_eq, decide_eq_true_eq]
  omega
theorem in_1 {x : Int32} : (decide ((0 : Int64) ≤ x.toInt64) && decide (x.toInt64 ≤ (1 : Int64))) = inN 2 x := by
  have := @in_ab x 0 1 (by omega) (by omega)
  rw [show Int64.ofInt 0 = 0 from rfl, show Int64.ofInt 1 = 1 from rfl] at this
  rw [this]
  unfold inN
  rw [Bool.eq_iff_iff, decide_eq_true_eq, decide_eq_true_eq]
  omega
theorem in_5 {x : Int32} : (decide ((0 : Int64) ≤ x.toInt64) && decide (x.toInt64 ≤ (5 : Int64))) = inN 6 x := by
  have := @in_ab x 0 5 (by omega) (by omega)
  rw [show Int64.ofInt 0 = 0 from rfl, show Int64.ofInt 5 = 5 from rfl] at this
  rw [this]
  unfold inN
  rw [Bool.eq_iff_iff, decide_eq_true_eq, decide_eq_true_eq]
  omega
theorem in_7 {x : Int32} : (decide ((0 : Int64) ≤ x.toInt64) && decide (x.toInt64 ≤ (7 : Int64))) = inN 8 x := by
  have := @in_ab x 0 7 (by omega) (by omega)
  rw [show Int64.ofInt 0 = 0 from rfl, show Int64.ofInt 7 = 7 from rfl] at this
  rw [this]
  unfold inN
  rw [Bool.eq_iff_iff, decide_eq_true_eq, decide_eq_true_eq]
  omega
theorem in_10 {x : Int32} : (decide ((0 : Int64) ≤ x.toInt64) && decide (x.toInt64 ≤ (10 : Int64))) = inN 11 x := by
  have := @in_ab x 0 10 (by omega) (by omega)
  rw [show Int64.ofInt 0 = 0 from rfl, show Int64.ofInt 10 = 10 from rfl] at this
  rw [this]
  unfold inN
  rw [Bool.eq_iff_iff, decide_eq_true_eq, decide_eq_true_eq]
  omega
section SL
variable {z : mm_S} {d : Nat} {I : mm_I} {J : mm_J}
theorem c_in {v a b : Int64} (Q : Option Value → mm_I → mm_J → Prop) : mm_call z (d + 1) 125 [.long v, .long a, .long b] I J Q = Q (some (.int (mb (decide (a ≤ v) && decide (v ≤ b))))) I J := by
  refine mm_ev ?_ Q
  simp only [ce_125, bk_125, mmE, mmE0, mmH, mT, mR, mRf, mAl, mAs, mAz, mAn, Int.reduceToNat, Int32.reduceOfInt, Int64.reduceOfInt, Int.reduceAdd, swE, Nat.reduceDiv, Nat.reduceMod, Nat.reduceAdd, Nat.reduceMul, Nat.reduceEqDiff, Nat.reduceLeDiff, Nat.zero_le, List.length_nil, List.length_cons, Nat.zero_add, true_or, or_true, false_or, or_false, true_and, and_true, and_self, mb_01, mb_t, mb_f, lc_lt, lc_gt, z01]
  by_cases h1 : v < a
  · have h2 : ¬ a ≤ v := fun q => by rw [Int64.lt_iff_toInt_lt] at h1; rw [Int64.le_iff_toInt_le] at q; omega
    simp [h1, h2, mb]
  · have h2 : a ≤ v := by rw [Int64.lt_iff_toInt_lt] at h1; rw [Int64.le_iff_toInt_le]; omega
    by_cases h3 : b < v
    · have h4 : ¬ v ≤ b := fun q => by rw [Int64.lt_iff_toInt_lt] at h3; rw [Int64.le_iff_toInt_le] at q; omega
      simp [h1, h2, h3, h4, mb]
    · have h4 : v ≤ b := by rw [Int64.lt_iff_toInt_lt] at h3; rw [Int64.le_iff_toInt_le]; omega
      simp [h1, h2, h3, h4, mb]
theorem c_three {a b c : Int32} (Q : Option Value → mm_I → mm_J → Prop) : mm_call z (d + 1) 132 [.int a, .int b, .int c] I J Q = Q (some (.int (mb (decide (a ≠ b ∧ b ≠ c ∧ a ≠ c))))) I J := by
  refine mm_ev ?_ Q
  simp only [ce_132, bk_132, mmE, mmE0, mmH, mT, mR, mRf, mAl, mAs, mAz, mAn, Int.reduceToNat, Int32.reduceOfInt, Int64.reduceOfInt, Int.reduceAdd, swE, Nat.reduceDiv, Nat.reduceMod, Nat.reduceAdd, Nat.reduceMul, Nat.reduceEqDiff, Nat.reduceLeDiff, Nat.zero_le, List.length_nil, List.length_cons, Nat.zero_add, true_or, or_true, false_or, or_false, true_and, and_true, and_self, mb_01, mb_t, mb_f, z01]
  by_cases h1 : a = b <;> by_cases h2 : b = c <;> by_cases h3 : a = c <;> simp [h1, h2, h3, mb]
def fm_pair (a b : Int32) : Int32 := if b ≤ a then 7 * b + a else 7 * a + b
theorem c_mpair {a b : Int32} (Q : Option Value → mm_I → mm_J → Prop) : mm_call z (d + 1) 133 [.int a, .int b] I J Q = Q (some (.int (fm_pair a b))) I J := by
  refine mm_ev ?_ Q
  simp only [ce_133, bk_133, mmE, mmE0, mmH, mT, mR, mRf, mAl, mAs, mAz, mAn, Int.reduceToNat, Int32.reduceOfInt, Int64.reduceOfInt, Int.reduceAdd, swE, Nat.reduceDiv, Nat.reduceMod, Nat.reduceAdd, Nat.reduceMul, Nat.reduceEqDiff, Nat.reduceLeDiff, Nat.zero_le, List.length_nil, List.length_cons, Nat.zero_add, true_or, or_true, false_or, or_false, true_and, and_true, and_self, mb_01, mb_t, mb_f]
  grind [fm_pair]
def fm_num (p : Int32) : Int32 := 6 * (p / 7) - p / 7 * (p / 7 - 1) / 2 + (p - p / 7 * 7) - p / 7 - 1
theorem c_mnum {p : Int32} (Q : Option Value → mm_I → mm_J → Prop) : mm_call z (d + 1) 134 [.int p] I J Q = Q (some (.int (fm_num p))) I J := by
  refine mm_ev ?_ Q
  have n7 : (¬ (7 : Int32) = 0) = True := eq_true (by decide)
  have n2 : (¬ (2 : Int32) = 0) = True := eq_true (by decide)
  simp only [ce_134, bk_134, mmE, mmE0, mmH, mT, mR, mRf, mAl, mAs, mAz, mAn, Int.reduceToNat, Int32.reduceOfInt, Int64.reduceOfInt, Int.reduceAdd, swE, Nat.reduceDiv, Nat.reduceMod, Nat.reduceAdd, Nat.reduceMul, Nat.reduceEqDiff, Nat.reduceLeDiff, Nat.zero_le, List.length_nil, List.length_cons, Nat.zero_add, true_or, or_true, false_or, or_false, true_and, and_true, and_self, mb_01, mb_t, mb_f, n7, n2]
  simp [fm_num]
/-- the slot, of points that are there -/
def fm_slot (k a b c e : Int32) : Int32 := if k = 0 then (if a ≠ b ∧ b ≠ c ∧ a ≠ c then (1 : Int32) <<< (a &&& 31) ||| (1 : Int32) <<< (b &&& 31) ||| (1 : Int32) <<< (c &&& 31) else -1) else if k = 4 ∨ k = 6 then (if a ≠ b ∧ b ≠ c ∧ a ≠ c then (if k = 4 then 200 else 600) + 49 * a + fm_pair b c else -1) else if k = 5 then (if (a ≠ b ∧ b ≠ c ∧ a ≠ c) ∧ e ≠ a ∧ e ≠ b ∧ e ≠ c then 1000 + ((1 : Int32) <<< (a &&& 31) ||| (1 : Int32) <<< (b &&& 31) ||| (1 : Int32) <<< (c &&& 31) ||| (1 : Int32) <<< (e &&& 31)) else -1) else if a = b ∨ c = e ∨ fm_pair a b = fm_pair c e then -1 else 1200 + 500 * k + (if fm_num (fm_pair c e) ≤ fm_num (fm_pair a b) then 21 * fm_num (fm_pair c e) + fm_num (fm_pair a b) else 21 * fm_num (fm_pair a b) + fm_num (fm_pair c e))
def rm_slot (np : Nat) (k a b c e : Int32) : Int32 := if inN 7 k && inN np a && inN np b && inN np c && (k == 0 || k == 4 || k == 6 || inN np e) then fm_slot k a b c e else -1
theorem c_slot {np : Nat} {k a b c e : Int32} (hnp : np ≤ 7) (hp : I 127 0 = nI np) (Q : Option Value → mm_I → mm_J → Prop) : mm_call z (d + 2) 131 [.ref 127, .int k, .int a, .int b, .int c, .int e] I J Q = Q (some (.int (rm_slot np k a b c e))) I J := by
  refine mm_ev ?_ Q
  simp only [ce_131, bk_131, mmE, mmE0, mmH, mT, mR, mRf, mAl, mAs, mAz, mAn, Int.reduceToNat, Int32.reduceOfInt, Int64.reduceOfInt, Int.reduceAdd, swE, Nat.reduceDiv, Nat.reduceMod, Nat.reduceAdd, Nat.reduceMul, Nat.reduceEqDiff, Nat.reduceLeDiff, Nat.zero_le, List.length_nil, List.length_cons, Nat.zero_add, true_or, or_true, false_or, or_false, true_and, and_true, and_self, mb_01, mb_t, mb_f, c_in, c_three, c_mpair, c_mnum, hp, in_6, in_np (show np ≤ 10000 by omega), mb_0]
  unfold rm_slot
  cases hk : inN 7 k with
  | false => simp
  | true =>
  cases ha : inN np a with
  | false => simp
  | true =>
  cases hb : inN np b with
  | false => simp
  | true =>
  cases hc : inN np c with
  | false => simp
  | true =>
  simp only [Bool.true_eq_false, not_false_eq_true, false_implies, true_implies, true_and, and_true, Bool.and_true, Bool.true_and]
  unfold fm_slot
  by_cases k0 : k = 0
  · subst k0
    by_cases h3 : a ≠ b ∧ b ≠ c ∧ a ≠ c
    · simp [h3]
    · simp [h3]
  by_cases k4 : k = 4
  · subst k4
    by_cases h3 : a ≠ b ∧ b ≠ c ∧ a ≠ c
    · simp [h3]
    · simp [h3]
  by_cases k6 : k = 6
  · subst k6
    by_cases h3 : a ≠ b ∧ b ≠ c ∧ a ≠ c
    · simp [h3]
    · simp [h3]
  cases he : inN np e with
  | false => simp [k0, k4, k6]
  | true =>
  by_cases k5 : k = 5
  · subst k5
    by_cases h3 : a ≠ b ∧ b ≠ c ∧ a ≠ c
    · by_cases e1 : e = a
      · simp [h3, e1]
      · by_cases e2 : e = b
        · simp [h3, e1, e2]
        · by_cases e3 : e = c
          · simp [h3, e1, e2, e3]
          · simp [h3, e1, e2, e3]
    · simp [h3]
  by_cases e1 : a = b
  · simp [k0, k4, k5, k6, e1]
  by_cases e2 : c = e
  · simp [k0, k4, k5, k6, e1, e2]
  by_cases e3 : fm_pair a b = fm_pair c e
  · simp [k0, k4, k5, k6, e1, e2, e3]
  by_cases e4 : fm_num (fm_pair c e) ≤ fm_num (fm_pair a b)
  · simp [k0, k4, k5, k6, e1, e2, e3, e4]
  · simp [k0, k4, k5, k6, e1, e2, e3, e4]
end SL
/-- the slot of a fact -/
def sl_n (a b : Nat) : Nat := 6 * a - a * (a - 1) / 2 + b - a - 1
def sl (f : Nat) : Nat := if f < 128 then f else if f < 758 then 1200 + 500 * kd f + 21 * sl_n (pt f 0) (pt f 1) + sl_n (pt f 2) (pt f 3) else if f < 905 then 200 + 49 * pt f 0 + 7 * pt f 1 + pt f 2 else if f < 1033 then 1000 + (f - 905) else 600 + 49 * pt f 0 + 7 * pt f 1 + pt f 2
def sl_ok (k a b c d : Nat) : Bool := fm_slot (nI k) (nI a) (nI b) (nI c) (nI d) == eI ((n_number k a b c d).map sl)
set_option maxRecDepth 20000 in
theorem slot_n {k a b c d : Nat} (hk : k < 7) (ha : a < 7) (hb : b < 7) (hc : c < 7) (hd : d < 7) : fm_slot (nI k) (nI a) (nI b) (nI c) (nI d) = eI ((n_number k a b c d).map sl) := by
  have t : ∀ k, k < 7 → ∀ a, a < 7 → ∀ b, b < 7 → ∀ c, c < 7 → ∀ d, d < 7 → sl_ok k a b c d = true := by decide +kernel
  have t1 := t k hk a ha b hb c hc d hd
  unfold sl_ok at t1
  exact beq_iff_eq.mp t1
/-- back -/
def lx_a (p : Nat) : Nat := [0, 0, 0, 0, 0, 0, 1, 1, 1, 1, 1, 2, 2, 2, 2, 3, 3, 3, 4, 4, 5].getD p 0
def lx_b (p : Nat) : Nat := [1, 2, 3, 4, 5, 6, 2, 3, 4, 5, 6, 3, 4, 5, 6, 4, 5, 6, 5, 6, 6].getD p 0
def un (s : Nat) : Nat := if s < 128 then s else if s < 600 then (n_ofMiddle 758 ((s - 200) / 49) ((s - 200) % 49 / 7) ((s - 200) % 7)).getD 0 else if s < 1000 then (n_ofMiddle 1033 ((s - 600) / 49) ((s - 600) % 49 / 7) ((s - 600) % 7)).getD 0 else if s < 1200 then s - 1000 + 905 else (n_ofPairs (128 + 210 * ((s - 1700) / 500)) (n_pair (lx_a ((s - 1200) % 500 / 21)) (lx_b ((s - 1200) % 500 / 21))) (n_pair (lx_a ((s - 1200) % 500 % 21)) (lx_b ((s - 1200) % 500 % 21)))).getD 0
theorem un_sl {f : Nat} (hf : isF f = true) : un (sl f) = f ∧ sl f < 4400 := by
  have t : ∀ f, f < 1180 → isF f = false ∨ (un (sl f) = f ∧ sl f < 4400) := by decide +kernel
  rcases t f (isF_lt hf) with e | e
  · rw [hf] at e; cases e
  · exact e
theorem sl_inj {f g : Nat} (hf : isF f = true) (hg : isF g = true) : sl f = sl g ↔ f = g := ⟨fun h => by rw [← (un_sl hf).1, h, (un_sl hg).1], fun h => by rw [h]⟩
