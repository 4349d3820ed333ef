/-! bytes are put on the tape -/
def by8 (w : Int64) (i : Nat) : Nat := w.toBitVec.toNat / 2 ^ (8 * i) % 256
theorem by8_lt (w : Int64) (i : Nat) : by8 w i < 256 := Nat.mod_lt _ (by decide)
theorem by_bv {x : Int32} {m : Nat} (h : x.toBitVec.toNat = m) (hm : m < 256) : x = nI m := by
  apply Int32.toBitVec_inj.mp
  apply BitVec.eq_of_toNat_eq
  rw [h]
  show m = (BitVec.ofNat 32 m).toNat
  rw [BitVec.toNat_ofNat, Nat.mod_eq_of_lt (by omega)]
theorem by_c (w : Int64) {i : Nat} (h : i < 8) : (((w.toUInt64 >>> ((8 * nI i).toInt64.toUInt64 &&& Int64.toUInt64 63)).toInt64 &&& 255).toInt32) = nI (by8 w i) := by
  have e : (8 * nI i).toInt64.toUInt64 &&& Int64.toUInt64 63 = UInt64.ofNat (8 * i) := by
    rcases (show i = 0 ∨ i = 1 ∨ i = 2 ∨ i = 3 ∨ i = 4 ∨ i = 5 ∨ i = 6 ∨ i = 7 by omega) with rfl | rfl | rfl | rfl | rfl | rfl | rfl | rfl <;> decide
  rw [e]
  refine by_bv ?_ (by8_lt w i)
  have e2 : (w.toUInt64 >>> UInt64.ofNat (8 * i)).toBitVec.toNat = w.toBitVec.toNat / 2 ^ (8 * i) := by
    show (w.toBitVec >>> ((BitVec.ofNat 64 (8 * i)) % 64#64 : BitVec 64)).toNat = _
    rw [BitVec.ushiftRight_eq', BitVec.toNat_ushiftRight, BitVec.toNat_umod, BitVec.toNat_ofNat, Nat.shiftRight_eq_div_pow]
    congr 2
    show (8 * i) % 2 ^ 64 % 64 = _
    omega
  show (BitVec.signExtend 32 ((w.toUInt64 >>> UInt64.ofNat (8 * i)).toBitVec &&& 255#64)).toNat = _
  rw [BitVec.signExtend_eq_setWidth_of_le _ (by decide), BitVec.toNat_setWidth, BitVec.toNat_and, e2]
  show (_ &&& (2 ^ 8 - 1)) % 2 ^ 32 = _
  rw [Nat.and_two_pow_sub_one_eq_mod]
  show _ % 256 % _ = _
  unfold by8
  omega
theorem by_m (w : Int64) {i : Nat} (h : i < 8) : ((w >>> ((8 * nI i).toInt64 &&& 63)).toInt32 &&& 255) = nI (by8 w i) := by
  have e : (8 * nI i).toInt64 &&& 63 = Int64.ofNat (8 * i) := by
    rcases (show i = 0 ∨ i = 1 ∨ i = 2 ∨ i = 3 ∨ i = 4 ∨ i = 5 ∨ i = 6 ∨ i = 7 by omega) with rfl | rfl | rfl | rfl | rfl | rfl | rfl | rfl <;> decide
  rw [e]
  refine by_bv ?_ (by8_lt w i)
  have e2 : (w >>> Int64.ofNat (8 * i)).toBitVec = w.toBitVec.sshiftRight (8 * i) := by
    show BitVec.sshiftRight' w.toBitVec ((BitVec.ofNat 64 (8 * i)).smod 64#64) = _
    rcases (show i = 0 ∨ i = 1 ∨ i = 2 ∨ i = 3 ∨ i = 4 ∨ i = 5 ∨ i = 6 ∨ i = 7 by omega) with rfl | rfl | rfl | rfl | rfl | rfl | rfl | rfl <;> rfl
  show (BitVec.signExtend 32 (w >>> Int64.ofNat (8 * i)).toBitVec &&& 255#32).toNat = _
  rw [BitVec.signExtend_eq_setWidth_of_le _ (by decide), e2, BitVec.toNat_and, BitVec.toNat_setWidth]
  show (_ &&& (2 ^ 8 - 1)) = _
  rw [Nat.and_two_pow_sub_one_eq_mod]
  unfold by8
  rw [show (256 : Nat) = 2 ^ 8 from rfl]
  apply Nat.eq_of_testBit_eq
  intro j
  rw [Nat.testBit_mod_two_pow, Nat.testBit_mod_two_pow, Nat.testBit_mod_two_pow]
  by_cases q : j < 8
  · rw [decide_eq_true q, decide_eq_true (show j < 32 by omega), Bool.true_and, Bool.true_and, Bool.true_and, Nat.testBit_div_two_pow, BitVec.testBit_toNat, BitVec.testBit_toNat, BitVec.getLsbD_sshiftRight, decide_eq_false (show ¬ 64 ≤ j by omega), if_pos (by omega)]
    rw [Nat.add_comm]
    rfl
  · rw [decide_eq_false q, Bool.false_and, Bool.false_and]
def apd (T : Nat → Nat) (n v : Nat) : Nat → Nat := fun q => if q = n then v else T q
def fd (w : Int64) : Nat → (Nat → Nat) → Nat → Nat → Nat
  | 0, T, _ => T
  | m + 1, T, n => fd w m (apd T n (by8 w m)) (n + 1)
theorem pd1 (m : Nat) : nI (m + 1) - 1 = nI m := by
  rw [show (1 : Int32) = nI 1 from rfl, nI_sub (by omega)]
  rfl
theorem pdm (m : Nat) : nI m + -1 = nI m - 1 := by
  rw [Int32.sub_eq_add_neg]
theorem pd0 : ((nI 0 - 1 : Int32) < 0) = True := by decide
section FE
variable {z : mm_S} {d : Nat} {I : mm_I} {J : mm_J} {Q : Option Value → mm_I → mm_J → Prop}
theorem rt_app {T : Nat → Nat} {n v : Nat} (h : rt_rep I T n) (hn : n < 120) (hv : v < 256) : rt_rep (mm_wI (mm_wI I 105 n (nI v)) 104 1 (nI (n + 1))) (apd T n v) (n + 1) := by
  refine ⟨by rw [mWI, if_pos rfl, if_pos rfl], by omega, fun i hi => ?_⟩
  rw [mWI, if_neg (by decide), mWI, if_pos rfl]
  unfold apd
  by_cases q : i = n
  · rw [if_pos q, if_pos q]
    exact ⟨rfl, hv⟩
  · rw [if_neg q, if_neg q]
    exact h.2.2 i (by omega)
theorem w_app_loop {w : Int64} {x : Int32} : ∀ (m : Nat) (T : Nat → Nat) (n : Nat) (I : mm_I), m ≤ 8 → n + m ≤ 120 → rt_rep I T n → (∀ I', rt_rep I' (fd w m T n) (n + m) → (∀ k, k ≠ 104 → k ≠ 105 → I' k = I k) → Q none I' J) → mm_at z (mm_call z d) (mm_code 88) Q 5 [some (.ref 104), some (.long w), none, some (.int x), some (.int (nI m - 1))] [] I J
  | 0, T, n, I, _, hn, h, k => by
    rw [hk_88_5]
    have hk := k I h (fun _ _ _ => rfl)
    simp only [ce_88, bk_88, mmE, mmE0, mmH, mT, mR, mRf, mAl, mAs, mAz, mAn, Int.reduceToNat, Int32.reduceOfInt, Int64.reduceOfInt, Int.reduceAdd, swE, Nat.reduceDiv, Nat.reduceMod, Nat.reduceAdd, Nat.reduceMul, Nat.reduceEqDiff, Nat.reduceLeDiff, Nat.zero_le, List.length_nil, List.length_cons, Nat.zero_add, true_or, or_true, false_or, or_false, true_and, and_true, and_self, mb_01, mb_t, mb_f, pd0, true_implies, not_true_eq_false, false_implies, and_true]
    exact hk
  | m + 1, T, n, I, hm, hn, h, k => by
    rw [hk_88_5]
    have e : (120 ≤ nI n) = False := (ix120 (show n < 120 by omega)).1
    simp only [ce_88, bk_88, mmE, mmE0, mmH, mT, mR, mRf, mAl, mAs, mAz, mAn, Int.reduceToNat, Int32.reduceOfInt, Int64.reduceOfInt, Int.reduceAdd, swE, Nat.reduceDiv, Nat.reduceMod, Nat.reduceAdd, Nat.reduceMul, Nat.reduceEqDiff, Nat.reduceLeDiff, Nat.zero_le, List.length_nil, List.length_cons, Nat.zero_add, true_or, or_true, false_or, or_false, true_and, and_true, and_self, mb_01, mb_t, mb_f, pd1, h.1, nneg (show m < 2 ^ 31 by omega), nneg (show n < 2 ^ 31 by omega), e, ix120 (show n < 120 by omega), by_c w (show m < 8 by omega), pdm, true_implies, not_true_eq_false, not_false_eq_true, false_implies, and_true, true_and]
    rw [show mm_wI I 105 n (nI (by8 w m)) 104 1 = nI n by rw [mWI, if_neg (by decide)]; exact h.1, ← nI_succ]
    refine w_app_loop m (apd T n (by8 w m)) (n + 1) _ (by omega) (by omega) (rt_app h (by omega) (by8_lt w m)) (fun I' r' f' => ?_)
    refine k I' (by rw [show n + (m + 1) = n + 1 + m by omega]; exact r') (fun c h1 h2 => ?_)
    rw [f' c h1 h2]
    funext q
    rw [mWI, if_neg h1, mWI, if_neg h2]
theorem w_append {w : Int64} {T : Nat → Nat} {n m : Nat} (hm : m ≤ 8) (hn : n + m ≤ 120) (h : rt_rep I T n) (k : ∀ I', rt_rep I' (fd w m T n) (n + m) → (∀ k, k ≠ 104 → k ≠ 105 → I' k = I k) → Q none I' J) : mm_call z (d + 1) 88 [.ref 104, .long w, .int (nI m)] I J Q := by
  simp only [ce_88, bk_88, mmE, mmE0, mmH, mT, mR, mRf, mAl, mAs, mAz, mAn, Int.reduceToNat, Int32.reduceOfInt, Int64.reduceOfInt, Int.reduceAdd, swE, Nat.reduceDiv, Nat.reduceMod, Nat.reduceAdd, Nat.reduceMul, Nat.reduceEqDiff, Nat.reduceLeDiff, Nat.zero_le, List.length_nil, List.length_cons, Nat.zero_add, true_or, or_true, false_or, or_false, true_and, and_true, and_self, mb_01, mb_t, mb_f]
  exact w_app_loop m T n I hm hn h k
theorem rm_app {T : Nat → Nat} {n v : Nat} (h : rm_tape I T n) (hn : n < 120) (hv : v < 256) : rm_tape (mm_wI (mm_wI I 138 n (nI v)) 127 12 (nI (n + 1))) (apd T n v) (n + 1) := by
  refine ⟨by rw [mWI, if_pos rfl, if_pos rfl], by omega, fun i hi => ?_⟩
  rw [mWI, if_neg (by decide), mWI, if_pos rfl]
  unfold apd
  by_cases q : i = n
  · rw [if_pos q, if_pos q]
    exact ⟨rfl, hv⟩
  · rw [if_neg q, if_neg q]
    exact h.2.2 i (by omega)
theorem w_feed_loop {w : Int64} {x : Int32} : ∀ (m : Nat) (T : Nat → Nat) (n : Nat) (I : mm_I), m ≤ 8 → n + m ≤ 120 → rm_tape I T n → (∀ I', rm_tape I' (fd w m T n) (n + m) → (∀ k j, ¬ (k = 127 ∧ j = 12) → k ≠ 138 → I' k j = I k j) → Q (some (.int (nI (n + m)))) I' J) → mm_at z (mm_call z d) (mm_code 142) Q 34 [some (.ref 127), some (.long w), none, some (.int x), some (.int (nI m - 1))] [] I J
  | 0, T, n, I, _, hn, h, k => by
    rw [hk_142_34]
    have hk := k I h (fun _ _ _ _ => rfl)
    simp only [ce_142, bk_142, mmE, mmE0, mmH, mT, mR, mRf, mAl, mAs, mAz, mAn, Int.reduceToNat, Int32.reduceOfInt, Int64.reduceOfInt, Int.reduceAdd, swE, Nat.reduceDiv, Nat.reduceMod, Nat.reduceAdd, Nat.reduceMul, Nat.reduceEqDiff, Nat.reduceLeDiff, Nat.zero_le, List.length_nil, List.length_cons, Nat.zero_add, true_or, or_true, false_or, or_false, true_and, and_true, and_self, mb_01, mb_t, mb_f, pd0, h.1, true_implies, not_true_eq_false, false_implies, and_true]
    exact hk
  | m + 1, T, n, I, hm, hn, h, k => by
    rw [hk_142_34]
    simp only [ce_142, bk_142, mmE, mmE0, mmH, mT, mR, mRf, mAl, mAs, mAz, mAn, Int.reduceToNat, Int32.reduceOfInt, Int64.reduceOfInt, Int.reduceAdd, swE, Nat.reduceDiv, Nat.reduceMod, Nat.reduceAdd, Nat.reduceMul, Nat.reduceEqDiff, Nat.reduceLeDiff, Nat.zero_le, List.length_nil, List.length_cons, Nat.zero_add, true_or, or_true, false_or, or_false, true_and, and_true, and_self, mb_01, mb_t, mb_f, pd1, h.1, nneg (show m < 2 ^ 31 by omega), ix120 (show n < 120 by omega), by_m w (show m < 8 by omega), pdm, true_implies, not_true_eq_false, not_false_eq_true, false_implies, and_true, true_and]
    rw [show mm_wI I 138 n (nI (by8 w m)) 127 12 = nI n by rw [mWI, if_neg (by decide)]; exact h.1, ← nI_succ]
    refine w_feed_loop m (apd T n (by8 w m)) (n + 1) _ (by omega) (by omega) (rm_app h (by omega) (by8_lt w m)) (fun I' r' f' => ?_)
    rw [show n + 1 + m = n + (m + 1) by omega] at r' ⊢
    refine k I' r' (fun c j h1 h2 => ?_)
    rw [f' c j h1 h2, mWI]
    by_cases q : c = 127
    · rw [if_pos q, if_neg (fun e => h1 ⟨q, e⟩), mWI, if_neg h2]
    · rw [if_neg q, mWI, if_neg h2]
end FE
