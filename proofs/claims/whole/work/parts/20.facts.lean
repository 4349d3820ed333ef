/-! RowGrader.Facts: leaves, as the bytecode has them -/
section FA
variable {z : mm_S} {d : Nat} {I : mm_I} {J : mm_J}
def fa_pair (a b : Int32) : Int32 := if a = b then -1 else if b ≤ a then a * (a - 1) / 2 + b else b * (b - 1) / 2 + a
theorem c_pair {a b : Int32} (Q : Option Value → mm_I → mm_J → Prop) : mm_call z (d + 1) 215 [.int a, .int b] I J Q = Q (some (.int (fa_pair a b))) I J := by
  refine mm_ev ?_ Q
  simp only [ce_215, bk_215, mmE, mmE0, mmH, mT, mR, mRf, mAl, mAs, mAz, mAn, Int.reduceToNat, Int32.reduceOfInt, Int64.reduceOfInt, Int.reduceAdd, swE, Nat.reduceDiv, Nat.reduceMod, Nat.reduceAdd, Nat.reduceMul, Nat.reduceEqDiff, Nat.reduceLeDiff, Nat.zero_le, List.length_nil, List.length_cons, Nat.zero_add, true_or, or_true, false_or, or_false, true_and, and_true, and_self, mb_01, mb_t, mb_f]
  grind [fa_pair]
def fa_ofPairs (base p q : Int32) : Int32 := if p < 0 ∨ q < 0 ∨ p = q then -1 else if q ≤ p then base + p * (p - 1) / 2 + q else base + q * (q - 1) / 2 + p
theorem c_ofPairs {a b c : Int32} (Q : Option Value → mm_I → mm_J → Prop) : mm_call z (d + 1) 216 [.int a, .int b, .int c] I J Q = Q (some (.int (fa_ofPairs a b c))) I J := by
  refine mm_ev ?_ Q
  simp only [ce_216, bk_216, mmE, mmE0, mmH, mT, mR, mRf, mAl, mAs, mAz, mAn, Int.reduceToNat, Int32.reduceOfInt, Int64.reduceOfInt, Int.reduceAdd, swE, Nat.reduceDiv, Nat.reduceMod, Nat.reduceAdd, Nat.reduceMul, Nat.reduceEqDiff, Nat.reduceLeDiff, Nat.zero_le, List.length_nil, List.length_cons, Nat.zero_add, true_or, or_true, false_or, or_false, true_and, and_true, and_self, mb_01, mb_t, mb_f]
  grind [fa_ofPairs]
def fa_ofMiddle (base m a b : Int32) : Int32 := if m = a ∨ m = b ∨ a = b then -1 else base + m * 21 + (if b ≤ a then a * (a - 1) / 2 + b else b * (b - 1) / 2 + a)
theorem c_ofMiddle {a b c e : Int32} (Q : Option Value → mm_I → mm_J → Prop) : mm_call z (d + 1) 217 [.int a, .int b, .int c, .int e] I J Q = Q (some (.int (fa_ofMiddle a b c e))) I J := by
  refine mm_ev ?_ Q
  simp only [ce_217, bk_217, mmE, mmE0, mmH, mT, mR, mRf, mAl, mAs, mAz, mAn, Int.reduceToNat, Int32.reduceOfInt, Int64.reduceOfInt, Int.reduceAdd, swE, Nat.reduceDiv, Nat.reduceMod, Nat.reduceAdd, Nat.reduceMul, Nat.reduceEqDiff, Nat.reduceLeDiff, Nat.zero_le, List.length_nil, List.length_cons, Nat.zero_add, true_or, or_true, false_or, or_false, true_and, and_true, and_self, mb_01, mb_t, mb_f]
  grind [fa_ofMiddle]
def fa_ofLine (a b c : Int32) : Int32 := if a = b ∨ a = c ∨ b = c then -1 else (0 : Int32) + ((1 : Int32) <<< (a &&& 31) ||| (1 : Int32) <<< (b &&& 31) ||| (1 : Int32) <<< (c &&& 31))
theorem c_ofLine {a b c : Int32} (Q : Option Value → mm_I → mm_J → Prop) : mm_call z (d + 1) 214 [.int a, .int b, .int c] I J Q = Q (some (.int (fa_ofLine a b c))) I J := by
  refine mm_ev ?_ Q
  simp only [ce_214, bk_214, mmE, mmE0, mmH, mT, mR, mRf, mAl, mAs, mAz, mAn, Int.reduceToNat, Int32.reduceOfInt, Int64.reduceOfInt, Int.reduceAdd, swE, Nat.reduceDiv, Nat.reduceMod, Nat.reduceAdd, Nat.reduceMul, Nat.reduceEqDiff, Nat.reduceLeDiff, Nat.zero_le, List.length_nil, List.length_cons, Nat.zero_add, true_or, or_true, false_or, or_false, true_and, and_true, and_self, mb_01, mb_t, mb_f]
  grind [fa_ofLine]
def fa_ofCircle (a b c d : Int32) : Int32 := if a = b ∨ a = c ∨ a = d ∨ b = c ∨ b = d ∨ c = d then -1 else (905 : Int32) + ((1 : Int32) <<< (a &&& 31) ||| (1 : Int32) <<< (b &&& 31) ||| (1 : Int32) <<< (c &&& 31) ||| (1 : Int32) <<< (d &&& 31))
theorem c_ofCircle {a b c e : Int32} (Q : Option Value → mm_I → mm_J → Prop) : mm_call z (d + 1) 218 [.int a, .int b, .int c, .int e] I J Q = Q (some (.int (fa_ofCircle a b c e))) I J := by
  refine mm_ev ?_ Q
  simp only [ce_218, bk_218, mmE, mmE0, mmH, mT, mR, mRf, mAl, mAs, mAz, mAn, Int.reduceToNat, Int32.reduceOfInt, Int64.reduceOfInt, Int.reduceAdd, swE, Nat.reduceDiv, Nat.reduceMod, Nat.reduceAdd, Nat.reduceMul, Nat.reduceEqDiff, Nat.reduceLeDiff, Nat.zero_le, List.length_nil, List.length_cons, Nat.zero_add, true_or, or_true, false_or, or_false, true_and, and_true, and_self, mb_01, mb_t, mb_f]
  grind [fa_ofCircle]
def fa_number (k a b c d : Int32) : Int32 := if k = 0 then fa_ofLine a b c else if k = 1 then fa_ofPairs 128 (fa_pair a b) (fa_pair c d) else if k = 2 then fa_ofPairs 338 (fa_pair a b) (fa_pair c d) else if k = 3 then fa_ofPairs 548 (fa_pair a b) (fa_pair c d) else if k = 4 then fa_ofMiddle 758 a b c else if k = 5 then fa_ofCircle a b c d else if k = 6 then fa_ofMiddle 1033 a b c else -1
theorem c_number {k a b c e : Int32} (Q : Option Value → mm_I → mm_J → Prop) : mm_call z (d + 2) 213 [.int k, .int a, .int b, .int c, .int e] I J Q = Q (some (.int (fa_number k a b c e))) I J := by
  refine mm_ev ?_ Q
  simp only [ce_213, bk_213, c_ofLine, c_ofPairs, c_pair, c_ofMiddle, c_ofCircle, mmE, mmE0, mmH, mT, mR, mRf, mAl, mAs, mAz, mAn, Int.reduceToNat, Int32.reduceOfInt, Int64.reduceOfInt, Int.reduceAdd, swE, Nat.reduceDiv, Nat.reduceMod, Nat.reduceAdd, Nat.reduceMul, Nat.reduceEqDiff, Nat.reduceLeDiff, Nat.zero_le, List.length_nil, List.length_cons, Nat.zero_add, true_or, or_true, false_or, or_false, true_and, and_true, and_self, mb_01, mb_t, mb_f]
  grind [fa_number]
def fa_pointsOf (k : Int32) : Int32 := if k = 0 ∨ k = 4 ∨ k = 6 then 3 else 4
theorem c_pointsOf {k : Int32} (Q : Option Value → mm_I → mm_J → Prop) : mm_call z (d + 1) 204 [.int k] I J Q = Q (some (.int (fa_pointsOf k))) I J := by
  refine mm_ev ?_ Q
  simp only [ce_204, bk_204, mmE, mmE0, mmH, mT, mR, mRf, mAl, mAs, mAz, mAn, Int.reduceToNat, Int32.reduceOfInt, Int64.reduceOfInt, Int.reduceAdd, swE, Nat.reduceDiv, Nat.reduceMod, Nat.reduceAdd, Nat.reduceMul, Nat.reduceEqDiff, Nat.reduceLeDiff, Nat.zero_le, List.length_nil, List.length_cons, Nat.zero_add, true_or, or_true, false_or, or_false, true_and, and_true, and_self, mb_01, mb_t, mb_f]
  grind [fa_pointsOf]
def fa_kindOf (f : Int32) : Int32 := if ¬ 128 ≤ f then 0 else if ¬ 338 ≤ f then 1 else if ¬ 548 ≤ f then 2 else if ¬ 758 ≤ f then 3 else if ¬ 905 ≤ f then 4 else if ¬ 1033 ≤ f then 5 else 6
theorem c_kindOf {k : Int32} (Q : Option Value → mm_I → mm_J → Prop) : mm_call z (d + 1) 203 [.int k] I J Q = Q (some (.int (fa_kindOf k))) I J := by
  refine mm_ev ?_ Q
  simp only [ce_203, bk_203, mmE, mmE0, mmH, mT, mR, mRf, mAl, mAs, mAz, mAn, Int.reduceToNat, Int32.reduceOfInt, Int64.reduceOfInt, Int.reduceAdd, swE, Nat.reduceDiv, Nat.reduceMod, Nat.reduceAdd, Nat.reduceMul, Nat.reduceEqDiff, Nat.reduceLeDiff, Nat.zero_le, List.length_nil, List.length_cons, Nat.zero_add, true_or, or_true, false_or, or_false, true_and, and_true, and_self, mb_01, mb_t, mb_f]
  grind [fa_kindOf]
def fa_low (p : Int32) : Int32 := if p < 0 ∨ 21 ≤ p then 0 else mm_ro 1001 p.toNatClampNeg
def fa_high (p : Int32) : Int32 := if p < 0 ∨ 21 ≤ p then 0 else mm_ro 1002 p.toNatClampNeg
/-- an index that was looked at -/
theorem ix_in {x M : Int32} (n : Nat) (hn : n < 2 ^ 31) (hM : M = nI n) (h0 : ¬ x < 0) (h : ¬ M ≤ x) : vp_in x n := by
  subst hM
  rcases pk_ix x hn with q | q | ⟨j, q1, rfl⟩
  · exact absurd q h0
  · exact absurd q h
  · exact vp_in_nI q1 hn
theorem ix_lt {x M : Int32} (n : Nat) (hn : n < 2 ^ 31) (hM : M = nI n) (h0 : ¬ x < 0) (h : x < M) : vp_in x n := ix_in n hn hM h0 (fun q => by
  have h1 := Int32.lt_iff_toInt_lt.mp h
  have h2 := Int32.le_iff_toInt_le.mp q
  omega)
theorem ix_le {x M : Int32} (n : Nat) (hn : n + 1 < 2 ^ 31) (hM : M = nI n) (h0 : ¬ x < 0) (h : x ≤ M) : vp_in x (n + 1) := by
  refine ix_in (n + 1) (by omega) rfl h0 (fun q => ?_)
  subst hM
  have h1 := Int32.le_iff_toInt_le.mp q
  have h2 := Int32.le_iff_toInt_le.mp h
  rw [nI_toInt (by omega)] at h1 h2
  omega
theorem c_low {p : Int32} (Q : Option Value → mm_I → mm_J → Prop) : mm_call z (d + 1) 208 [.int p] I J Q = Q (some (.int (fa_low p))) I J := by
  refine mm_ev ?_ Q
  simp only [ce_208, bk_208, mmE, mmE0, mmH, mT, mR, mRf, mAl, mAs, mAz, mAn, Int.reduceToNat, Int32.reduceOfInt, Int64.reduceOfInt, Int.reduceAdd, swE, Nat.reduceDiv, Nat.reduceMod, Nat.reduceAdd, Nat.reduceMul, Nat.reduceEqDiff, Nat.reduceLeDiff, Nat.zero_le, List.length_nil, List.length_cons, Nat.zero_add, true_or, or_true, false_or, or_false, true_and, and_true, and_self, mb_01, mb_t, mb_f]
  have := @ix_in p 21 21 (by decide) rfl
  have := @ix_lt p 21 21 (by decide) rfl
  grind [fa_low]
theorem c_high {p : Int32} (Q : Option Value → mm_I → mm_J → Prop) : mm_call z (d + 1) 209 [.int p] I J Q = Q (some (.int (fa_high p))) I J := by
  refine mm_ev ?_ Q
  simp only [ce_209, bk_209, mmE, mmE0, mmH, mT, mR, mRf, mAl, mAs, mAz, mAn, Int.reduceToNat, Int32.reduceOfInt, Int64.reduceOfInt, Int.reduceAdd, swE, Nat.reduceDiv, Nat.reduceMod, Nat.reduceAdd, Nat.reduceMul, Nat.reduceEqDiff, Nat.reduceLeDiff, Nat.zero_le, List.length_nil, List.length_cons, Nat.zero_add, true_or, or_true, false_or, or_false, true_and, and_true, and_self, mb_01, mb_t, mb_f]
  have := @ix_in p 21 21 (by decide) rfl
  have := @ix_lt p 21 21 (by decide) rfl
  grind [fa_high]
def fa_lessPair (f g : Int32) : Int32 := (f - 128) - (f - 128) / 210 * 210 - g * (g - 1) / 2
theorem c_lessPair {f g : Int32} (Q : Option Value → mm_I → mm_J → Prop) : mm_call z (d + 1) 212 [.int f, .int g] I J Q = Q (some (.int (fa_lessPair f g))) I J := by
  refine mm_ev ?_ Q
  simp only [ce_212, bk_212, mmE, mmE0, mmH, mT, mR, mRf, mAl, mAs, mAz, mAn, Int.reduceToNat, Int32.reduceOfInt, Int64.reduceOfInt, Int.reduceAdd, swE, Nat.reduceDiv, Nat.reduceMod, Nat.reduceAdd, Nat.reduceMul, Nat.reduceEqDiff, Nat.reduceLeDiff, Nat.zero_le, List.length_nil, List.length_cons, Nat.zero_add, true_or, or_true, false_or, or_false, true_and, and_true, and_self, mb_01, mb_t, mb_f]
  grind [fa_lessPair]
end FA
/-! the same over numbers: none is NO -/
def eI (o : Option Nat) : Int32 := match o with
  | none => -1
  | some n => nI n
def n_pair (a b : Nat) : Option Nat := if a = b then none else if b ≤ a then some (a * (a - 1) / 2 + b) else some (b * (b - 1) / 2 + a)
def n_ofPairs (base : Nat) (p q : Option Nat) : Option Nat := match p, q with
  | some p, some q => if p = q then none else if q ≤ p then some (base + p * (p - 1) / 2 + q) else some (base + q * (q - 1) / 2 + p)
  | _, _ => none
def n_ofMiddle (base m a b : Nat) : Option Nat := if m = a ∨ m = b ∨ a = b then none else some (base + m * 21 + (if b ≤ a then a * (a - 1) / 2 + b else b * (b - 1) / 2 + a))
def n_ofLine (a b c : Nat) : Option Nat := if a = b ∨ a = c ∨ b = c then none else some (2 ^ a + 2 ^ b + 2 ^ c)
def n_ofCircle (a b c d : Nat) : Option Nat := if a = b ∨ a = c ∨ a = d ∨ b = c ∨ b = d ∨ c = d then none else some (905 + (2 ^ a + 2 ^ b + 2 ^ c + 2 ^ d))
def n_number (k a b c d : Nat) : Option Nat := if k = 0 then n_ofLine a b c else if k = 1 then n_ofPairs 128 (n_pair a b) (n_pair c d) else if k = 2 then n_ofPairs 338 (n_pair a b) (n_pair c d) else if k = 3 then n_ofPairs 548 (n_pair a b) (n_pair c d) else if k = 4 then n_ofMiddle 758 a b c else if k = 5 then n_ofCircle a b c d else if k = 6 then n_ofMiddle 1033 a b c else none
theorem b7 {P : Nat → Nat → Prop} [∀ a b, Decidable (P a b)] (h : ((List.range 7).all fun a => (List.range 7).all fun b => decide (P a b)) = true) {a b : Nat} (ha : a < 7) (hb : b < 7) : P a b := by
  have h1 := List.all_eq_true.mp (List.all_eq_true.mp h a (List.mem_range.mpr ha)) b (List.mem_range.mpr hb)
  simpa using h1
theorem fa_pair_n {a b : Nat} (ha : a < 7) (hb : b < 7) : fa_pair (nI a) (nI b) = eI (n_pair a b) := by
  have h : ∀ a, a < 7 → ∀ b, b < 7 → fa_pair (nI a) (nI b) = eI (n_pair a b) := by decide +kernel
  exact h a ha b hb
theorem n_pair_lt {a b n p : Nat} (ha : a < n) (hb : b < n) (h : n_pair a b = some p) : p < n * (n - 1) / 2 := by
  have key : ∀ x y : Nat, y < x → x < n → x * (x - 1) / 2 + y < n * (n - 1) / 2 := by
    intro x y hy hx
    have h1 : x * (x - 1) / 2 + x = (x + 1) * x / 2 := by
      have : (x + 1) * x = x * (x - 1) + 2 * x := by
        cases x with
        | zero => rfl
        | succ x => simp [Nat.mul_add, Nat.add_mul]; omega
      omega
    have h2 : (x + 1) * x ≤ n * (n - 1) := Nat.mul_le_mul (by omega) (by omega)
    have h3 : (x + 1) * x / 2 ≤ n * (n - 1) / 2 := Nat.div_le_div_right h2
    omega
  unfold n_pair at h
  split at h
  · cases h
  · split at h
    · cases h
      exact key a b (by omega) ha
    · cases h
      exact key b a (by omega) hb
theorem fa_ofPairs_n {base : Nat} (hbase : base = 128 ∨ base = 338 ∨ base = 548) {p q : Option Nat} (hp : ∀ x, p = some x → x < 21) (hq : ∀ x, q = some x → x < 21) : fa_ofPairs (nI base) (eI p) (eI q) = eI (n_ofPairs base p q) := by
  have h : ∀ b ∈ [128, 338, 548], ∀ p, p < 21 → ∀ q, q < 21 → fa_ofPairs (nI b) (nI p) (nI q) = eI (n_ofPairs b (some p) (some q)) := by decide +kernel
  have hm : ∀ b ∈ [128, 338, 548], ∀ p, p < 21 → fa_ofPairs (nI b) (-1) (nI p) = -1 ∧ fa_ofPairs (nI b) (nI p) (-1) = -1 ∧ fa_ofPairs (nI b) (-1) (-1) = -1 := by decide +kernel
  have hb : base ∈ [128, 338, 548] := by rcases hbase with rfl | rfl | rfl <;> simp
  cases p with
  | none =>
    cases q with
    | none => exact (hm base hb 0 (by decide)).2.2
    | some q => exact (hm base hb q (hq q rfl)).1
  | some p =>
    cases q with
    | none => exact (hm base hb p (hp p rfl)).2.1
    | some q => exact h base hb p (hp p rfl) q (hq q rfl)
theorem fa_ofMiddle_n {base : Nat} (hbase : base = 758 ∨ base = 1033) {m a b : Nat} (hm : m < 7) (ha : a < 7) (hb : b < 7) : fa_ofMiddle (nI base) (nI m) (nI a) (nI b) = eI (n_ofMiddle base m a b) := by
  have h : ∀ e ∈ [758, 1033], ∀ m, m < 7 → ∀ a, a < 7 → ∀ b, b < 7 → fa_ofMiddle (nI e) (nI m) (nI a) (nI b) = eI (n_ofMiddle e m a b) := by decide +kernel
  exact h base (by rcases hbase with rfl | rfl <;> simp) m hm a ha b hb
theorem fa_ofLine_n {a b c : Nat} (ha : a < 7) (hb : b < 7) (hc : c < 7) : fa_ofLine (nI a) (nI b) (nI c) = eI (n_ofLine a b c) := by
  have h : ∀ a, a < 7 → ∀ b, b < 7 → ∀ c, c < 7 → fa_ofLine (nI a) (nI b) (nI c) = eI (n_ofLine a b c) := by decide +kernel
  exact h a ha b hb c hc
set_option maxRecDepth 20000 in
theorem fa_ofCircle_n {a b c d : Nat} (ha : a < 7) (hb : b < 7) (hc : c < 7) (hd : d < 7) : fa_ofCircle (nI a) (nI b) (nI c) (nI d) = eI (n_ofCircle a b c d) := by
  have h : ∀ a, a < 7 → ∀ b, b < 7 → ∀ c, c < 7 → ∀ d, d < 7 → fa_ofCircle (nI a) (nI b) (nI c) (nI d) = eI (n_ofCircle a b c d) := by decide +kernel
  exact h a ha b hb c hc d hd
theorem fa_number_n {k a b c d : Nat} (hk : k < 7) (ha : a < 7) (hb : b < 7) (hc : c < 7) (hd : d < 7) : fa_number (nI k) (nI a) (nI b) (nI c) (nI d) = eI (n_number k a b c d) := by
  have hp : ∀ {x y : Nat}, x < 7 → y < 7 → ∀ w, n_pair x y = some w → w < 21 := fun hx hy w h => n_pair_lt hx hy h
  unfold fa_number n_number
  rcases (show k = 0 ∨ k = 1 ∨ k = 2 ∨ k = 3 ∨ k = 4 ∨ k = 5 ∨ k = 6 by omega) with rfl | rfl | rfl | rfl | rfl | rfl | rfl
  · exact fa_ofLine_n ha hb hc
  · rw [fa_pair_n ha hb, fa_pair_n hc hd]
    exact fa_ofPairs_n (Or.inl rfl) (hp ha hb) (hp hc hd)
  · rw [fa_pair_n ha hb, fa_pair_n hc hd]
    exact fa_ofPairs_n (Or.inr (Or.inl rfl)) (hp ha hb) (hp hc hd)
  · rw [fa_pair_n ha hb, fa_pair_n hc hd]
    exact fa_ofPairs_n (Or.inr (Or.inr rfl)) (hp ha hb) (hp hc hd)
  · exact fa_ofMiddle_n (Or.inl rfl) ha hb hc
  · exact fa_ofCircle_n ha hb hc hd
  · exact fa_ofMiddle_n (Or.inr rfl) ha hb hc
