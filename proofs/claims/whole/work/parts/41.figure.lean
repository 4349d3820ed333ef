/-! figures: places and a mask of the points that have one -/
abbrev fg_T : Type := (Nat → Int32) × (Nat → Int32) × Nat
def fg_has (F : fg_T) (p : Nat) : Bool := F.2.2 / 2 ^ p % 2 == 1
def fg_cross (F : fg_T) (a b c d : Nat) : Int64 := (F.1 b - F.1 a).toInt64 * (F.2.1 d - F.2.1 c).toInt64 - (F.2.1 b - F.2.1 a).toInt64 * (F.1 d - F.1 c).toInt64
def fg_dot (F : fg_T) (a b c d : Nat) : Int64 := (F.1 b - F.1 a).toInt64 * (F.1 d - F.1 c).toInt64 + (F.2.1 b - F.2.1 a).toInt64 * (F.2.1 d - F.2.1 c).toInt64
def fg_circ (F : fg_T) (a b c d : Nat) : Bool := !(fg_cross F d b d c == 0 || fg_cross F d c d a == 0 || fg_cross F d a d b == 0 || fg_cross F a b a c == 0) && fg_dot F d a d a * fg_cross F d b d c + fg_dot F d b d b * fg_cross F d c d a + fg_dot F d c d c * fg_cross F d a d b == 0
/-- whether it is so of the places of four points; the fourth is the third where there are three -/
def fg_so (F : fg_T) (k a b c d : Nat) : Bool := if k = 0 then fg_cross F a b a c == 0 else if k = 1 then fg_cross F a b c d == 0 else if k = 2 then fg_dot F a b c d == 0 else if k = 3 then fg_dot F a b a b == fg_dot F c d c d else if k = 4 then F.1 a + F.1 a == F.1 b + F.1 c && F.2.1 a + F.2.1 a == F.2.1 b + F.2.1 c else if k = 5 then fg_circ F a b c d else fg_cross F a b a c == 0 && decide (fg_dot F a b a c < 0)
def fg_all (F : fg_T) (f : Nat) : Bool := (List.range (kdN (kd f))).all fun i => fg_has F (pt f i)
def fg_shows (F : fg_T) (f : Nat) : Bool := fg_all F f && fg_so F (kd f) (pt f 0) (pt f 1) (pt f 2) (if kdN (kd f) = 4 then pt f 3 else pt f 2)
def fg_ap1 (F : fg_T) (p : Nat) : Bool := fg_has F p && (List.range p).all fun q => !(F.1 p == F.1 q && F.2.1 p == F.2.1 q)
def fg_apart (F : fg_T) (n : Nat) : Bool := (List.range n).all (fg_ap1 F)
def rg_fig (I : mm_I) (f : Nat) (F : fg_T) : Prop := (∀ p, p < 7 → I (86 + 3 * f + 1) p = F.1 p) ∧ (∀ p, p < 7 → I (86 + 3 * f + 2) p = F.2.1 p) ∧ I (86 + 3 * f) 2 = nI F.2.2 ∧ F.2.2 < 128
section FG
variable {z : mm_S} {d : Nat} {I : mm_I} {J : mm_J} {f : Nat} {F : fg_T}
theorem in7 {p : Nat} (hp : p < 7) : (nI p < 0) = False ∧ (7 ≤ nI p) = False ∧ (nI p < 7) = True ∧ vp_in (nI p) 7 = True ∧ (nI p).toNatClampNeg = p := ⟨nneg (by omega), eq_false (nI_ge (b := 7) hp (by decide)), eq_true (nI_lt (b := 7) hp (by decide)), eq_true (vp_in_nI hp (by decide)), nI_clamp (by omega)⟩
theorem c_has {p : Nat} (hf : f < 6) (hp : p < 7) (h : rg_fig I f F) (Q : Option Value → mm_I → mm_J → Prop) : mm_call z (d + 1) 1 [.ref (86 + 3 * f), .int (nI p)] I J Q = Q (some (.int (mb (fg_has F p)))) I J := by
  refine mm_ev ?_ Q
  simp only [ce_1, bk_1, mmE, mmE0, mmH, mT, mR, mRf, mAl, mAs, mAz, mAn, Int.reduceToNat, Int32.reduceOfInt, Int64.reduceOfInt, Int.reduceAdd, swE, Nat.reduceDiv, Nat.reduceMod, Nat.reduceAdd, Nat.reduceMul, Nat.reduceEqDiff, Nat.reduceLeDiff, Nat.zero_le, List.length_nil, List.length_cons, Nat.zero_add, true_or, or_true, false_or, or_false, true_and, and_true, and_self, mb_01, mb_t, mb_f, in7 hp, (mTf f hf).1, h.2.2.1, bit_get h.2.2.2 hp]
  unfold fg_has
  have e : (nI (F.2.2 / 2 ^ p % 2) = 1) = (F.2.2 / 2 ^ p % 2 = 1) := eq_nI (b := 1) (by omega) (by omega)
  have z0 : ((0 : Int32) = 0 ∨ (0 : Int32) = 1) = True := by decide
  have z1 : ((1 : Int32) = 0 ∨ (1 : Int32) = 1) = True := by decide
  simp only [e, z0, z1]
  by_cases q : F.2.2 / 2 ^ p % 2 = 1 <;> simp [q, mb]
theorem c_x {p : Nat} (hf : f < 6) (hp : p < 7) (h : rg_fig I f F) (Q : Option Value → mm_I → mm_J → Prop) : mm_call z (d + 1) 2 [.ref (86 + 3 * f), .int (nI p)] I J Q = Q (some (.int (F.1 p))) I J := by
  refine mm_ev ?_ Q
  simp only [ce_2, bk_2, mmE, mmE0, mmH, mT, mR, mRf, mAl, mAs, mAz, mAn, Int.reduceToNat, Int32.reduceOfInt, Int64.reduceOfInt, Int.reduceAdd, swE, Nat.reduceDiv, Nat.reduceMod, Nat.reduceAdd, Nat.reduceMul, Nat.reduceEqDiff, Nat.reduceLeDiff, Nat.zero_le, List.length_nil, List.length_cons, Nat.zero_add, true_or, or_true, false_or, or_false, true_and, and_true, and_self, mb_01, mb_t, mb_f, in7 hp, mTf f hf, h.1 p hp, false_implies, not_false_eq_true, not_true_eq_false, true_implies]
theorem c_y {p : Nat} (hf : f < 6) (hp : p < 7) (h : rg_fig I f F) (Q : Option Value → mm_I → mm_J → Prop) : mm_call z (d + 1) 3 [.ref (86 + 3 * f), .int (nI p)] I J Q = Q (some (.int (F.2.1 p))) I J := by
  refine mm_ev ?_ Q
  simp only [ce_3, bk_3, mmE, mmE0, mmH, mT, mR, mRf, mAl, mAs, mAz, mAn, Int.reduceToNat, Int32.reduceOfInt, Int64.reduceOfInt, Int.reduceAdd, swE, Nat.reduceDiv, Nat.reduceMod, Nat.reduceAdd, Nat.reduceMul, Nat.reduceEqDiff, Nat.reduceLeDiff, Nat.zero_le, List.length_nil, List.length_cons, Nat.zero_add, true_or, or_true, false_or, or_false, true_and, and_true, and_self, mb_01, mb_t, mb_f, in7 hp, mTf f hf, h.2.1 p hp, false_implies, not_false_eq_true, not_true_eq_false, true_implies]
theorem c_cross {a b c e : Nat} (hf : f < 6) (ha : a < 7) (hb : b < 7) (hc : c < 7) (he : e < 7) (h : rg_fig I f F) (Q : Option Value → mm_I → mm_J → Prop) : mm_call z (d + 2) 6 [.ref (86 + 3 * f), .int (nI a), .int (nI b), .int (nI c), .int (nI e)] I J Q = Q (some (.long (fg_cross F a b c e))) I J := by
  refine mm_ev ?_ Q
  simp only [ce_6, bk_6, mmE, mmE0, mmH, mT, mR, mRf, mAl, mAs, mAz, mAn, Int.reduceToNat, Int32.reduceOfInt, Int64.reduceOfInt, Int.reduceAdd, swE, Nat.reduceDiv, Nat.reduceMod, Nat.reduceAdd, Nat.reduceMul, Nat.reduceEqDiff, Nat.reduceLeDiff, Nat.zero_le, List.length_nil, List.length_cons, Nat.zero_add, true_or, or_true, false_or, or_false, true_and, and_true, and_self, mb_01, mb_t, mb_f, mTf f hf, c_x hf ha h, c_x hf hb h, c_x hf hc h, c_x hf he h, c_y hf ha h, c_y hf hb h, c_y hf hc h, c_y hf he h]
  simp only [fg_cross]
theorem c_dot {a b c e : Nat} (hf : f < 6) (ha : a < 7) (hb : b < 7) (hc : c < 7) (he : e < 7) (h : rg_fig I f F) (Q : Option Value → mm_I → mm_J → Prop) : mm_call z (d + 2) 7 [.ref (86 + 3 * f), .int (nI a), .int (nI b), .int (nI c), .int (nI e)] I J Q = Q (some (.long (fg_dot F a b c e))) I J := by
  refine mm_ev ?_ Q
  simp only [ce_7, bk_7, mmE, mmE0, mmH, mT, mR, mRf, mAl, mAs, mAz, mAn, Int.reduceToNat, Int32.reduceOfInt, Int64.reduceOfInt, Int.reduceAdd, swE, Nat.reduceDiv, Nat.reduceMod, Nat.reduceAdd, Nat.reduceMul, Nat.reduceEqDiff, Nat.reduceLeDiff, Nat.zero_le, List.length_nil, List.length_cons, Nat.zero_add, true_or, or_true, false_or, or_false, true_and, and_true, and_self, mb_01, mb_t, mb_f, mTf f hf, c_x hf ha h, c_x hf hb h, c_x hf hc h, c_x hf he h, c_y hf ha h, c_y hf hb h, c_y hf hc h, c_y hf he h]
  simp only [fg_dot]
theorem lc_ne {x y : Int64} : (lg_cmp x y = 0) = (x = y) := by
  unfold lg_cmp
  apply propext
  by_cases h : x > y
  · rw [if_pos h]
    exact ⟨fun q => absurd q (by decide), fun q => by subst q; exact absurd h (fun q => Int64.lt_irrefl q)⟩
  · rw [if_neg h]
    by_cases h2 : x = y
    · rw [if_pos h2]
      exact ⟨fun _ => h2, fun _ => rfl⟩
    · rw [if_neg h2]
      exact ⟨fun q => absurd q (by decide), fun q => absurd q h2⟩
theorem lc_ge {x y : Int64} : (0 ≤ lg_cmp x y) = ¬ (x < y) := by
  unfold lg_cmp
  apply propext
  by_cases h : x > y
  · rw [if_pos h]
    exact ⟨fun _ q => by rw [gt_iff_lt, Int64.lt_iff_toInt_lt] at h; rw [Int64.lt_iff_toInt_lt] at q; omega, fun _ => by decide⟩
  · rw [if_neg h]
    by_cases h2 : x = y
    · rw [if_pos h2]
      subst h2
      exact ⟨fun _ q => Int64.lt_irrefl q, fun _ => by decide⟩
    · rw [if_neg h2]
      refine ⟨fun q => absurd q (by decide), fun q => ?_⟩
      rw [gt_iff_lt, Int64.lt_iff_toInt_lt] at h
      rw [Int64.lt_iff_toInt_lt] at q
      exact absurd (Int64.toInt_inj.mp (by omega)) h2
theorem z01 : ((0 : Int32) = 0 ∨ (0 : Int32) = 1) = True ∧ ((1 : Int32) = 0 ∨ (1 : Int32) = 1) = True := by decide
theorem lz0 : (Int64.ofInt 0) = 0 := rfl
theorem c_onCircle {a b c e : Nat} (hf : f < 6) (ha : a < 7) (hb : b < 7) (hc : c < 7) (he : e < 7) (h : rg_fig I f F) (Q : Option Value → mm_I → mm_J → Prop) : mm_call z (d + 3) 8 [.ref (86 + 3 * f), .int (nI a), .int (nI b), .int (nI c), .int (nI e)] I J Q = Q (some (.int (mb (fg_circ F a b c e)))) I J := by
  refine mm_ev ?_ Q
  simp only [ce_8, bk_8, mmE, mmE0, mmH, mT, mR, mRf, mAl, mAs, mAz, mAn, Int.reduceToNat, Int32.reduceOfInt, Int64.reduceOfInt, Int.reduceAdd, swE, Nat.reduceDiv, Nat.reduceMod, Nat.reduceAdd, Nat.reduceMul, Nat.reduceEqDiff, Nat.reduceLeDiff, Nat.zero_le, List.length_nil, List.length_cons, Nat.zero_add, true_or, or_true, false_or, or_false, true_and, and_true, and_self, mb_01, mb_t, mb_f, mTf f hf, c_cross hf he hb he hc h, c_cross hf he hc he ha h, c_cross hf he ha he hb h, c_cross hf ha hb ha hc h, c_dot hf he ha he ha h, c_dot hf he hb he hb h, c_dot hf he hc he hc h, lc_ne, z01, lz0]
  unfold fg_circ
  by_cases h1 : fg_cross F e b e c = 0
  · simp [h1, mb]
  by_cases h2 : fg_cross F e c e a = 0
  · simp [h1, h2, mb]
  by_cases h3 : fg_cross F e a e b = 0
  · simp [h1, h2, h3, mb]
  by_cases h4 : fg_cross F a b a c = 0
  · simp [h1, h2, h3, h4, mb]
  by_cases h5 : fg_dot F e a e a * fg_cross F e b e c + fg_dot F e b e b * fg_cross F e c e a + fg_dot F e c e c * fg_cross F e a e b = 0
  · simp [h1, h2, h3, h4, h5, mb]
  · simp [h1, h2, h3, h4, h5, mb]
/-- allApart, inner loop -/
theorem w_apart_in {n p : Nat} {Q : Option Value → mm_I → mm_J → Prop} (hf : f < 6) (hp : p < 7) (h : rg_fig I f F) : ∀ (w q : Nat), q + w = p → (((List.range' q w).all fun q => !(F.1 p == F.1 q && F.2.1 p == F.2.1 q)) = false → Q (some (.int 0)) I J) → (((List.range' q w).all fun q => !(F.1 p == F.1 q && F.2.1 p == F.2.1 q)) = true → ∀ v, mm_at z (mm_call z (d + 1)) (mm_code 4) Q 58 [some (.ref (86 + 3 * f)), some (.int (nI n)), some (.int (nI p)), v] [] I J) → mm_at z (mm_call z (d + 1)) (mm_code 4) Q 19 [some (.ref (86 + 3 * f)), some (.int (nI n)), some (.int (nI p)), some (.int (nI q))] [] I J
  | 0, q, hq, _, k => by
    have hk := k rfl (some (.int (nI q)))
    rw [hk_4_19]
    have c1 : (nI p ≤ nI q) = True := by rw [le_nI (by omega) (by omega)]; exact eq_true (by omega)
    simp only [mmE, mmE0, mmH, mT, mR, mRf, mAl, mAs, mAz, mAn, Int.reduceToNat, Int32.reduceOfInt, Int64.reduceOfInt, Int.reduceAdd, swE, Nat.reduceDiv, Nat.reduceMod, Nat.reduceAdd, Nat.reduceMul, Nat.reduceEqDiff, Nat.reduceLeDiff, Nat.zero_le, List.length_nil, List.length_cons, Nat.zero_add, true_or, or_true, false_or, or_false, true_and, and_true, and_self, mb_01, mb_t, mb_f, c1, true_implies, not_true_eq_false, false_implies]
    exact hk
  | w + 1, q, hq, k0, k => by
    rw [hk_4_19]
    have c1 : (nI p ≤ nI q) = False := by rw [le_nI (by omega) (by omega)]; exact eq_false (by omega)
    have hq7 : q < 7 := by omega
    have ih := w_apart_in (n := n) (Q := Q) hf hp h w (q + 1) (by omega)
    rw [List.range'_succ, List.all_cons] at k0 k
    simp only [ce_4, bk_4, mmE, mmE0, mmH, mT, mR, mRf, mAl, mAs, mAz, mAn, Int.reduceToNat, Int32.reduceOfInt, Int64.reduceOfInt, Int.reduceAdd, swE, Nat.reduceDiv, Nat.reduceMod, Nat.reduceAdd, Nat.reduceMul, Nat.reduceEqDiff, Nat.reduceLeDiff, Nat.zero_le, List.length_nil, List.length_cons, Nat.zero_add, true_or, or_true, false_or, or_false, true_and, and_true, and_self, mb_01, mb_t, mb_f, c1, mTf f hf, c_x hf hp h, c_x hf hq7 h, c_y hf hp h, c_y hf hq7 h, z01, true_implies, not_true_eq_false, not_false_eq_true, false_implies]
    rw [nI_succ] at ih
    by_cases e1 : F.1 p = F.1 q
    · by_cases e2 : F.2.1 p = F.2.1 q
      · have hk := k0 (by simp [e1, e2])
        simp only [e1, e2, true_implies, not_true_eq_false, false_implies, true_and]
        exact hk
      · simp only [e1, e2, true_implies, not_true_eq_false, not_false_eq_true, false_implies, and_true, true_and]
        refine ih (fun g => k0 ?_) (fun g => k ?_)
        · rw [g]; simp
        · rw [g]; simp [e1, e2]
    · simp only [e1, true_implies, not_true_eq_false, not_false_eq_true, false_implies, and_true, true_and]
      refine ih (fun g => k0 ?_) (fun g => k ?_)
      · rw [g]; simp
      · rw [g]; simp [e1]
theorem w_apart_out {n : Nat} {Q : Option Value → mm_I → mm_J → Prop} (hf : f < 6) (hn : n ≤ 7) (h : rg_fig I f F) : ∀ (w p : Nat) (v : Option Value), p + w = n → Q (some (.int (mb ((List.range' p w).all (fg_ap1 F))))) I J → mm_at z (mm_call z (d + 1)) (mm_code 4) Q 2 [some (.ref (86 + 3 * f)), some (.int (nI n)), some (.int (nI p)), v] [] I J
  | 0, p, v, hp, k => by
    rw [hk_4_2]
    have c1 : (nI n ≤ nI p) = True := by rw [le_nI (by omega) (by omega)]; exact eq_true (by omega)
    simp only [ce_4, bk_4, mmE, mmE0, mmH, mT, mR, mRf, mAl, mAs, mAz, mAn, Int.reduceToNat, Int32.reduceOfInt, Int64.reduceOfInt, Int.reduceAdd, swE, Nat.reduceDiv, Nat.reduceMod, Nat.reduceAdd, Nat.reduceMul, Nat.reduceEqDiff, Nat.reduceLeDiff, Nat.zero_le, List.length_nil, List.length_cons, Nat.zero_add, true_or, or_true, false_or, or_false, true_and, and_true, and_self, mb_01, mb_t, mb_f, c1, true_implies, not_true_eq_false, false_implies, z01]
    exact k
  | w + 1, p, v, hp, k => by
    rw [hk_4_2]
    have c1 : (nI n ≤ nI p) = False := by rw [le_nI (by omega) (by omega)]; exact eq_false (by omega)
    have hp7 : p < 7 := by omega
    rw [List.range'_succ, List.all_cons] at k
    simp only [ce_4, bk_4, mmE, mmE0, mmH, mT, mR, mRf, mAl, mAs, mAz, mAn, Int.reduceToNat, Int32.reduceOfInt, Int64.reduceOfInt, Int.reduceAdd, swE, Nat.reduceDiv, Nat.reduceMod, Nat.reduceAdd, Nat.reduceMul, Nat.reduceEqDiff, Nat.reduceLeDiff, Nat.zero_le, List.length_nil, List.length_cons, Nat.zero_add, true_or, or_true, false_or, or_false, true_and, and_true, and_self, mb_01, mb_t, mb_f, c1, true_implies, not_true_eq_false, not_false_eq_true, false_implies, z01, c_has hf hp7 h, mTf f hf, mb_0]
    cases hh : fg_has F p with
    | false =>
      have e : fg_ap1 F p = false := by unfold fg_ap1; rw [hh]; rfl
      rw [e] at k
      simp only [mb, true_implies, not_true_eq_false, false_implies, and_true]
      exact ⟨trivial, k⟩
    | true =>
      have e : fg_ap1 F p = (List.range' 0 p).all fun q => !(F.1 p == F.1 q && F.2.1 p == F.2.1 q) := by unfold fg_ap1; rw [hh, List.range_eq_range']; rfl
      rw [e] at k
      simp only [Bool.true_eq_false, not_false_eq_true, true_implies, false_implies, and_true, true_and]
      refine w_apart_in (z := z) (d := d) hf hp7 h p 0 (by omega) (fun g => ?_) (fun g v => ?_)
      · rw [g] at k
        exact k
      · rw [g, Bool.true_and] at k
        have ih := w_apart_out (Q := Q) hf hn h w (p + 1) v (by omega) k
        rw [nI_succ] at ih
        simp only [ce_4, bk_4, mmE, mmE0, mmH, mT, mR, mRf, mAl, mAs, mAz, mAn, Int.reduceToNat, Int32.reduceOfInt, Int64.reduceOfInt, Int.reduceAdd, swE, Nat.reduceDiv, Nat.reduceMod, Nat.reduceAdd, Nat.reduceMul, Nat.reduceEqDiff, Nat.reduceLeDiff, Nat.zero_le, List.length_nil, List.length_cons, Nat.zero_add, true_or, or_true, false_or, or_false, true_and, and_true, and_self, mb_01, mb_t, mb_f]
        exact ih
theorem c_apart {n : Nat} (hf : f < 6) (hn : n ≤ 7) (h : rg_fig I f F) (Q : Option Value → mm_I → mm_J → Prop) : mm_call z (d + 2) 4 [.ref (86 + 3 * f), .int (nI n)] I J Q = Q (some (.int (mb (fg_apart F n)))) I J := by
  refine mm_ev ?_ Q
  simp only [ce_4, bk_4, mmE, mmE0, mmH, mT, mR, mRf, mAl, mAs, mAz, mAn, Int.reduceToNat, Int32.reduceOfInt, Int64.reduceOfInt, Int.reduceAdd, swE, Nat.reduceDiv, Nat.reduceMod, Nat.reduceAdd, Nat.reduceMul, Nat.reduceEqDiff, Nat.reduceLeDiff, Nat.zero_le, List.length_nil, List.length_cons, Nat.zero_add, true_or, or_true, false_or, or_false, true_and, and_true, and_self, mb_01, mb_t, mb_f]
  refine w_apart_out (z := z) (d := d) hf hn h n 0 _ (by omega) ?_
  unfold fg_apart
  rw [List.range_eq_range']
  exact ⟨rfl, rfl, rfl⟩
/-- shows, the loop: all its points have places -/
theorem w_shows_loop {g : Nat} {kk : Int32} {Q : Option Value → mm_I → mm_J → Prop} {o5 o6 o7 : Option Value} (hf : f < 6) (hg : isF g = true) (h : rg_fig I f F) : ∀ (w i : Nat), i + w = kdN (kd g) → (((List.range' i w).all fun i => fg_has F (pt g i)) = false → Q (some (.int 0)) I J) → (((List.range' i w).all fun i => fg_has F (pt g i)) = true → ∀ o4, mm_at z (mm_call z (d + 3)) (mm_code 5) Q 40 [some (.ref (86 + 3 * f)), some (.int (nI g)), some (.int kk), some (.int (nI (kdN (kd g)))), o4, o5, o6, o7] [] I J) → mm_at z (mm_call z (d + 3)) (mm_code 5) Q 13 [some (.ref (86 + 3 * f)), some (.int (nI g)), some (.int kk), some (.int (nI (kdN (kd g)))), some (.int (nI i)), o5, o6, o7] [] I J
  | 0, i, hi, _, k => by
    have hk := k rfl (some (.int (nI i)))
    have := kdN_le (kd g)
    rw [hk_5_13]
    have c1 : (nI (kdN (kd g)) ≤ nI i) = True := by rw [le_nI (by omega) (by omega)]; exact eq_true (by omega)
    simp only [mmE, mmE0, mmH, mT, mR, mRf, mAl, mAs, mAz, mAn, Int.reduceToNat, Int32.reduceOfInt, Int64.reduceOfInt, Int.reduceAdd, swE, Nat.reduceDiv, Nat.reduceMod, Nat.reduceAdd, Nat.reduceMul, Nat.reduceEqDiff, Nat.reduceLeDiff, Nat.zero_le, List.length_nil, List.length_cons, Nat.zero_add, true_or, or_true, false_or, or_false, true_and, and_true, and_self, mb_01, mb_t, mb_f, c1, true_implies, not_true_eq_false, false_implies]
    exact hk
  | w + 1, i, hi, k0, k => by
    have := kdN_le (kd g)
    rw [hk_5_13]
    have c1 : (nI (kdN (kd g)) ≤ nI i) = False := by rw [le_nI (by omega) (by omega)]; exact eq_false (by omega)
    have hik : i < kdN (kd g) := by omega
    have ih := w_shows_loop (kk := kk) (Q := Q) (o5 := o5) (o6 := o6) (o7 := o7) hf hg h w (i + 1) (by omega)
    rw [List.range'_succ, List.all_cons] at k0 k
    rw [nI_succ] at ih
    simp only [ce_5, bk_5, mmE, mmE0, mmH, mT, mR, mRf, mAl, mAs, mAz, mAn, Int.reduceToNat, Int32.reduceOfInt, Int64.reduceOfInt, Int.reduceAdd, swE, Nat.reduceDiv, Nat.reduceMod, Nat.reduceAdd, Nat.reduceMul, Nat.reduceEqDiff, Nat.reduceLeDiff, Nat.zero_le, List.length_nil, List.length_cons, Nat.zero_add, true_or, or_true, false_or, or_false, true_and, and_true, and_self, mb_01, mb_t, mb_f, c1, mTf f hf, c_pt hg hik, c_has hf (pt7 hg hik) h, z01, mb_0, true_implies, not_true_eq_false, not_false_eq_true, false_implies]
    cases hh : fg_has F (pt g i) with
    | false =>
      have hk := k0 (by rw [hh]; rfl)
      simp only [true_implies, not_true_eq_false, false_implies, true_and]
      exact hk
    | true =>
      simp only [Bool.true_eq_false, not_false_eq_true, true_implies, false_implies, and_true, true_and]
      refine ih (fun g => k0 ?_) (fun g => k ?_)
      · rw [g]; simp
      · rw [g, hh]; rfl
theorem mbd {p : Prop} [Decidable p] {Q : Int32 → Prop} : ((¬ p → Q 0) ∧ (p → Q 1)) = Q (mb (decide p)) := by
  by_cases h : p
  · simp [h, mb]
  · simp [h, mb]
theorem c_shows {g : Nat} (hf : f < 6) (hg : isF g = true) (h : rg_fig I f F) (Q : Option Value → mm_I → mm_J → Prop) : mm_call z (d + 4) 5 [.ref (86 + 3 * f), .int (nI g)] I J Q = Q (some (.int (mb (fg_shows F g)))) I J := by
  refine mm_ev ?_ Q
  have hlt := isF_lt hg
  have hk := kd_lt g
  have hk4 := kdN_le (kd g)
  have hk3 : 3 ≤ kdN (kd g) := by unfold kdN; split <;> omega
  simp only [ce_5, bk_5, mmE, mmE0, mmH, mT, mR, mRf, mAl, mAs, mAz, mAn, Int.reduceToNat, Int32.reduceOfInt, Int64.reduceOfInt, Int.reduceAdd, swE, Nat.reduceDiv, Nat.reduceMod, Nat.reduceAdd, Nat.reduceMul, Nat.reduceEqDiff, Nat.reduceLeDiff, Nat.zero_le, List.length_nil, List.length_cons, Nat.zero_add, true_or, or_true, false_or, or_false, true_and, and_true, and_self, mb_01, mb_t, mb_f, c_kindOf, c_pointsOf, kind_n hlt, pointsOf_n hk]
  refine w_shows_loop (z := z) (d := d) hf hg h (kdN (kd g)) 0 (by omega) (fun q => ?_) (fun q o4 => ?_)
  · rw [← List.range_eq_range'] at q
    have e : fg_shows F g = false := by unfold fg_shows fg_all; rw [q]; rfl
    rw [e]
    exact ⟨rfl, rfl, rfl⟩
  · rw [← List.range_eq_range'] at q
    have e : fg_shows F g = fg_so F (kd g) (pt g 0) (pt g 1) (pt g 2) (if kdN (kd g) = 4 then pt g 3 else pt g 2) := by unfold fg_shows fg_all; rw [q]; rfl
    rw [e]
    have p0 := pt7 hg (show 0 < kdN (kd g) by omega)
    have p1 := pt7 hg (show 1 < kdN (kd g) by omega)
    have p2 := pt7 hg (show 2 < kdN (kd g) by omega)
    have n0 := c_pt (z := z) (d := d) (I := I) (J := J) hg (show 0 < kdN (kd g) by omega)
    have n1 := c_pt (z := z) (d := d) (I := I) (J := J) hg (show 1 < kdN (kd g) by omega)
    have n2 := c_pt (z := z) (d := d) (I := I) (J := J) hg (show 2 < kdN (kd g) by omega)
    rw [show nI 0 = 0 from rfl] at n0
    rw [show nI 1 = 1 from rfl] at n1
    rw [show nI 2 = 2 from rfl] at n2
    simp only [ce_5, bk_5, mmE, mmE0, mmH, mT, mR, mRf, mAl, mAs, mAz, mAn, Int.reduceToNat, Int32.reduceOfInt, Int64.reduceOfInt, Int.reduceAdd, swE, Nat.reduceDiv, Nat.reduceMod, Nat.reduceAdd, Nat.reduceMul, Nat.reduceEqDiff, Nat.reduceLeDiff, Nat.zero_le, List.length_nil, List.length_cons, Nat.zero_add, true_or, or_true, false_or, or_false, true_and, and_true, and_self, mb_01, mb_t, mb_f, n0, n1, n2, nI_0]
    rcases (show kd g = 0 ∨ kd g = 1 ∨ kd g = 2 ∨ kd g = 3 ∨ kd g = 4 ∨ kd g = 5 ∨ kd g = 6 by omega) with e | e | e | e | e | e | e
    all_goals
      rw [e]
      have k3 : (nI 3 = 4) = False := by decide
      have k4 : (nI 4 = 4) = True := by decide
      have k6 : (nI 6 = 0) = False ∧ (nI 6 = 1) = False ∧ (nI 6 = 2) = False ∧ (nI 6 = 3) = False ∧ (nI 6 = 4) = False ∧ (nI 6 = 5) = False := by decide
    · have e4 : kdN 0 = 3 := rfl
      simp only [ce_5, bk_5, mmE, mmE0, mmH, mT, mR, mRf, mAl, mAs, mAz, mAn, Int.reduceToNat, Int32.reduceOfInt, Int64.reduceOfInt, Int.reduceAdd, swE, Nat.reduceDiv, Nat.reduceMod, Nat.reduceAdd, Nat.reduceMul, Nat.reduceEqDiff, Nat.reduceLeDiff, Nat.zero_le, List.length_nil, List.length_cons, Nat.zero_add, true_or, or_true, false_or, or_false, true_and, and_true, and_self, mb_01, mb_t, mb_f, e4, k3, nkE, mTf f hf, true_implies, not_true_eq_false, not_false_eq_true, false_implies, and_true, true_and, and_self, c_cross hf p0 p1 p0 p2 h, lc_ne, lz0, z01]
      by_cases hz : fg_cross F (pt g 0) (pt g 1) (pt g 0) (pt g 2) = 0 <;> simp [fg_so, hz, mb]
    · have e4 : kdN 1 = 4 := rfl
      have p3 := pt7 hg (show 3 < kdN (kd g) by rw [e]; decide)
      have n3 := c_pt (z := z) (d := d) (I := I) (J := J) hg (show 3 < kdN (kd g) by rw [e]; decide)
      rw [show nI 3 = 3 from rfl] at n3
      simp only [ce_5, bk_5, mmE, mmE0, mmH, mT, mR, mRf, mAl, mAs, mAz, mAn, Int.reduceToNat, Int32.reduceOfInt, Int64.reduceOfInt, Int.reduceAdd, swE, Nat.reduceDiv, Nat.reduceMod, Nat.reduceAdd, Nat.reduceMul, Nat.reduceEqDiff, Nat.reduceLeDiff, Nat.zero_le, List.length_nil, List.length_cons, Nat.zero_add, true_or, or_true, false_or, or_false, true_and, and_true, and_self, mb_01, mb_t, mb_f, e4, k4, n3, nkE, mTf f hf, if_true, true_implies, not_true_eq_false, not_false_eq_true, false_implies, and_true, true_and, and_self, c_cross hf p0 p1 p2 p3 h, lc_ne, lz0, z01]
      by_cases hz : fg_cross F (pt g 0) (pt g 1) (pt g 2) (pt g 3) = 0 <;> simp [fg_so, hz, mb]
    · have e4 : kdN 2 = 4 := rfl
      have p3 := pt7 hg (show 3 < kdN (kd g) by rw [e]; decide)
      have n3 := c_pt (z := z) (d := d) (I := I) (J := J) hg (show 3 < kdN (kd g) by rw [e]; decide)
      rw [show nI 3 = 3 from rfl] at n3
      simp only [ce_5, bk_5, mmE, mmE0, mmH, mT, mR, mRf, mAl, mAs, mAz, mAn, Int.reduceToNat, Int32.reduceOfInt, Int64.reduceOfInt, Int.reduceAdd, swE, Nat.reduceDiv, Nat.reduceMod, Nat.reduceAdd, Nat.reduceMul, Nat.reduceEqDiff, Nat.reduceLeDiff, Nat.zero_le, List.length_nil, List.length_cons, Nat.zero_add, true_or, or_true, false_or, or_false, true_and, and_true, and_self, mb_01, mb_t, mb_f, e4, k4, n3, nkE, mTf f hf, if_true, true_implies, not_true_eq_false, not_false_eq_true, false_implies, and_true, true_and, and_self, c_dot hf p0 p1 p2 p3 h, lc_ne, lz0, z01]
      by_cases hz : fg_dot F (pt g 0) (pt g 1) (pt g 2) (pt g 3) = 0 <;> simp [fg_so, hz, mb]
    · have e4 : kdN 3 = 4 := rfl
      have p3 := pt7 hg (show 3 < kdN (kd g) by rw [e]; decide)
      have n3 := c_pt (z := z) (d := d) (I := I) (J := J) hg (show 3 < kdN (kd g) by rw [e]; decide)
      rw [show nI 3 = 3 from rfl] at n3
      simp only [ce_5, bk_5, mmE, mmE0, mmH, mT, mR, mRf, mAl, mAs, mAz, mAn, Int.reduceToNat, Int32.reduceOfInt, Int64.reduceOfInt, Int.reduceAdd, swE, Nat.reduceDiv, Nat.reduceMod, Nat.reduceAdd, Nat.reduceMul, Nat.reduceEqDiff, Nat.reduceLeDiff, Nat.zero_le, List.length_nil, List.length_cons, Nat.zero_add, true_or, or_true, false_or, or_false, true_and, and_true, and_self, mb_01, mb_t, mb_f, e4, k4, n3, nkE, mTf f hf, if_true, true_implies, not_true_eq_false, not_false_eq_true, false_implies, and_true, true_and, and_self, c_dot hf p0 p1 p0 p1 h, c_dot hf p2 p3 p2 p3 h, lc_ne, lz0, z01]
      by_cases hz : fg_dot F (pt g 0) (pt g 1) (pt g 0) (pt g 1) = fg_dot F (pt g 2) (pt g 3) (pt g 2) (pt g 3) <;> simp [fg_so, hz, mb]
    · have e4 : kdN 4 = 3 := rfl
      simp only [ce_5, bk_5, mmE, mmE0, mmH, mT, mR, mRf, mAl, mAs, mAz, mAn, Int.reduceToNat, Int32.reduceOfInt, Int64.reduceOfInt, Int.reduceAdd, swE, Nat.reduceDiv, Nat.reduceMod, Nat.reduceAdd, Nat.reduceMul, Nat.reduceEqDiff, Nat.reduceLeDiff, Nat.zero_le, List.length_nil, List.length_cons, Nat.zero_add, true_or, or_true, false_or, or_false, true_and, and_true, and_self, mb_01, mb_t, mb_f, e4, k3, nkE, mTf f hf, true_implies, not_true_eq_false, not_false_eq_true, false_implies, and_true, true_and, and_self, c_x hf p0 h, c_x hf p1 h, c_x hf p2 h, c_y hf p0 h, c_y hf p1 h, c_y hf p2 h, z01]
      by_cases hz : F.1 (pt g 0) + F.1 (pt g 0) = F.1 (pt g 1) + F.1 (pt g 2) <;> by_cases hw : F.2.1 (pt g 0) + F.2.1 (pt g 0) = F.2.1 (pt g 1) + F.2.1 (pt g 2) <;> simp [fg_so, hz, hw, mb]
    · have e4 : kdN 5 = 4 := rfl
      have p3 := pt7 hg (show 3 < kdN (kd g) by rw [e]; decide)
      have n3 := c_pt (z := z) (d := d) (I := I) (J := J) hg (show 3 < kdN (kd g) by rw [e]; decide)
      rw [show nI 3 = 3 from rfl] at n3
      simp only [ce_5, bk_5, mmE, mmE0, mmH, mT, mR, mRf, mAl, mAs, mAz, mAn, Int.reduceToNat, Int32.reduceOfInt, Int64.reduceOfInt, Int.reduceAdd, swE, Nat.reduceDiv, Nat.reduceMod, Nat.reduceAdd, Nat.reduceMul, Nat.reduceEqDiff, Nat.reduceLeDiff, Nat.zero_le, List.length_nil, List.length_cons, Nat.zero_add, true_or, or_true, false_or, or_false, true_and, and_true, and_self, mb_01, mb_t, mb_f, e4, k4, n3, nkE, mTf f hf, if_true, true_implies, not_true_eq_false, not_false_eq_true, false_implies, and_true, true_and, and_self, c_onCircle hf p0 p1 p2 p3 h, lc_ne, lz0, z01]
      simp [fg_so]
    · have e4 : kdN 6 = 3 := rfl
      simp only [ce_5, bk_5, mmE, mmE0, mmH, mT, mR, mRf, mAl, mAs, mAz, mAn, Int.reduceToNat, Int32.reduceOfInt, Int64.reduceOfInt, Int.reduceAdd, swE, Nat.reduceDiv, Nat.reduceMod, Nat.reduceAdd, Nat.reduceMul, Nat.reduceEqDiff, Nat.reduceLeDiff, Nat.zero_le, List.length_nil, List.length_cons, Nat.zero_add, true_or, or_true, false_or, or_false, true_and, and_true, and_self, mb_01, mb_t, mb_f, e4, k3, k6, mTf f hf, true_implies, not_true_eq_false, not_false_eq_true, false_implies, and_true, true_and, and_self, c_cross hf p0 p1 p0 p2 h, c_dot hf p0 p1 p0 p2 h, lc_ne, lc_ge, lz0, z01]
      by_cases hz : fg_cross F (pt g 0) (pt g 1) (pt g 0) (pt g 2) = 0 <;> by_cases hw : fg_dot F (pt g 0) (pt g 1) (pt g 0) (pt g 2) < 0 <;> simp [fg_so, hz, hw, mb]
/-- put -/
def fg_put (F : fg_T) (p : Nat) (x y : Int32) : fg_T := (fun q => if q = p then x else F.1 q, fun q => if q = p then y else F.2.1 q, F.2.2 ||| 2 ^ p)
theorem fg_put_has {p q : Nat} {x y : Int32} (hm : F.2.2 < 128) (hp : p < 7) (hq : q < 7) : fg_has (fg_put F p x y) q = (fg_has F q || q == p) := by
  have t : ∀ m, m < 128 → ∀ p, p < 7 → ∀ q, q < 7 → ((m ||| 2 ^ p) / 2 ^ q % 2 == 1) = (m / 2 ^ q % 2 == 1 || q == p) := by decide +kernel
  exact t _ hm p hp q hq
theorem w_put {p : Nat} {x y : Int32} {Q : Option Value → mm_I → mm_J → Prop} (hf : f < 6) (hp : p < 7) (h : rg_fig I f F) (k : ∀ I', rg_fig I' f (fg_put F p x y) → (∀ c, c < 86 + 3 * f ∨ 86 + 3 * f + 2 < c → I' c = I c) → Q none I' J) : mm_call z (d + 1) 0 [.ref (86 + 3 * f), .int (nI p), .int x, .int y] I J Q := by
  simp only [ce_0, bk_0, mmE, mmE0, mmH, mT, mR, mRf, mAl, mAs, mAz, mAn, Int.reduceToNat, Int32.reduceOfInt, Int64.reduceOfInt, Int.reduceAdd, swE, Nat.reduceDiv, Nat.reduceMod, Nat.reduceAdd, Nat.reduceMul, Nat.reduceEqDiff, Nat.reduceLeDiff, Nat.zero_le, List.length_nil, List.length_cons, Nat.zero_add, true_or, or_true, false_or, or_false, true_and, and_true, and_self, mb_01, mb_t, mb_f, in7 hp, mTf f hf, true_implies, not_true_eq_false, not_false_eq_true, false_implies, and_true, true_and, and_self]
  refine k _ ?_ ?_
  · obtain ⟨h1, h2, h3, h4⟩ := h
    have hsh := bit_shl hp
    refine ⟨fun q hq => ?_, fun q hq => ?_, ?_, ?_⟩
    · simp only [mWI, fg_put]
      rw [← h1 q hq]
      grind
    · simp only [mWI, fg_put]
      rw [← h2 q hq]
      grind
    · simp only [mWI, fg_put, if_true]
      have e : ∀ a : Int32, (if 86 + 3 * f = 86 + 3 * f + 2 then if 2 = p then y else if 86 + 3 * f + 2 = 86 + 3 * f + 1 then if 2 = p then x else I (86 + 3 * f + 2) 2 else I (86 + 3 * f + 2) 2 else a) = a := fun a => if_neg (by omega)
      rw [if_neg (show ¬ 86 + 3 * f = 86 + 3 * f + 2 by omega), if_neg (show ¬ 86 + 3 * f = 86 + 3 * f + 1 by omega), h3, hsh.1]
      exact (bit_or h4 hp).2.2
    · exact or_lt h4 hp
  · intro c hc
    funext j
    simp only [mWI]
    rw [if_neg (by omega), if_neg (by omega), if_neg (by omega)]
end FG
