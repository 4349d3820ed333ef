/-! the tape and its tokens -/
def sk (T : Nat → Nat) : Nat → Nat → Nat
  | 0, i => i
  | w + 1, i => if T i = 32 then sk T w (i + 1) else i
def te (T : Nat → Nat) : Nat → Nat → Nat
  | 0, i => i
  | w + 1, i => if T i = 32 then i else te T w (i + 1)
/-- where the next token begins, and where it ends -/
def tk_j (T : Nat → Nat) (n i : Nat) : Nat := sk T (n - i) i
def tk_e (T : Nat → Nat) (n i : Nat) : Nat := te T (n - tk_j T n i) (tk_j T n i)
def seg (T : Nat → Nat) (j e : Nat) : List Nat := (List.range' j (e - j)).map T
/-- the next token's letters -/
def tk_c (T : Nat → Nat) (n i : Nat) : List Nat := seg T (tk_j T n i) (tk_e T n i)
def inC (a b c : Nat) : Bool := decide (a ≤ c ∧ c ≤ b)
def tk_s (cs : List Nat) : Nat := if cs.length = 0 then 0 else if cs.length ≤ 8 ∧ cs.all (inC 97 122) = true then 1 else if cs.length = 1 ∧ cs.all (inC 65 71) = true then 2 else if cs.length ≤ 3 ∧ cs.all (inC 48 57) = true then 3 else 4
def tk_x (zr base : Nat) (cs : List Nat) : Int64 := cs.foldl (fun v c => v * (nI base).toInt64 + (nI c - nI zr).toInt64) 0
def tk_v (cs : List Nat) : Int64 := if tk_s cs = 1 then tk_x 0 256 cs else if tk_s cs = 2 then tk_x 65 1 cs else if tk_s cs = 3 then tk_x 48 10 cs else 0
theorem sk_le {T : Nat → Nat} : ∀ (w i : Nat), i ≤ sk T w i ∧ sk T w i ≤ i + w
  | 0, i => ⟨Nat.le_refl _, Nat.le_refl _⟩
  | w + 1, i => by
    unfold sk
    have := sk_le (T := T) w (i + 1)
    split <;> omega
theorem te_le {T : Nat → Nat} : ∀ (w i : Nat), i ≤ te T w i ∧ te T w i ≤ i + w
  | 0, i => ⟨Nat.le_refl _, Nat.le_refl _⟩
  | w + 1, i => by
    unfold te
    have := te_le (T := T) w (i + 1)
    split <;> omega
theorem tk_le {T : Nat → Nat} {n i : Nat} (h : i ≤ n) : i ≤ tk_j T n i ∧ tk_j T n i ≤ tk_e T n i ∧ tk_e T n i ≤ n := by
  have h1 := sk_le (T := T) (n - i) i
  have h2 := te_le (T := T) (n - tk_j T n i) (tk_j T n i)
  have e1 : tk_j T n i = sk T (n - i) i := rfl
  have e2 : tk_e T n i = te T (n - tk_j T n i) (tk_j T n i) := rfl
  omega
theorem seg_len {T : Nat → Nat} {j e : Nat} : (seg T j e).length = e - j := by
  unfold seg
  rw [List.length_map, List.length_range']
def rt_rep (I : mm_I) (T : Nat → Nat) (n : Nat) : Prop := I 104 1 = nI n ∧ n ≤ 120 ∧ ∀ i, i < n → I 105 i = nI (T i) ∧ T i < 256
/-- the tape's marks move -/
def rt_mv (I : mm_I) (J : mm_J) (I' : mm_I) (J' : mm_J) : Prop := (∀ k, k ≠ 104 → I' k = I k) ∧ (∀ j, j < 2 → I' 104 j = I 104 j) ∧ ∀ k j, k ≠ 104 → J' k j = J k j
theorem rt_mv_rf {I : mm_I} {J : mm_J} : rt_mv I J I J := ⟨fun _ _ => rfl, fun _ _ => rfl, fun _ _ _ => rfl⟩
theorem rt_mv_tr {I I' I'' : mm_I} {J J' J'' : mm_J} (h : rt_mv I J I' J') (h' : rt_mv I' J' I'' J'') : rt_mv I J I'' J'' := ⟨fun k q => (h'.1 k q).trans (h.1 k q), fun j q => (h'.2.1 j q).trans (h.2.1 j q), fun k j q => (h'.2.2 k j q).trans (h.2.2 k j q)⟩
theorem rt_rep_mv {I I' : mm_I} {J J' : mm_J} {T : Nat → Nat} {n : Nat} (h : rt_rep I T n) (m : rt_mv I J I' J') : rt_rep I' T n := by
  refine ⟨?_, h.2.1, fun i hi => ?_⟩
  · rw [m.2.1 1 (by omega)]; exact h.1
  · rw [m.1 105 (by decide)]; exact h.2.2 i hi
section TP
variable {z : mm_S} {d : Nat} {I : mm_I} {J : mm_J} {T : Nat → Nat} {n : Nat} {Q : Option Value → mm_I → mm_J → Prop}
theorem ix120 {i : Nat} (h : i < 120) : (120 ≤ nI i) = False ∧ vp_in (nI i) 120 = True ∧ (nI i).toNatClampNeg = i := ⟨eq_false (nI_ge (b := 120) h (by decide)), eq_true (vp_in_nI h (by decide)), nI_clamp (by omega)⟩
theorem eq32 {x : Nat} (h : x < 256) : (nI x = 32) = (x = 32) := eq_nI (b := 32) (by omega) (by omega)
theorem mv_at {x : Int32} {j : Nat} (hj : 2 ≤ j) : rt_mv I J (mm_wI I 104 j x) J := by
  refine ⟨fun k hk => ?_, fun i hi => ?_, fun _ _ _ => rfl⟩
  · funext q; rw [mWI, if_neg hk]
  · rw [mWI, if_pos rfl, if_neg (by omega)]
theorem w_next1 : ∀ (w i : Nat) (I : mm_I), i + w = n → rt_rep I T n → I 104 2 = nI i → (∀ I', rt_mv I J I' J → I' 104 2 = nI (sk T w i) → mm_at z (mm_call z (d + 1)) (mm_code 91) Q 47 [some (.ref 104), none] [] I' J) → mm_at z (mm_call z (d + 1)) (mm_code 91) Q 0 [some (.ref 104), none] [] I J
  | 0, i, I, hi, h, hat, k => by
    have hk := k I rt_mv_rf hat
    have := h.2.1
    rw [hk_91_0]
    have c1 : (nI n ≤ nI i) = True := by rw [le_nI (by omega) (by omega)]; exact eq_true (by omega)
    simp only [mmE, mmE0, mmH, mT, mR, mRf, mAl, mAs, mAz, mAn, Int.reduceToNat, Int32.reduceOfInt, Int64.reduceOfInt, Int.reduceAdd, swE, Nat.reduceDiv, Nat.reduceMod, Nat.reduceAdd, Nat.reduceMul, Nat.reduceEqDiff, Nat.reduceLeDiff, Nat.zero_le, List.length_nil, List.length_cons, Nat.zero_add, true_or, or_true, false_or, or_false, true_and, and_true, and_self, mb_01, mb_t, mb_f, hat, h.1, c1, true_implies, not_true_eq_false, false_implies]
    exact hk
  | w + 1, i, I, hi, h, hat, k => by
    have hn := h.2.1
    rw [hk_91_0]
    have c1 : (nI n ≤ nI i) = False := by rw [le_nI (by omega) (by omega)]; exact eq_false (by omega)
    obtain ⟨g1, g2⟩ := h.2.2 i (by omega)
    simp only [mmE, mmE0, mmH, mT, mR, mRf, mAl, mAs, mAz, mAn, Int.reduceToNat, Int32.reduceOfInt, Int64.reduceOfInt, Int.reduceAdd, swE, Nat.reduceDiv, Nat.reduceMod, Nat.reduceAdd, Nat.reduceMul, Nat.reduceEqDiff, Nat.reduceLeDiff, Nat.zero_le, List.length_nil, List.length_cons, Nat.zero_add, true_or, or_true, false_or, or_false, true_and, and_true, and_self, mb_01, mb_t, mb_f, hat, h.1, c1, ix120 (show i < 120 by omega), g1, eq32 g2, true_implies, not_true_eq_false, not_false_eq_true, false_implies]
    unfold sk at k
    by_cases e : T i = 32
    · rw [if_pos e] at k
      simp only [e, true_implies, not_true_eq_false, false_implies, and_true, true_and]
      have hm : rt_mv I J (mm_wI I 104 2 (nI i + 1)) J := mv_at (by decide)
      refine w_next1 w (i + 1) _ (by omega) (rt_rep_mv h hm) ?_ (fun I' m' h' => k I' (rt_mv_tr hm m') h')
      rw [mWI, if_pos rfl, if_pos rfl, nI_succ]
    · rw [if_neg e] at k
      simp only [e, not_false_eq_true, true_implies, false_implies, and_true]
      exact k I rt_mv_rf hat
theorem w_next2 : ∀ (w i : Nat) (I : mm_I), i + w = n → rt_rep I T n → I 104 2 = nI i → (∀ I', rt_mv I J I' J → I' 104 2 = nI (te T w i) → I' 104 3 = I 104 3 → mm_at z (mm_call z (d + 1)) (mm_code 91) Q 102 [some (.ref 104), none] [] I' J) → mm_at z (mm_call z (d + 1)) (mm_code 91) Q 55 [some (.ref 104), none] [] I J
  | 0, i, I, hi, h, hat, k => by
    have hk := k I rt_mv_rf hat rfl
    have := h.2.1
    rw [hk_91_55]
    have c1 : (nI n ≤ nI i) = True := by rw [le_nI (by omega) (by omega)]; exact eq_true (by omega)
    simp only [mmE, mmE0, mmH, mT, mR, mRf, mAl, mAs, mAz, mAn, Int.reduceToNat, Int32.reduceOfInt, Int64.reduceOfInt, Int.reduceAdd, swE, Nat.reduceDiv, Nat.reduceMod, Nat.reduceAdd, Nat.reduceMul, Nat.reduceEqDiff, Nat.reduceLeDiff, Nat.zero_le, List.length_nil, List.length_cons, Nat.zero_add, true_or, or_true, false_or, or_false, true_and, and_true, and_self, mb_01, mb_t, mb_f, hat, h.1, c1, true_implies, not_true_eq_false, false_implies]
    exact hk
  | w + 1, i, I, hi, h, hat, k => by
    have hn := h.2.1
    rw [hk_91_55]
    have c1 : (nI n ≤ nI i) = False := by rw [le_nI (by omega) (by omega)]; exact eq_false (by omega)
    obtain ⟨g1, g2⟩ := h.2.2 i (by omega)
    simp only [mmE, mmE0, mmH, mT, mR, mRf, mAl, mAs, mAz, mAn, Int.reduceToNat, Int32.reduceOfInt, Int64.reduceOfInt, Int.reduceAdd, swE, Nat.reduceDiv, Nat.reduceMod, Nat.reduceAdd, Nat.reduceMul, Nat.reduceEqDiff, Nat.reduceLeDiff, Nat.zero_le, List.length_nil, List.length_cons, Nat.zero_add, true_or, or_true, false_or, or_false, true_and, and_true, and_self, mb_01, mb_t, mb_f, hat, h.1, c1, ix120 (show i < 120 by omega), g1, eq32 g2, true_implies, not_true_eq_false, not_false_eq_true, false_implies]
    unfold te at k
    by_cases e : T i = 32
    · rw [if_pos e] at k
      simp only [e, true_implies, not_true_eq_false, false_implies, and_true]
      exact k I rt_mv_rf hat rfl
    · rw [if_neg e] at k
      simp only [e, not_false_eq_true, true_implies, false_implies, and_true, true_and]
      have hm : rt_mv I J (mm_wI I 104 2 (nI i + 1)) J := mv_at (by decide)
      refine w_next2 w (i + 1) _ (by omega) (rt_rep_mv h hm) ?_ (fun I' m' h' h2 => k I' (rt_mv_tr hm m') h' ?_)
      · rw [mWI, if_pos rfl, if_pos rfl, nI_succ]
      · rw [h2, mWI, if_pos rfl, if_neg (by decide)]
theorem ncmp {a b : Nat} (ha : a < 1000) (hb : b < 1000) : (nI a < nI b) = (a < b) ∧ (nI a ≤ nI b) = (a ≤ b) := ⟨lt_nI (by omega) (by omega), le_nI (by omega) (by omega)⟩
theorem c_allIn_loop {a b e : Nat} (ha : a < 256) (hb : b < 256) (h : rt_rep I T n) (he : e ≤ n) (hat : I 104 2 = nI e) : ∀ (w i : Nat), i + w = e → Q (some (.int (mb (((List.range' i w).map T).all (inC a b))))) I J → mm_at z (mm_call z d) (mm_code 92) Q 5 [some (.ref 104), some (.int (nI a)), some (.int (nI b)), some (.int (nI i))] [] I J
  | 0, i, hi, k => by
    have hn := h.2.1
    rw [hk_92_5]
    have c1 : (nI e ≤ nI i) = True := by rw [le_nI (by omega) (by omega)]; exact eq_true (by omega)
    simp only [ce_92, bk_92, mmE, mmE0, mmH, mT, mR, mRf, mAl, mAs, mAz, mAn, Int.reduceToNat, Int32.reduceOfInt, Int64.reduceOfInt, Int.reduceAdd, swE, Nat.reduceDiv, Nat.reduceMod, Nat.reduceAdd, Nat.reduceMul, Nat.reduceEqDiff, Nat.reduceLeDiff, Nat.zero_le, List.length_nil, List.length_cons, Nat.zero_add, true_or, or_true, false_or, or_false, true_and, and_true, and_self, mb_01, mb_t, mb_f, hat, c1, true_implies, not_true_eq_false, false_implies, z01]
    exact k
  | w + 1, i, hi, k => by
    have hn := h.2.1
    rw [hk_92_5]
    have c1 : (nI e ≤ nI i) = False := by rw [le_nI (by omega) (by omega)]; exact eq_false (by omega)
    obtain ⟨g1, g2⟩ := h.2.2 i (by omega)
    rw [List.range'_succ, List.map_cons, List.all_cons] at k
    have ih := c_allIn_loop ha hb h he hat w (i + 1) (by omega)
    rw [nI_succ] at ih
    simp only [ce_92, bk_92, mmE, mmE0, mmH, mT, mR, mRf, mAl, mAs, mAz, mAn, Int.reduceToNat, Int32.reduceOfInt, Int64.reduceOfInt, Int.reduceAdd, swE, Nat.reduceDiv, Nat.reduceMod, Nat.reduceAdd, Nat.reduceMul, Nat.reduceEqDiff, Nat.reduceLeDiff, Nat.zero_le, List.length_nil, List.length_cons, Nat.zero_add, true_or, or_true, false_or, or_false, true_and, and_true, and_self, mb_01, mb_t, mb_f, hat, c1, ix120 (show i < 120 by omega), g1, ncmp (show T i < 1000 by omega) (show a < 1000 by omega), ncmp (show T i < 1000 by omega) (show b < 1000 by omega), z01, true_implies, not_true_eq_false, not_false_eq_true, false_implies]
    by_cases e1 : T i < a
    · have e2 : inC a b (T i) = false := by unfold inC; rw [decide_eq_false_iff_not]; omega
      rw [e2, Bool.false_and] at k
      simp only [e1, true_implies, not_true_eq_false, false_implies, and_true]
      exact k
    · by_cases e3 : T i ≤ b
      · have e2 : inC a b (T i) = true := by unfold inC; rw [decide_eq_true_eq]; omega
        rw [e2, Bool.true_and] at k
        simp only [e1, e3, true_implies, not_true_eq_false, not_false_eq_true, false_implies, and_true, true_and]
        exact ih k
      · have e2 : inC a b (T i) = false := by unfold inC; rw [decide_eq_false_iff_not]; omega
        rw [e2, Bool.false_and] at k
        simp only [e1, e3, true_implies, not_true_eq_false, not_false_eq_true, false_implies, and_true, true_and]
        exact k
theorem c_allIn {a b j e : Nat} (ha : a < 256) (hb : b < 256) (h : rt_rep I T n) (hj : j ≤ e) (he : e ≤ n) (hst : I 104 3 = nI j) (hat : I 104 2 = nI e) (Q : Option Value → mm_I → mm_J → Prop) : mm_call z (d + 1) 92 [.ref 104, .int (nI a), .int (nI b)] I J Q = Q (some (.int (mb ((seg T j e).all (inC a b))))) I J := by
  refine mm_ev ?_ Q
  simp only [ce_92, bk_92, mmE, mmE0, mmH, mT, mR, mRf, mAl, mAs, mAz, mAn, Int.reduceToNat, Int32.reduceOfInt, Int64.reduceOfInt, Int.reduceAdd, swE, Nat.reduceDiv, Nat.reduceMod, Nat.reduceAdd, Nat.reduceMul, Nat.reduceEqDiff, Nat.reduceLeDiff, Nat.zero_le, List.length_nil, List.length_cons, Nat.zero_add, true_or, or_true, false_or, or_false, true_and, and_true, and_self, mb_01, mb_t, mb_f, hst]
  exact c_allIn_loop (z := z) (d := d) ha hb h he hat (e - j) j (by omega) ⟨rfl, rfl, rfl⟩
theorem w_readValue_loop {zr base : Nat} {e : Nat} (h : rt_rep I T n) (he : e ≤ n) (hat : I 104 2 = nI e) : ∀ (w i : Nat) (J : mm_J), i + w = e → (∀ J', (∀ k j, ¬ (k = 104 ∧ j = 5) → J' k j = J k j) → J' 104 5 = ((List.range' i w).map T).foldl (fun v c => v * (nI base).toInt64 + (nI c - nI zr).toInt64) (J 104 5) → Q none I J') → mm_at z (mm_call z d) (mm_code 93) Q 5 [some (.ref 104), some (.int (nI zr)), some (.int (nI base)), some (.int (nI i))] [] I J
  | 0, i, J, hi, k => by
    have hk := k J (fun _ _ _ => rfl) rfl
    have hn := h.2.1
    rw [hk_93_5]
    have c1 : (nI e ≤ nI i) = True := by rw [le_nI (by omega) (by omega)]; exact eq_true (by omega)
    simp only [ce_93, bk_93, mmE, mmE0, mmH, mT, mR, mRf, mAl, mAs, mAz, mAn, Int.reduceToNat, Int32.reduceOfInt, Int64.reduceOfInt, Int.reduceAdd, swE, Nat.reduceDiv, Nat.reduceMod, Nat.reduceAdd, Nat.reduceMul, Nat.reduceEqDiff, Nat.reduceLeDiff, Nat.zero_le, List.length_nil, List.length_cons, Nat.zero_add, true_or, or_true, false_or, or_false, true_and, and_true, and_self, mb_01, mb_t, mb_f, hat, c1, true_implies, not_true_eq_false, false_implies]
    exact hk
  | w + 1, i, J, hi, k => by
    have hn := h.2.1
    rw [hk_93_5]
    have c1 : (nI e ≤ nI i) = False := by rw [le_nI (by omega) (by omega)]; exact eq_false (by omega)
    obtain ⟨g1, g2⟩ := h.2.2 i (by omega)
    rw [List.range'_succ, List.map_cons, List.foldl_cons] at k
    simp only [ce_93, bk_93, mmE, mmE0, mmH, mT, mR, mRf, mAl, mAs, mAz, mAn, Int.reduceToNat, Int32.reduceOfInt, Int64.reduceOfInt, Int.reduceAdd, swE, Nat.reduceDiv, Nat.reduceMod, Nat.reduceAdd, Nat.reduceMul, Nat.reduceEqDiff, Nat.reduceLeDiff, Nat.zero_le, List.length_nil, List.length_cons, Nat.zero_add, true_or, or_true, false_or, or_false, true_and, and_true, and_self, mb_01, mb_t, mb_f, hat, c1, ix120 (show i < 120 by omega), g1, true_implies, not_true_eq_false, not_false_eq_true, false_implies]
    have ih := w_readValue_loop (zr := zr) (base := base) h he hat w (i + 1) (mm_wJ J 104 5 (J 104 5 * (nI base).toInt64 + (nI (T i) - nI zr).toInt64)) (by omega) (fun J' m' v' => k J' (fun a b hab => (m' a b hab).trans ?_) ?_)
    · rw [nI_succ] at ih
      exact ih
    · rw [mWJ]
      split
      · rename_i q
        rw [if_neg (fun r => hab ⟨q, r⟩)]
      · rfl
    · rw [v', mWJ, if_pos rfl, if_pos rfl]
theorem w_readValue {zr base : Nat} {j e : Nat} (h : rt_rep I T n) (hj : j ≤ e) (he : e ≤ n) (hst : I 104 3 = nI j) (hat : I 104 2 = nI e) (h0 : J 104 5 = 0) (k : ∀ J', (∀ k j, ¬ (k = 104 ∧ j = 5) → J' k j = J k j) → J' 104 5 = tk_x zr base (seg T j e) → Q none I J') : mm_call z (d + 1) 93 [.ref 104, .int (nI zr), .int (nI base)] I J Q := by
  simp only [ce_93, bk_93, mmE, mmE0, mmH, mT, mR, mRf, mAl, mAs, mAz, mAn, Int.reduceToNat, Int32.reduceOfInt, Int64.reduceOfInt, Int.reduceAdd, swE, Nat.reduceDiv, Nat.reduceMod, Nat.reduceAdd, Nat.reduceMul, Nat.reduceEqDiff, Nat.reduceLeDiff, Nat.zero_le, List.length_nil, List.length_cons, Nat.zero_add, true_or, or_true, false_or, or_false, true_and, and_true, and_self, mb_01, mb_t, mb_f, hst]
  refine w_readValue_loop (z := z) (d := d) h he hat (e - j) j J (by omega) (fun J' m v => k J' m ?_)
  rw [v, h0]
  rfl
/-- next -/
theorem w_next {i : Nat} (h : rt_rep I T n) (hi : i ≤ n) (hat : I 104 2 = nI i) (k : ∀ I' J', rt_mv I J I' J' → I' 104 2 = nI (tk_e T n i) → I' 104 3 = nI (tk_j T n i) → I' 104 4 = nI (tk_s (tk_c T n i)) → J' 104 5 = tk_v (tk_c T n i) → Q none I' J') : mm_call z (d + 2) 91 [.ref 104] I J Q := by
  obtain ⟨l1, l2, l3⟩ := tk_le (T := T) hi
  have hn := h.2.1
  simp only [ce_91, bk_91, mmE, mmE0, mmH, mT, mR, mRf, mAl, mAs, mAz, mAn, Int.reduceToNat, Int32.reduceOfInt, Int64.reduceOfInt, Int.reduceAdd, swE, Nat.reduceDiv, Nat.reduceMod, Nat.reduceAdd, Nat.reduceMul, Nat.reduceEqDiff, Nat.reduceLeDiff, Nat.zero_le, List.length_nil, List.length_cons, Nat.zero_add, true_or, or_true, false_or, or_false, true_and, and_true, and_self, mb_01, mb_t, mb_f]
  refine w_next1 (z := z) (d := d) (n - i) i I (by omega) h hat (fun I1 m1 h1 => ?_)
  have r1 := rt_rep_mv h m1
  simp only [ce_91, bk_91, mmE, mmE0, mmH, mT, mR, mRf, mAl, mAs, mAz, mAn, Int.reduceToNat, Int32.reduceOfInt, Int64.reduceOfInt, Int.reduceAdd, swE, Nat.reduceDiv, Nat.reduceMod, Nat.reduceAdd, Nat.reduceMul, Nat.reduceEqDiff, Nat.reduceLeDiff, Nat.zero_le, List.length_nil, List.length_cons, Nat.zero_add, true_or, or_true, false_or, or_false, true_and, and_true, and_self, mb_01, mb_t, mb_f, h1]
  have m2 : rt_mv I1 J (mm_wI I1 104 3 (nI (sk T (n - i) i))) J := mv_at (by decide)
  have r2 := rt_rep_mv r1 m2
  refine w_next2 (z := z) (d := d) (n - tk_j T n i) (tk_j T n i) _ (by omega) r2 ?_ (fun I3 m3 h3 h4 => ?_)
  · rw [mWI, if_pos rfl, if_neg (by decide)]
    exact h1
  have hst : I3 104 3 = nI (tk_j T n i) := by
    rw [h4, mWI, if_pos rfl, if_pos rfl]
    rfl
  have hat3 : I3 104 2 = nI (tk_e T n i) := h3
  have r3 := rt_rep_mv r2 m3
  have m13 := rt_mv_tr m1 (rt_mv_tr m2 m3)
  have hsz : nI (tk_e T n i) - nI (tk_j T n i) = nI (tk_e T n i - tk_j T n i) := nI_sub l2
  have hlen : (tk_c T n i).length = tk_e T n i - tk_j T n i := seg_len
  -- the sort is put, then the value is read
  have hend : ∀ s, s = tk_s (tk_c T n i) → mm_at z (mm_call z (d + 1)) (mm_code 91) Q 207 [some (.ref 104), some (.int (nI (tk_e T n i - tk_j T n i)))] [] (mm_wI I3 104 4 (nI s)) (mm_wJ J 104 5 0) := by
    intro s hs
    have m4 : rt_mv I3 J (mm_wI I3 104 4 (nI s)) (mm_wJ J 104 5 0) := by
      refine ⟨fun k hk => ?_, fun i hi => ?_, fun k j hk => ?_⟩
      · funext q; rw [mWI, if_neg hk]
      · rw [mWI, if_pos rfl, if_neg (by omega)]
      · rw [mWJ, if_neg hk]
    have r4 := rt_rep_mv r3 m4
    have s4 : mm_wI I3 104 4 (nI s) 104 4 = nI s := by rw [mWI, if_pos rfl, if_pos rfl]
    have st4 : mm_wI I3 104 4 (nI s) 104 3 = nI (tk_j T n i) := by rw [mWI, if_pos rfl, if_neg (by decide)]; exact hst
    have at4 : mm_wI I3 104 4 (nI s) 104 2 = nI (tk_e T n i) := by rw [mWI, if_pos rfl, if_neg (by decide)]; exact hat3
    have v4 : mm_wJ J 104 5 0 104 5 = 0 := by rw [mWJ, if_pos rfl, if_pos rfl]
    generalize mm_wI I3 104 4 (nI s) = I4 at *
    generalize mm_wJ J 104 5 0 = J4 at *
    have m14 := rt_mv_tr m13 m4
    have hs4 : s ≤ 4 := by
      rw [hs]
      unfold tk_s
      repeat' split
      all_goals omega
    have mvJ : ∀ J', (∀ k j, ¬ (k = 104 ∧ j = 5) → J' k j = J4 k j) → rt_mv I J I4 J' := by
      intro J' hJ
      refine ⟨m14.1, m14.2.1, fun k j hk => ?_⟩
      rw [hJ k j (fun q => hk q.1)]
      exact m14.2.2 k j hk
    rcases (show s = 0 ∨ s = 1 ∨ s = 2 ∨ s = 3 ∨ s = 4 by omega) with rfl | rfl | rfl | rfl | rfl
    · simp only [ce_91, bk_91, mmE, mmE0, mmH, mT, mR, mRf, mAl, mAs, mAz, mAn, Int.reduceToNat, Int32.reduceOfInt, Int64.reduceOfInt, Int.reduceAdd, swE, Nat.reduceDiv, Nat.reduceMod, Nat.reduceAdd, Nat.reduceMul, Nat.reduceEqDiff, Nat.reduceLeDiff, Nat.zero_le, List.length_nil, List.length_cons, Nat.zero_add, true_or, or_true, false_or, or_false, true_and, and_true, and_self, mb_01, mb_t, mb_f, s4, nkE, not_true_eq_false, not_false_eq_true, true_implies, false_implies]
      refine k I4 J4 m14 at4 st4 (by rw [s4, hs]) ?_
      rw [v4]
      unfold tk_v
      rw [← hs]
      rfl
    · simp only [ce_91, bk_91, mmE, mmE0, mmH, mT, mR, mRf, mAl, mAs, mAz, mAn, Int.reduceToNat, Int32.reduceOfInt, Int64.reduceOfInt, Int.reduceAdd, swE, Nat.reduceDiv, Nat.reduceMod, Nat.reduceAdd, Nat.reduceMul, Nat.reduceEqDiff, Nat.reduceLeDiff, Nat.zero_le, List.length_nil, List.length_cons, Nat.zero_add, true_or, or_true, false_or, or_false, true_and, and_true, and_self, mb_01, mb_t, mb_f, s4, nkE, not_true_eq_false, not_false_eq_true, true_implies, false_implies]
      refine w_readValue (z := z) (d := d) (zr := 0) (base := 256) r4 l2 l3 st4 at4 v4 (fun J5 hJ hv => ?_)
      simp only [ce_91, bk_91, mmE, mmE0, mmH, mT, mR, mRf, mAl, mAs, mAz, mAn, Int.reduceToNat, Int32.reduceOfInt, Int64.reduceOfInt, Int.reduceAdd, swE, Nat.reduceDiv, Nat.reduceMod, Nat.reduceAdd, Nat.reduceMul, Nat.reduceEqDiff, Nat.reduceLeDiff, Nat.zero_le, List.length_nil, List.length_cons, Nat.zero_add, true_or, or_true, false_or, or_false, true_and, and_true, and_self, mb_01, mb_t, mb_f, s4, nkE, not_true_eq_false, not_false_eq_true, true_implies, false_implies, List.nil_append, Option.toList_none]
      refine k I4 J5 (mvJ J5 hJ) at4 st4 (by rw [s4, hs]) ?_
      rw [hv]
      unfold tk_v
      rw [← hs]
      rfl
    · simp only [ce_91, bk_91, mmE, mmE0, mmH, mT, mR, mRf, mAl, mAs, mAz, mAn, Int.reduceToNat, Int32.reduceOfInt, Int64.reduceOfInt, Int.reduceAdd, swE, Nat.reduceDiv, Nat.reduceMod, Nat.reduceAdd, Nat.reduceMul, Nat.reduceEqDiff, Nat.reduceLeDiff, Nat.zero_le, List.length_nil, List.length_cons, Nat.zero_add, true_or, or_true, false_or, or_false, true_and, and_true, and_self, mb_01, mb_t, mb_f, s4, nkE, not_true_eq_false, not_false_eq_true, true_implies, false_implies]
      refine w_readValue (z := z) (d := d) (zr := 65) (base := 1) r4 l2 l3 st4 at4 v4 (fun J5 hJ hv => ?_)
      simp only [ce_91, bk_91, mmE, mmE0, mmH, mT, mR, mRf, mAl, mAs, mAz, mAn, Int.reduceToNat, Int32.reduceOfInt, Int64.reduceOfInt, Int.reduceAdd, swE, Nat.reduceDiv, Nat.reduceMod, Nat.reduceAdd, Nat.reduceMul, Nat.reduceEqDiff, Nat.reduceLeDiff, Nat.zero_le, List.length_nil, List.length_cons, Nat.zero_add, true_or, or_true, false_or, or_false, true_and, and_true, and_self, mb_01, mb_t, mb_f, s4, nkE, not_true_eq_false, not_false_eq_true, true_implies, false_implies, List.nil_append, Option.toList_none]
      refine k I4 J5 (mvJ J5 hJ) at4 st4 (by rw [s4, hs]) ?_
      rw [hv]
      unfold tk_v
      rw [← hs]
      rfl
    · simp only [ce_91, bk_91, mmE, mmE0, mmH, mT, mR, mRf, mAl, mAs, mAz, mAn, Int.reduceToNat, Int32.reduceOfInt, Int64.reduceOfInt, Int.reduceAdd, swE, Nat.reduceDiv, Nat.reduceMod, Nat.reduceAdd, Nat.reduceMul, Nat.reduceEqDiff, Nat.reduceLeDiff, Nat.zero_le, List.length_nil, List.length_cons, Nat.zero_add, true_or, or_true, false_or, or_false, true_and, and_true, and_self, mb_01, mb_t, mb_f, s4, nkE, not_true_eq_false, not_false_eq_true, true_implies, false_implies]
      refine w_readValue (z := z) (d := d) (zr := 48) (base := 10) r4 l2 l3 st4 at4 v4 (fun J5 hJ hv => ?_)
      simp only [ce_91, bk_91, mmE, mmE0, mmH, mT, mR, mRf, mAl, mAs, mAz, mAn, Int.reduceToNat, Int32.reduceOfInt, Int64.reduceOfInt, Int.reduceAdd, swE, Nat.reduceDiv, Nat.reduceMod, Nat.reduceAdd, Nat.reduceMul, Nat.reduceEqDiff, Nat.reduceLeDiff, Nat.zero_le, List.length_nil, List.length_cons, Nat.zero_add, true_or, or_true, false_or, or_false, true_and, and_true, and_self, mb_01, mb_t, mb_f, s4, nkE, not_true_eq_false, not_false_eq_true, true_implies, false_implies, List.nil_append, Option.toList_none]
      refine k I4 J5 (mvJ J5 hJ) at4 st4 (by rw [s4, hs]) ?_
      rw [hv]
      unfold tk_v
      rw [← hs]
      rfl
    · simp only [ce_91, bk_91, mmE, mmE0, mmH, mT, mR, mRf, mAl, mAs, mAz, mAn, Int.reduceToNat, Int32.reduceOfInt, Int64.reduceOfInt, Int.reduceAdd, swE, Nat.reduceDiv, Nat.reduceMod, Nat.reduceAdd, Nat.reduceMul, Nat.reduceEqDiff, Nat.reduceLeDiff, Nat.zero_le, List.length_nil, List.length_cons, Nat.zero_add, true_or, or_true, false_or, or_false, true_and, and_true, and_self, mb_01, mb_t, mb_f, s4, nkE, not_true_eq_false, not_false_eq_true, true_implies, false_implies]
      refine k I4 J4 m14 at4 st4 (by rw [s4, hs]) ?_
      rw [v4]
      unfold tk_v
      rw [← hs]
      rfl
  have cA := c_allIn (z := z) (d := d) (J := mm_wJ J 104 5 0) (a := 97) (b := 122) (by decide) (by decide) r3 l2 l3 hst hat3
  have cB := c_allIn (z := z) (d := d) (J := mm_wJ J 104 5 0) (a := 65) (b := 71) (by decide) (by decide) r3 l2 l3 hst hat3
  have cC := c_allIn (z := z) (d := d) (J := mm_wJ J 104 5 0) (a := 48) (b := 57) (by decide) (by decide) r3 l2 l3 hst hat3
  rw [show nI 97 = 97 from rfl, show nI 122 = 122 from rfl] at cA
  rw [show nI 65 = 65 from rfl, show nI 71 = 71 from rfl] at cB
  rw [show nI 48 = 48 from rfl, show nI 57 = 57 from rfl] at cC
  have n0 : (nI (tk_e T n i - tk_j T n i) = 0) = (tk_e T n i - tk_j T n i = 0) := eq_nI (b := 0) (by omega) (by omega)
  have n8 : ((8 : Int32) < nI (tk_e T n i - tk_j T n i)) = (8 < tk_e T n i - tk_j T n i) := lt_nI (a := 8) (by omega) (by omega)
  have n1 : (nI (tk_e T n i - tk_j T n i) = 1) = (tk_e T n i - tk_j T n i = 1) := eq_nI (b := 1) (by omega) (by omega)
  have n3 : ((3 : Int32) < nI (tk_e T n i - tk_j T n i)) = (3 < tk_e T n i - tk_j T n i) := lt_nI (a := 3) (by omega) (by omega)
  have bseg : seg T (tk_j T n i) (tk_e T n i) = tk_c T n i := rfl
  rw [bseg] at cA cB cC
  unfold tk_s at hend
  rw [hlen] at hend
  simp only [bk_91.2.1, bk_91.2.2.1, bk_91.2.2.2.1, bk_91.2.2.2.2.1, bk_91.2.2.2.2.2.1, mmE, mmE0, mmH, mT, mR, mRf, mAl, mAs, mAz, mAn, Int.reduceToNat, Int32.reduceOfInt, Int64.reduceOfInt, Int.reduceAdd, swE, Nat.reduceDiv, Nat.reduceMod, Nat.reduceAdd, Nat.reduceMul, Nat.reduceEqDiff, Nat.reduceLeDiff, Nat.zero_le, List.length_nil, List.length_cons, Nat.zero_add, true_or, or_true, false_or, or_false, true_and, and_true, and_self, mb_01, mb_t, mb_f, hat3, hst, hsz, n0, n1, n3, n8, cA, cB, cC, mb_0]
  have h4n : ∀ s, (nI s = 0 → True) := fun _ _ => trivial
  rw [show (0 : Int32) = nI 0 from rfl, show (1 : Int32) = nI 1 from rfl, show (2 : Int32) = nI 2 from rfl, show (3 : Int32) = nI 3 from rfl, show (4 : Int32) = nI 4 from rfl]
  by_cases q0 : tk_e T n i - tk_j T n i = 0
  · have := hend 0 (by rw [if_pos q0])
    simp only [q0, not_true_eq_false, not_false_eq_true, true_implies, false_implies, true_and, and_true]
    rw [q0] at this
    exact this
  rw [if_neg q0] at hend
  simp only [q0, not_true_eq_false, not_false_eq_true, true_implies, false_implies, true_and, and_true]
  by_cases q8 : 8 < tk_e T n i - tk_j T n i
  · have := hend 4 (by rw [if_neg (by omega), if_neg (by omega), if_neg (by omega)])
    have e1 : (tk_e T n i - tk_j T n i = 1) = False := eq_false (by omega)
    have e3 : (3 < tk_e T n i - tk_j T n i) = True := eq_true (by omega)
    simp only [q8, e1, e3, not_true_eq_false, not_false_eq_true, true_implies, false_implies, true_and, and_true]
    exact this
  simp only [q8, not_true_eq_false, not_false_eq_true, true_implies, false_implies, true_and, and_true]
  cases qa : (tk_c T n i).all (inC 97 122) with
  | true =>
    have := hend 1 (by rw [if_pos ⟨by omega, qa⟩])
    simp only [Bool.true_eq_false, not_true_eq_false, not_false_eq_true, true_implies, false_implies, true_and, and_true]
    exact this
  | false =>
  rw [qa] at hend
  simp only [Bool.false_eq_true, and_false, if_false] at hend
  simp only [not_true_eq_false, not_false_eq_true, true_implies, false_implies, true_and, and_true]
  by_cases q1 : tk_e T n i - tk_j T n i = 1
  · have e31 : (3 < 1) = False := eq_false (by omega)
    simp only [q1, e31, not_true_eq_false, not_false_eq_true, true_implies, false_implies, true_and, and_true]
    cases qb : (tk_c T n i).all (inC 65 71) with
    | true =>
      have := hend 2 (by rw [if_pos ⟨q1, qb⟩])
      simp only [Bool.true_eq_false, not_true_eq_false, not_false_eq_true, true_implies, false_implies, true_and, and_true]
      rw [q1] at this
      exact this
    | false =>
      rw [qb] at hend
      simp only [Bool.false_eq_true, and_false, if_false] at hend
      simp only [not_true_eq_false, not_false_eq_true, true_implies, false_implies, true_and, and_true]
      cases qc : (tk_c T n i).all (inC 48 57) with
      | true =>
        have := hend 3 (by rw [if_pos ⟨by omega, qc⟩])
        simp only [Bool.true_eq_false, not_true_eq_false, not_false_eq_true, true_implies, false_implies, true_and, and_true]
        rw [q1] at this
        exact this
      | false =>
        have := hend 4 (by rw [if_neg (fun q => by rw [qc] at q; cases q.2)])
        simp only [not_true_eq_false, not_false_eq_true, true_implies, false_implies, true_and, and_true]
        rw [q1] at this
        exact this
  · rw [if_neg (fun q => q1 q.1)] at hend
    simp only [q1, not_true_eq_false, not_false_eq_true, true_implies, false_implies, true_and, and_true]
    by_cases q3 : 3 < tk_e T n i - tk_j T n i
    · have := hend 4 (by rw [if_neg (fun q => by omega)])
      simp only [q3, not_true_eq_false, not_false_eq_true, true_implies, false_implies, true_and, and_true]
      exact this
    · simp only [q3, not_true_eq_false, not_false_eq_true, true_implies, false_implies, true_and, and_true]
      cases qc : (tk_c T n i).all (inC 48 57) with
      | true =>
        have := hend 3 (by rw [if_pos ⟨by omega, qc⟩])
        simp only [Bool.true_eq_false, not_true_eq_false, not_false_eq_true, true_implies, false_implies, true_and, and_true]
        exact this
      | false =>
        have := hend 4 (by rw [if_neg (fun q => by rw [qc] at q; cases q.2)])
        simp only [not_true_eq_false, not_false_eq_true, true_implies, false_implies, true_and, and_true]
        exact this
end TP
