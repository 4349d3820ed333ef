/-! the words of the languages -/
def wh (W : Nat → List Nat) (cs : List Nat) : Option Nat := (List.range' 0 11).find? fun k => decide (W k = cs)
def wI (o : Option Nat) : Int32 := match o with
  | none => -5
  | some k => nI k
def rw_C (I : mm_I) (J : mm_J) (lg : Nat) (W : Nat → Nat → List Nat) : Prop := I 106 1 = nI lg ∧ ∀ l k, l < 2 → k < 11 → J 107 (11 * l + k) = tk_x 0 256 (W l k)
def rw_M (I : mm_I) (J : mm_J) (lg : Nat) (W : Nat → Nat → List Nat) : Prop := I 127 14 = nI lg ∧ ∀ l k, l < 2 → k < 11 → J 139 (11 * l + k) = tk_w (W l k)
def rw_W (W : Nat → Nat → List Nat) : Prop := (∀ l k, l < 2 → k < 11 → isW (W l k)) ∧ ∀ l k k', l < 2 → k < 11 → k' < 11 → W l k = W l k' → k = k'
theorem wh_lt {W : Nat → List Nat} {cs : List Nat} {k : Nat} (h : wh W cs = some k) : k < 11 ∧ W k = cs := by
  have h1 := List.mem_of_find?_eq_some h
  have h2 := List.find?_some h
  rw [List.mem_range'_1] at h1
  exact ⟨by omega, of_decide_eq_true h2⟩
theorem wh_none {W : Nat → List Nat} {cs : List Nat} (h : wh W cs = none) : ∀ k, k < 11 → W k ≠ cs := by
  intro k hk e
  have := List.find?_eq_none.mp h k (List.mem_range'_1.mpr (by omega))
  exact this (decide_eq_true e)
theorem wh_fold {W : Nat → List Nat} {cs : List Nat} (hd : ∀ k k', k < 11 → k' < 11 → W k = W k' → k = k') : ∀ (w k : Nat) (cur : Int32), k + w = 11 → (List.range' k w).foldl (fun i k => if W k = cs then nI k else i) cur = match (List.range' k w).find? (fun k => decide (W k = cs)) with | none => cur | some j => nI j
  | 0, k, cur, _ => rfl
  | w + 1, k, cur, h => by
    rw [List.range'_succ, List.foldl_cons, wh_fold hd w (k + 1) _ (by omega)]
    by_cases q : W k = cs
    · rw [List.find?_cons_of_pos (by exact decide_eq_true q), if_pos q]
      have : (List.range' (k + 1) w).find? (fun k => decide (W k = cs)) = none := by
        rw [List.find?_eq_none]
        intro j hj e
        rw [List.mem_range'_1] at hj
        have := hd k j (by omega) (by omega) (q.trans (of_decide_eq_true e).symm)
        omega
      rw [this]
    · rw [List.find?_cons_of_neg (by rw [decide_eq_true_eq]; exact q), if_neg q]
section WD
variable {z : mm_S} {d : Nat} {I : mm_I} {J : mm_J} {lg : Nat} {W : Nat → Nat → List Nat} {Q : Option Value → mm_I → mm_J → Prop}
theorem ix22 {x : Nat} (h : x < 22) : (nI x < 0) = False ∧ (Int32.ofNat 22 ≤ nI x) = False ∧ vp_in (nI x) 22 = True ∧ (nI x).toNatClampNeg = x := ⟨nneg (by omega), eq_false (nI_ge (b := 22) h (by decide)), eq_true (vp_in_nI h (by decide)), nI_clamp (by omega)⟩
theorem i11 (l k : Nat) : nI l * 11 + nI k = nI (11 * l + k) := by
  rw [show (11 : Int32) = nI 11 from rfl, nI_mul, nI_add, Nat.mul_comm]
theorem i11' (l k : Nat) : (11 : Int32) * nI l + nI k = nI (11 * l + k) := by
  rw [show (11 : Int32) = nI 11 from rfl, nI_mul, nI_add]
theorem c_find_loop {l : Nat} {cs : List Nat} (hl : l < 2) (hcs : isW cs) (hW : rw_W W) (h : rw_C I J lg W) : ∀ (w i : Nat) (o5 : Option Value), i + w = 11 → Q (some (.int (eI ((List.range' i w).find? fun k => decide (W l k = cs))))) I J → mm_at z (mm_call z d) (mm_code 94) Q 3 [some (.ref 106), some (.int (nI l)), some (.long (tk_x 0 256 cs)), none, some (.int (nI i)), o5] [] I J
  | 0, i, o5, hi, k => by
    rw [hk_94_3]
    have c1 : (11 ≤ nI i) = True := by rw [show (11 : Int32) = nI 11 from rfl, le_nI (by omega) (by omega)]; exact eq_true (by omega)
    simp only [ce_94, bk_94, mmE, mmE0, mmH, mT, mR, mRf, mAl, mAs, mAz, mAn, Int.reduceToNat, Int32.reduceOfInt, Int64.reduceOfInt, Int.reduceAdd, swE, Nat.reduceDiv, Nat.reduceMod, Nat.reduceAdd, Nat.reduceMul, Nat.reduceEqDiff, Nat.reduceLeDiff, Nat.zero_le, List.length_nil, List.length_cons, Nat.zero_add, true_or, or_true, false_or, or_false, true_and, and_true, and_self, mb_01, mb_t, mb_f, c1, true_implies, not_true_eq_false, false_implies, and_true]
    exact k
  | w + 1, i, o5, hi, k => by
    rw [hk_94_3]
    have c1 : (11 ≤ nI i) = False := by rw [show (11 : Int32) = nI 11 from rfl, le_nI (by omega) (by omega)]; exact eq_false (by omega)
    have ih := c_find_loop hl hcs hW h w (i + 1) (some (.int (nI (11 * l + i)))) (by omega)
    rw [nI_succ] at ih
    rw [List.range'_succ, List.find?_cons] at k
    simp only [ce_94, bk_94, mmE, mmE0, mmH, mT, mR, mRf, mAl, mAs, mAz, mAn, Int.reduceToNat, Int32.reduceOfInt, Int64.reduceOfInt, Int.reduceAdd, swE, Nat.reduceDiv, Nat.reduceMod, Nat.reduceAdd, Nat.reduceMul, Nat.reduceEqDiff, Nat.reduceLeDiff, Nat.zero_le, List.length_nil, List.length_cons, Nat.zero_add, true_or, or_true, false_or, or_false, true_and, and_true, and_self, mb_01, mb_t, mb_f, c1, i11, ix22 (show 11 * l + i < 22 by omega), h.2 l i hl (by omega), lc_ne, wd_c (hW.1 l i hl (by omega)) hcs, true_implies, not_true_eq_false, not_false_eq_true, false_implies, and_true, true_and]
    by_cases q : W l i = cs
    · rw [decide_eq_true q] at k
      simp only [q, true_implies, not_true_eq_false, false_implies, and_true, true_and]
      exact k
    · rw [decide_eq_false q] at k
      simp only [q, true_implies, not_false_eq_true, false_implies, and_true, true_and]
      exact ih k
theorem c_find {l : Nat} {cs : List Nat} (hl : l < 2) (hcs : isW cs) (hW : rw_W W) (h : rw_C I J lg W) (Q : Option Value → mm_I → mm_J → Prop) : mm_call z (d + 1) 94 [.ref 106, .int (nI l), .long (tk_x 0 256 cs)] I J Q = Q (some (.int (eI (wh (W l) cs)))) I J := by
  refine mm_ev ?_ Q
  simp only [ce_94, bk_94, mmE, mmE0, mmH, mT, mR, mRf, mAl, mAs, mAz, mAn, Int.reduceToNat, Int32.reduceOfInt, Int64.reduceOfInt, Int.reduceAdd, swE, Nat.reduceDiv, Nat.reduceMod, Nat.reduceAdd, Nat.reduceMul, Nat.reduceEqDiff, Nat.reduceLeDiff, Nat.zero_le, List.length_nil, List.length_cons, Nat.zero_add, true_or, or_true, false_or, or_false, true_and, and_true, and_self, mb_01, mb_t, mb_f]
  exact c_find_loop (z := z) (d := d) hl hcs hW h 11 0 _ rfl ⟨rfl, rfl, rfl⟩
theorem c_which_loop {cs : List Nat} (hcs : isW cs) (hlg : lg < 2) (hW : rw_W W) (h : rw_M I J lg W) (hs : I 127 19 = 1) (ht : J 127 20 = tk_w cs) : ∀ (w i : Nat) (cur : Int32), i + w = 11 → Q (some (.int ((List.range' i w).foldl (fun i k => if W lg k = cs then nI k else i) cur))) I J → mm_at z (mm_call z d) (mm_code 154) Q 5 [some (.ref 127), some (.int cur), some (.int (nI i))] [] I J
  | 0, i, cur, hi, k => by
    rw [hk_154_5]
    have c1 : (11 ≤ nI i) = True := by rw [show (11 : Int32) = nI 11 from rfl, le_nI (by omega) (by omega)]; exact eq_true (by omega)
    simp only [ce_154, bk_154, mmE, mmE0, mmH, mT, mR, mRf, mAl, mAs, mAz, mAn, Int.reduceToNat, Int32.reduceOfInt, Int64.reduceOfInt, Int.reduceAdd, swE, Nat.reduceDiv, Nat.reduceMod, Nat.reduceAdd, Nat.reduceMul, Nat.reduceEqDiff, Nat.reduceLeDiff, Nat.zero_le, List.length_nil, List.length_cons, Nat.zero_add, true_or, or_true, false_or, or_false, true_and, and_true, and_self, mb_01, mb_t, mb_f, c1, true_implies, not_true_eq_false, false_implies, and_true]
    exact k
  | w + 1, i, cur, hi, k => by
    rw [hk_154_5]
    have c1 : (11 ≤ nI i) = False := by rw [show (11 : Int32) = nI 11 from rfl, le_nI (by omega) (by omega)]; exact eq_false (by omega)
    have ih := c_which_loop hcs hlg hW h hs ht w (i + 1)
    rw [nI_succ] at ih
    rw [List.range'_succ, List.foldl_cons] at k
    simp only [ce_154, bk_154, mmE, mmE0, mmH, mT, mR, mRf, mAl, mAs, mAz, mAn, Int.reduceToNat, Int32.reduceOfInt, Int64.reduceOfInt, Int.reduceAdd, swE, Nat.reduceDiv, Nat.reduceMod, Nat.reduceAdd, Nat.reduceMul, Nat.reduceEqDiff, Nat.reduceLeDiff, Nat.zero_le, List.length_nil, List.length_cons, Nat.zero_add, true_or, or_true, false_or, or_false, true_and, and_true, and_self, mb_01, mb_t, mb_f, c1, hs, ht, h.1, i11', ix22 (show 11 * lg + i < 22 by omega), h.2 lg i hlg (by omega), lc_ne, wd_m (hW.1 lg i hlg (by omega)) hcs, true_implies, not_true_eq_false, not_false_eq_true, false_implies, and_true, true_and]
    by_cases q : W lg i = cs
    · rw [if_pos q] at k
      simp only [q, true_implies, not_true_eq_false, false_implies, and_true, true_and]
      exact ih _ (by omega) k
    · rw [if_neg q] at k
      simp only [q, true_implies, not_false_eq_true, false_implies, and_true, true_and]
      exact ih _ (by omega) k
theorem c_which {cs : List Nat} (hlg : lg < 2) (hW : rw_W W) (h : rw_M I J lg W) (hs : I 127 19 = nI (tk_s cs)) (ht : tk_s cs = 1 → J 127 20 = tk_w cs) (Q : Option Value → mm_I → mm_J → Prop) : mm_call z (d + 1) 154 [.ref 127] I J Q = Q (some (.int (wI (if tk_s cs = 1 then wh (W lg) cs else none)))) I J := by
  refine mm_ev ?_ Q
  simp only [ce_154, bk_154, mmE, mmE0, mmH, mT, mR, mRf, mAl, mAs, mAz, mAn, Int.reduceToNat, Int32.reduceOfInt, Int64.reduceOfInt, Int.reduceAdd, swE, Nat.reduceDiv, Nat.reduceMod, Nat.reduceAdd, Nat.reduceMul, Nat.reduceEqDiff, Nat.reduceLeDiff, Nat.zero_le, List.length_nil, List.length_cons, Nat.zero_add, true_or, or_true, false_or, or_false, true_and, and_true, and_self, mb_01, mb_t, mb_f]
  by_cases q : tk_s cs = 1
  · rw [if_pos q]
    rw [q] at hs
    refine c_which_loop (z := z) (d := d) (tk_s1.mp q) hlg hW h hs (ht q) 11 0 _ rfl ⟨?_, rfl, rfl⟩
    rw [wh_fold (fun k k' => hW.2 lg k k' hlg) 11 0 _ rfl]
    rfl
  · rw [if_neg q, show (0 : Int32) = nI 0 from rfl, hk_154_5]
    have c0 : (11 ≤ nI 0) = False := by decide
    have c1 : (nI (tk_s cs) = 1) = False := by
      rw [show (1 : Int32) = nI 1 from rfl, eq_nI (by have := tk_s_lt cs; omega) (by omega)]
      exact eq_false q
    simp only [ce_154, bk_154, mmE, mmE0, mmH, mT, mR, mRf, mAl, mAs, mAz, mAn, Int.reduceToNat, Int32.reduceOfInt, Int64.reduceOfInt, Int.reduceAdd, swE, Nat.reduceDiv, Nat.reduceMod, Nat.reduceAdd, Nat.reduceMul, Nat.reduceEqDiff, Nat.reduceLeDiff, Nat.zero_le, List.length_nil, List.length_cons, Nat.zero_add, true_or, or_true, false_or, or_false, true_and, and_true, and_self, mb_01, mb_t, mb_f, c0, c1, hs, true_implies, not_true_eq_false, not_false_eq_true, false_implies, and_true, true_and]
    rfl
theorem w_set {l k : Nat} {v : Int64} (hl : l < 2) (hk : k < 11) (kk : Q none I (mm_wJ J 107 (11 * l + k) v)) : mm_call z (d + 1) 95 [.ref 106, .int (nI l), .int (nI k), .long v] I J Q := by
  simp only [ce_95, bk_95, mmE, mmE0, mmH, mT, mR, mRf, mAl, mAs, mAz, mAn, Int.reduceToNat, Int32.reduceOfInt, Int64.reduceOfInt, Int.reduceAdd, swE, Nat.reduceDiv, Nat.reduceMod, Nat.reduceAdd, Nat.reduceMul, Nat.reduceEqDiff, Nat.reduceLeDiff, Nat.zero_le, List.length_nil, List.length_cons, Nat.zero_add, true_or, or_true, false_or, or_false, true_and, and_true, and_self, mb_01, mb_t, mb_f, i11, ix22 (show 11 * l + k < 22 by omega), true_implies, not_true_eq_false, not_false_eq_true, false_implies, and_true, true_and]
  exact kk
end WD
