/-! circles -/
def nxc (s : st_T) (G : Nat → gr_T) (r : Nat) : Nat := ((osS s r).find? fun o => decide (o ≤ sNr s) && gw G o).getD r
def st0 (s : st_T) (G : Nat → gr_T) : Option Nat := (List.range' 1 (sNr s)).find? (gw G)
def cyM (x : Nat → Nat) : Nat := ((List.range' 0 42).find? fun U => (List.range' 0 U).any fun e => x e == x U).getD 0
def cyE (x : Nat → Nat) : Nat := ((List.range' 0 (cyM x)).find? fun e => x e == x (cyM x)).getD 0
def ciS (s : st_T) (G : Nat → gr_T) : List Nat := match st0 s G with
  | none => []
  | some r => (List.range' (cyE (ph (nxc s G) r)) (cyM (ph (nxc s G) r) - cyE (ph (nxc s G) r))).map (ph (nxc s G) r)
theorem find_is {p : Nat → Bool} {n a : Nat} (ha : a < n) (h1 : p a = true) (h2 : ∀ b, b < a → p b = false) : (List.range' 0 n).find? p = some a := by
  rw [List.find?_eq_some_iff_append]
  refine ⟨h1, List.range' 0 a, List.range' (a + 1) (n - a - 1), ?_, fun b hb => ?_⟩
  · have e1 : List.range' 0 n = List.range' 0 a ++ List.range' a (n - a) := by
      have := List.range'_append (s := 0) (m := a) (n := n - a) (step := 1)
      rw [show a + (n - a) = n by omega, Nat.one_mul, Nat.zero_add] at this
      exact this.symm
    rw [e1, show n - a = (n - a - 1) + 1 by omega, List.range'_succ]
    rfl
  · rw [List.mem_range'_1] at hb
    rw [h2 b (by omega)]
    rfl
theorem cyM_is {x : Nat → Nat} {U e : Nat} (h : cy x U e) (hM : U ≤ 41) : cyM x = U ∧ cyE x = e := by
  have a : cyM x = U := by
    unfold cyM
    rw [find_is (a := U) (by omega)]
    · rfl
    · exact List.any_eq_true.mpr ⟨e, List.mem_range'_1.mpr (by have := h.1; omega), beq_iff_eq.mpr h.2.1⟩
    · intro b hb
      rw [Bool.eq_false_iff]
      intro q
      obtain ⟨c, hc, ec⟩ := List.any_eq_true.mp q
      rw [List.mem_range'_1] at hc
      exact h.2.2 c b (by omega) hb (beq_iff_eq.mp ec)
  refine ⟨a, ?_⟩
  unfold cyE
  rw [a, find_is (p := fun e => x e == x U) (a := e) h.1 (beq_iff_eq.mpr h.2.1)]
  · rfl
  · intro b hb
    show (x b == x U) = false
    rw [beq_eq_false_iff_ne]
    intro q
    exact h.2.2 b e hb h.1 (q.trans h.2.1.symm)
/-- a row that waits at the end waits for one that waits -/
theorem nxc_ok {s : st_T} {G : Nat → gr_T} {r : Nat} (hv : va s) (hn : gnx (sNr s) (osS s) G = none) (h1 : 1 ≤ r) (h2 : r ≤ sNr s) (hw : gw G r = true) : 1 ≤ nxc s G r ∧ nxc s G r ≤ sNr s ∧ gw G (nxc s G r) = true ∧ (osS s r).find? (fun o => decide (o ≤ sNr s) && gw G o) = some (nxc s G r) := by
  have hg := gnx_none hn r h1 h2
  unfold grd at hg
  rw [hw, Bool.true_and] at hg
  unfold nxc
  cases e : (osS s r).find? (fun o => decide (o ≤ sNr s) && gw G o) with
  | none =>
    exfalso
    rw [List.all_eq_false] at hg
    obtain ⟨o, ho, q⟩ := hg
    have := List.find?_eq_none.mp e o ho
    rw [Bool.not_eq_true] at this
    rw [this] at q
    exact q rfl
  | some o =>
    have m := List.mem_of_find?_eq_some e
    have p := List.find?_some e
    rw [Bool.and_eq_true, decide_eq_true_eq] at p
    exact ⟨((hv.2.2.2.1 r h1 h2).2.2.2.2 o m).1, p.1, p.2, rfl⟩
theorem ph_ok {s : st_T} {G : Nat → gr_T} {r : Nat} (hv : va s) (hn : gnx (sNr s) (osS s) G = none) (hr : st0 s G = some r) : ∀ i, 1 ≤ ph (nxc s G) r i ∧ ph (nxc s G) r i ≤ sNr s ∧ gw G (ph (nxc s G) r i) = true
  | 0 => by
    have m := List.mem_of_find?_eq_some hr
    have p := List.find?_some hr
    rw [List.mem_range'_1] at m
    exact ⟨by show 1 ≤ r; omega, by show r ≤ _; omega, p⟩
  | i + 1 => by
    obtain ⟨a, b, c⟩ := ph_ok hv hn hr i
    obtain ⟨x, y, w, _⟩ := nxc_ok hv hn a b c
    exact ⟨x, y, w⟩
section CI
variable {z : mm_S} {d : Nat} {I : mm_I} {J : mm_J} {s : st_T} {G : Nat → gr_T} {Q : Option Value → mm_I → mm_J → Prop}
theorem ix40 {x : Nat} (h : x < 40) : vp_in (nI x) 40 = True ∧ (nI x).toNatClampNeg = x ∧ (40 ≤ nI x) = False ∧ (nI x < 40) = True := ⟨eq_true (vp_in_nI h (by decide)), nI_clamp (by omega), eq_false (nI_ge (b := 40) h (by decide)), eq_true (nI_lt (b := 40) h (by decide))⟩
theorem w_pop_loop {x : Nat → Nat} {a l : Nat} (hl : l ≤ 40) (hx : ∀ i, x i ≤ 40) (ha : a ≤ 40) (hc : ∀ i, i < l → I 126 i = nI (x i)) : ∀ (w i : Nat), i + w = l → Q (some (.int (nI (((List.range' i w).find? fun i => x i == a).getD l)))) I J → mm_at z (mm_call z d) (mm_code 21) Q 2 [some (.ref 112), some (.int (nI a)), some (.int (nI l)), some (.int (nI i))] [] I J
  | 0, i, hi, k => by
    rw [hk_21_2]
    have c1 : (nI l ≤ nI i) = True := by rw [le_nI (by omega) (by omega)]; exact eq_true (by omega)
    simp only [bk_21.2.2, mmE, mmE0, mmH, mT, mR, mRf, mAl, mAs, mAz, mAn, Int.reduceToNat, Int32.reduceOfInt, Int64.reduceOfInt, Int.reduceAdd, swE, Nat.reduceDiv, Nat.reduceMod, Nat.reduceAdd, Nat.reduceMul, Nat.reduceEqDiff, Nat.reduceLeDiff, Nat.zero_le, List.length_nil, List.length_cons, Nat.zero_add, true_or, or_true, false_or, or_false, true_and, and_true, and_self, mb_01, mb_t, mb_f, c1, true_implies, not_true_eq_false, not_false_eq_true, false_implies, and_true, true_and]
    exact k
  | w + 1, i, hi, k => by
    have ih := w_pop_loop hl hx ha hc w (i + 1) (by omega)
    rw [nI_succ] at ih
    rw [hk_21_2]
    have c1 : (nI l ≤ nI i) = False := by rw [le_nI (by omega) (by omega)]; exact eq_false (by omega)
    have e1 : (nI (x i) = nI a) = (x i = a) := eq_nI (by have := hx i; omega) (by omega)
    rw [List.range'_succ, List.find?_cons] at k
    simp only [bk_21.2.1, mmE, mmE0, mmH, mT, mR, mRf, mAl, mAs, mAz, mAn, Int.reduceToNat, Int32.reduceOfInt, Int64.reduceOfInt, Int.reduceAdd, swE, Nat.reduceDiv, Nat.reduceMod, Nat.reduceAdd, Nat.reduceMul, Nat.reduceEqDiff, Nat.reduceLeDiff, Nat.zero_le, List.length_nil, List.length_cons, Nat.zero_add, true_or, or_true, false_or, or_false, true_and, and_true, and_self, mb_01, mb_t, mb_f, c1, ix40 (show i < 40 by omega), hc i (by omega), e1, true_implies, not_true_eq_false, not_false_eq_true, false_implies, and_true, true_and]
    by_cases q : x i = a
    · rw [show (x i == a) = true from beq_iff_eq.mpr q] at k
      simp only [eq_true q, true_implies, not_true_eq_false, not_false_eq_true, false_implies, and_true, true_and]
      exact k
    · rw [show (x i == a) = false from beq_eq_false_iff_ne.mpr q] at k
      simp only [q, true_implies, not_true_eq_false, not_false_eq_true, false_implies, and_true, true_and]
      exact ih k
theorem c_pop {x : Nat → Nat} {a l : Nat} (hl : l ≤ 40) (hx : ∀ i, x i ≤ 40) (ha : a ≤ 40) (hc : ∀ i, i < l → I 126 i = nI (x i)) (Q : Option Value → mm_I → mm_J → Prop) : mm_call z (d + 1) 21 [.ref 112, .int (nI a), .int (nI l)] I J Q = Q (some (.int (nI (((List.range' 0 l).find? fun i => x i == a).getD l)))) I J := by
  refine mm_ev ?_ Q
  simp only [ce_21, bk_21.1, mmE, mmE0, mmH, mT, mR, mRf, mAl, mAs, mAz, mAn, Int.reduceToNat, Int32.reduceOfInt, Int64.reduceOfInt, Int.reduceAdd, swE, Nat.reduceDiv, Nat.reduceMod, Nat.reduceAdd, Nat.reduceMul, Nat.reduceEqDiff, Nat.reduceLeDiff, Nat.zero_le, List.length_nil, List.length_cons, Nat.zero_add, true_or, or_true, false_or, or_false, true_and, and_true, and_self, mb_01, mb_t, mb_f]
  exact w_pop_loop (z := z) (d := d) hl hx ha hc l 0 (by omega) ⟨rfl, rfl, rfl⟩
theorem w_fco_loop {r : Nat} (h1 : 1 ≤ r) (h2 : r ≤ sNr s) (hv : va s) (h : shC I s) (hG : gCs I (sNr s) G) : ∀ (l : List Nat) (i : Nat), (osS s r).drop i = l → i ≤ (osS s r).length → Q (some (.int (nI ((l.find? fun o => decide (o ≤ sNr s) && gw G o).getD r)))) I J → mm_at z (mm_call z (d + 2)) (mm_code 22) Q 17 [some (.ref 112), some (.int (nI r)), some (.ref (4 + 2 * r)), some (.int (nI i))] [] I J
  | [], i, hl, hi, k => by
    have v3 := hv.1.2.2.1
    obtain ⟨t1, _⟩ := mTr4 r (by omega) h1
    have hrow := h.2.2 r h1 h2
    have hl6 := (hv.2.2.2.1 r h1 h2).2.2.2.1
    have e : (osS s r).length ≤ i := List.drop_eq_nil_iff.mp hl
    have eL : (osS s r).length = (sR s r).2.2.2.length := rfl
    rw [hk_22_17]
    have c1 : (nI (sR s r).2.2.2.length ≤ nI i) = True := by rw [le_nI (by omega) (by omega)]; exact eq_true e
    simp only [bk_22.2.2.2, mmE, mmE0, mmH, mT, mR, mRf, mAl, mAs, mAz, mAn, Int.reduceToNat, Int32.reduceOfInt, Int64.reduceOfInt, Int.reduceAdd, swE, Nat.reduceDiv, Nat.reduceMod, Nat.reduceAdd, Nat.reduceMul, Nat.reduceEqDiff, Nat.reduceLeDiff, Nat.zero_le, List.length_nil, List.length_cons, Nat.zero_add, true_or, or_true, false_or, or_false, true_and, and_true, and_self, mb_01, mb_t, mb_f, t1, hrow.2.2.2.1, c1, true_implies, not_true_eq_false, not_false_eq_true, false_implies, and_true, true_and]
    exact k
  | o :: l, i, hl, hi, k => by
    have v3 := hv.1.2.2.1
    obtain ⟨t1, t2, t3, _⟩ := mTr4 r (by omega) h1
    have hrow := h.2.2 r h1 h2
    obtain ⟨_, _, _, hl6, ho⟩ := hv.2.2.2.1 r h1 h2
    have eL : (osS s r).length = (sR s r).2.2.2.length := rfl
    have il : i < (osS s r).length := by
      rcases Nat.lt_or_ge i (osS s r).length with q | q
      · exact q
      · rw [List.drop_eq_nil_iff.mpr q] at hl; cases hl
    have eo : (sR s r).2.2.2.getD i 0 = o := by
      have := List.drop_eq_getElem_cons il
      rw [hl] at this
      injection this with a b
      show (osS s r).getD i 0 = o
      rw [List.getD_eq_getElem?_getD, List.getElem?_eq_getElem il]
      exact a.symm
    have mo : o ∈ (sR s r).2.2.2 := List.mem_of_mem_drop (i := i) (by show o ∈ (osS s r).drop i; rw [hl]; exact List.mem_cons_self)
    obtain ⟨o1, o2⟩ := ho o mo
    have hl' : (osS s r).drop (i + 1) = l := by
      rw [← List.tail_drop, hl]
      rfl
    have ih := w_fco_loop h1 h2 hv h hG l (i + 1) hl' il
    rw [nI_succ] at ih
    rw [hk_22_17]
    have c1 : (nI (sR s r).2.2.2.length ≤ nI i) = False := by rw [le_nI (by omega) (by omega)]; exact eq_false (by omega)
    have cO := fun (z : mm_S) (d : Nat) => c_ofAt (z := z) (d := d) (J := J) (i := i) t1 t2 t3 hrow hl6 il
    rw [eo] at cO
    rw [List.find?_cons] at k
    simp only [bk_22.2.2.1, mmE, mmE0, mmH, mT, mR, mRf, mAl, mAs, mAz, mAn, Int.reduceToNat, Int32.reduceOfInt, Int64.reduceOfInt, Int.reduceAdd, swE, Nat.reduceDiv, Nat.reduceMod, Nat.reduceAdd, Nat.reduceMul, Nat.reduceEqDiff, Nat.reduceLeDiff, Nat.zero_le, List.length_nil, List.length_cons, Nat.zero_add, true_or, or_true, false_or, or_false, true_and, and_true, and_self, mb_01, mb_t, mb_f, Option.toList_some, Option.toList_none, List.cons_append, List.nil_append, t1, hrow.2.2.2.1, c1, cO, c_isCirc o1 o2 hv h hG, mb_0, true_implies, not_true_eq_false, not_false_eq_true, false_implies, and_true, true_and]
    cases e : decide (o ≤ sNr s) && gw G o with
    | true =>
      rw [e] at k
      simp only [Bool.true_eq_false, true_implies, not_true_eq_false, not_false_eq_true, false_implies, and_true, true_and]
      exact k
    | false =>
      rw [e] at k
      simp only [true_implies, not_true_eq_false, not_false_eq_true, false_implies, and_true, true_and]
      exact ih k
theorem c_fco {r : Nat} (h1 : 1 ≤ r) (h2 : r ≤ sNr s) (hv : va s) (h : shC I s) (hG : gCs I (sNr s) G) (Q : Option Value → mm_I → mm_J → Prop) : mm_call z (d + 3) 22 [.ref 112, .int (nI r)] I J Q = Q (some (.int (nI (nxc s G r)))) I J := by
  refine mm_ev ?_ Q
  have v3 := hv.1.2.2.1
  simp only [ce_22, bk_22.1, bk_22.2.1, mmE, mmE0, mmH, mT, mR, mRf, mAl, mAs, mAz, mAn, Int.reduceToNat, Int32.reduceOfInt, Int64.reduceOfInt, Int.reduceAdd, swE, Nat.reduceDiv, Nat.reduceMod, Nat.reduceAdd, Nat.reduceMul, Nat.reduceEqDiff, Nat.reduceLeDiff, Nat.zero_le, List.length_nil, List.length_cons, Nat.zero_add, true_or, or_true, false_or, or_false, true_and, and_true, and_self, mb_01, mb_t, mb_f, Option.toList_some, Option.toList_none, List.cons_append, List.nil_append, c_rowAt v3 h.1.2.2 h1 h2, true_implies, not_true_eq_false, not_false_eq_true, false_implies, and_true, true_and]
  exact w_fco_loop (z := z) (d := d) h1 h2 hv h hG (osS s r) 0 rfl (Nat.zero_le _) ⟨rfl, rfl, rfl⟩
theorem w_cut_loop {x : Nat → Nat} {U e : Nat} {o2 : Int32} (he : e < U) (hM : U ≤ 40) : ∀ (w i : Nat) (I : mm_I), i + w = U - e → I 112 9 = nI (U - e) → (∀ j, j < i → I 126 j = nI (x (e + j))) → (∀ j, i ≤ j → j < U → I 126 j = nI (x j)) → (∀ I', (∀ k, k ≠ 126 → I' k = I k) → (∀ j, j < U - e → I' 126 j = nI (x (e + j))) → Q none I' J) → mm_at z (mm_call z d) (mm_code 23) Q 9 [some (.ref 112), some (.int (nI e)), some (.int o2), some (.int (nI i))] [] I J
  | 0, i, I, hi, hc, ha, hb, K => by
    rw [hk_23_9]
    have c1 : (nI (U - e) ≤ nI i) = True := by rw [le_nI (by omega) (by omega)]; exact eq_true (by omega)
    simp only [bk_23.2, mmE, mmE0, mmH, mT, mR, mRf, mAl, mAs, mAz, mAn, Int.reduceToNat, Int32.reduceOfInt, Int64.reduceOfInt, Int.reduceAdd, swE, Nat.reduceDiv, Nat.reduceMod, Nat.reduceAdd, Nat.reduceMul, Nat.reduceEqDiff, Nat.reduceLeDiff, Nat.zero_le, List.length_nil, List.length_cons, Nat.zero_add, true_or, or_true, false_or, or_false, true_and, and_true, and_self, mb_01, mb_t, mb_f, hc, c1, true_implies, not_true_eq_false, not_false_eq_true, false_implies, and_true, true_and]
    exact K I (fun _ _ => rfl) (fun j hj => ha j (by omega))
  | w + 1, i, I, hi, hc, ha, hb, K => by
    rw [hk_23_9]
    have c1 : (nI (U - e) ≤ nI i) = False := by rw [le_nI (by omega) (by omega)]; exact eq_false (by omega)
    have e1 : nI e + nI i = nI (e + i) := nI_add e i
    simp only [mmE, mmE0, mmH, mT, mR, mRf, mAl, mAs, mAz, mAn, Int.reduceToNat, Int32.reduceOfInt, Int64.reduceOfInt, Int.reduceAdd, swE, Nat.reduceDiv, Nat.reduceMod, Nat.reduceAdd, Nat.reduceMul, Nat.reduceEqDiff, Nat.reduceLeDiff, Nat.zero_le, List.length_nil, List.length_cons, Nat.zero_add, true_or, or_true, false_or, or_false, true_and, and_true, and_self, mb_01, mb_t, mb_f, hc, c1, e1, ix40 (show e + i < 40 by omega), ix40 (show i < 40 by omega), hb (e + i) (by omega) (by omega), true_implies, not_true_eq_false, not_false_eq_true, false_implies, and_true, true_and]
    rw [← nI_succ]
    refine w_cut_loop he hM w (i + 1) _ (by omega) (by rw [mWI, if_neg (by decide)]; exact hc) (fun j hj => ?_) (fun j j1 j2 => ?_) (fun I' k1 k2 => K I' (fun k hk => ?_) k2)
    · rw [mWI, if_pos rfl]
      by_cases q : j = i
      · rw [if_pos q, q]
      · rw [if_neg q]; exact ha j (by omega)
    · rw [mWI, if_pos rfl, if_neg (by omega)]; exact hb j (by omega) j2
    · rw [k1 k hk]
      funext t
      rw [mWI, if_neg hk]
end CI
