/-! the reference keeps a fact: all kinds -/
theorem fm_pair_n {a b : Nat} (ha : a < 7) (hb : b < 7) : fm_pair (nI a) (nI b) = nI ((ex2 a b).1 * 7 + (ex2 a b).2) := by
  unfold fm_pair ex2
  simp only [le_nI (show b < 2 ^ 31 by omega) (show a < 2 ^ 31 by omega)]
  rw [show (7 : Int32) = nI 7 from rfl, nI_mul, nI_mul, nI_add, nI_add]
  by_cases q : b < a
  · rw [if_pos q, if_pos (by omega)]
    congr 1
    omega
  · rw [if_neg q]
    by_cases q2 : b ≤ a
    · rw [if_pos q2]
      congr 1
      have : a = b := by omega
      show 7 * b + a = a * 7 + b
      omega
    · rw [if_neg q2]
      congr 1
      show 7 * a + b = a * 7 + b
      omega
section KG
variable {z : mm_S} {d : Nat} {I : mm_I} {J : mm_J} {np : Nat} {Q : Option Value → mm_I → mm_J → Prop}
theorem ix41 {x : Nat} (h : x < 41) : vp_in (nI x) 41 = True ∧ (nI x).toNatClampNeg = x := ⟨eq_true (vp_in_nI h (by decide)), nI_clamp (by omega)⟩
theorem w_sort0 {r k f : Nat} {l : List Nat} (hr : r ≤ 40) (hnp : np ≤ 7) (hk : k = 0 ∨ k = 5) (hl : ∀ x, x < 4 → I 141 x = nI (l.getD x 0)) (hlen : l.length = kdN k) (hln : ∀ x ∈ l, x < np) (hN : n_number k (l.getD 0 0) (l.getD 1 0) (l.getD 2 0) (l.getD 3 0) = some f) (hkd : I 127 22 = nI k) (hpt : I 127 0 = nI np) (K : ∀ I', (∀ c, c ≠ 143 → I' c = I c) → (∀ q, q < 4 * r ∨ 4 * r + 4 ≤ q → I' 143 q = I 143 q) → (∀ j, j < 4 → I' 143 (4 * r + j) = pI f j) → Q none I' J) : mm_call z (d + 2) 158 [.ref 127, .int (nI r)] I J Q := by
  have hl7 : ∀ x, l.getD x 0 < 7 := by
    intro x
    rw [List.getD_eq_getElem?_getD]
    cases e : l[x]? with
    | none => show 0 < 7; omega
    | some v =>
      have := hln v (List.mem_of_getElem? e)
      show v < 7
      omega
  have hkf := (nn_kd (show k < 7 by omega) (hl7 0) (hl7 1) (hl7 2) (hl7 3) hN).1
  -- the points in their order
  have hL : ((List.range' 0 np).filter fun p => l.contains p) = (List.range' 0 (kdN k)).map (pt f) := by
    rw [flt7 hnp hln]
    rcases hk with rfl | rfl
    · have h3 : l.length = 3 := hlen
      match l, h3 with
      | [a, b, c], _ =>
        have := srt3_all
        simp only [List.all_eq_true, List.mem_range] at this
        have := this a (hl7 0) b (hl7 1) c (hl7 2)
        unfold srt3 at this
        have e : n_ofLine a b c = some f := hN
        rw [e] at this
        exact beq_iff_eq.mp this
    · have h4 : l.length = 4 := hlen
      match l, h4 with
      | [a, b, c, e], _ =>
        have := srt4_all
        simp only [List.all_eq_true, List.mem_range] at this
        have := this a (hl7 0) b (hl7 1) c (hl7 2) e (hl7 3)
        unfold srt4 at this
        have e : n_ofCircle a b c e = some f := hN
        rw [e] at this
        exact beq_iff_eq.mp this
  have k4 := kdN_le k
  have hll : ((List.range' 0 np).filter fun p => l.contains p).length = kdN k := by rw [hL, List.length_map, List.length_range']
  have his : ∀ p, l.contains p = (List.range' 0 (kdN k)).any fun x => l.getD x 0 == p := by
    intro p
    rw [← hlen, Bool.eq_iff_iff, List.contains_iff_mem, List.any_eq_true]
    constructor
    · intro q
      obtain ⟨x, hx, e⟩ := List.mem_iff_getElem.mp q
      refine ⟨x, List.mem_range'_1.mpr (by omega), beq_iff_eq.mpr ?_⟩
      rw [List.getD_eq_getElem?_getD, List.getElem?_eq_getElem hx]
      exact e
    · rintro ⟨x, hx, e⟩
      rw [List.mem_range'_1] at hx
      have e := beq_iff_eq.mp e
      rw [List.getD_eq_getElem?_getD, List.getElem?_eq_getElem (by omega)] at e
      rw [← e]
      exact List.getElem_mem _
  simp only [ce_158, bk_158.1, mmE, mmE0, mmH, mT, mR, mRf, mAl, mAs, mAz, mAn, Int.reduceToNat, Int32.reduceOfInt, Int64.reduceOfInt, Int.reduceAdd, swE, Nat.reduceDiv, Nat.reduceMod, Nat.reduceAdd, Nat.reduceMul, Nat.reduceEqDiff, Nat.reduceLeDiff, Nat.zero_le, List.length_nil, List.length_cons, Nat.zero_add, true_or, or_true, false_or, or_false, true_and, and_true, and_self, mb_01, mb_t, mb_f]
  refine w_mput hr (fun I1 g1 g2 g3 g4 g5 g6 => ?_)
  simp only [mmE, mmE0, mmH, mT, mR, mRf, mAl, mAs, mAz, mAn, Int.reduceToNat, Int32.reduceOfInt, Int64.reduceOfInt, Int.reduceAdd, swE, Nat.reduceDiv, Nat.reduceMod, Nat.reduceAdd, Nat.reduceMul, Nat.reduceEqDiff, Nat.reduceLeDiff, Nat.zero_le, List.length_nil, List.length_cons, Nat.zero_add, true_or, or_true, false_or, or_false, true_and, and_true, and_self, mb_01, mb_t, mb_f, Option.toList_some, Option.toList_none, List.cons_append, List.nil_append]
  refine w_s0_out (z := z) (d := d) (l := l) his (show k < 7 by omega) hr hnp hl7 np 0 0 I1 _ _ (by omega) (by rw [hll]; omega) ?_ ?_ ?_ (fun I2 f1 f2 f3 => ?_)
  · intro x hx
    rw [g1 _ (by decide)]; exact hl x hx
  · rw [g1 _ (by decide)]; exact hkd
  · rw [g1 _ (by decide)]; exact hpt
  rw [hll] at f2 f3
  refine K I2 (fun c hc => (f1 c hc).trans (g1 c hc)) (fun q hq => ?_) (fun j hj => ?_)
  · rw [f2 q (by omega), g2 q hq]
  · unfold pI
    rw [hkf]
    by_cases q : j < kdN k
    · rw [if_pos q]
      have := f3 j q
      rw [Nat.add_zero] at this
      rw [this, hL, List.getD_eq_getElem?_getD, List.getElem?_map, List.getElem?_range' q]
      show nI (pt f (0 + 1 * j)) = _
      rw [Nat.one_mul, Nat.zero_add]
    · rw [if_neg q, f2 (4 * r + j) (by omega)]
      have j3 : j = 3 := by rcases kd34 k with q' | q' <;> omega
      rw [j3]
      exact g6
theorem w_keep {r k f : Nat} {l : List Nat} (hr : r ≤ 40) (hnp : np ≤ 7) (hk : k < 7) (hl : ∀ x, x < 4 → I 141 x = nI (l.getD x 0)) (hlen : l.length = kdN k) (hln : ∀ x ∈ l, x < np) (hN : n_number k (l.getD 0 0) (l.getD 1 0) (l.getD 2 0) (l.getD 3 0) = some f) (hkd : I 127 22 = nI k) (hpt : I 127 0 = nI np) (K : ∀ I', (∀ c, c ≠ 142 → c ≠ 143 → c ≠ 144 → I' c = I c) → (∀ q, q ≠ r → I' 142 q = I 142 q ∧ I' 144 q = I 144 q) → (∀ q, q < 4 * r ∨ 4 * r + 4 ≤ q → I' 143 q = I 143 q) → I' 142 r = nI (kd f) → I' 144 r = nI (sl f) → (∀ j, j < 4 → I' 143 (4 * r + j) = pI f j) → Q none I' J) : mm_call z (d + 3) 157 [.ref 127, .int (nI r)] I J Q := by
  have np0 : 0 < np := by
    have : l ≠ [] := by
      rintro rfl
      rcases kd34 k with q | q <;> rw [q] at hlen <;> cases hlen
    obtain ⟨x, hx⟩ := List.exists_mem_of_ne_nil _ this
    have := hln x hx
    omega
  have ltn : ∀ x, l.getD x 0 < np := fun x => getD_lt hln np0 x
  have hl7 : ∀ x, l.getD x 0 < 7 := fun x => by have := ltn x; omega
  have hkf := (nn_kd hk (hl7 0) (hl7 1) (hl7 2) (hl7 3) hN).1
  obtain ⟨p0, p1, p2, p3⟩ := nf_pt hk (hl7 0) (hl7 1) (hl7 2) (hl7 3) hN
  have sE := rm_slot_n hnp hk (ltn 0) (ltn 1) (ltn 2) (hl7 3) (fun _ => ltn 3)
  rw [hN] at sE
  have wA : ∀ x j, mm_wI I 142 r x 141 j = I 141 j := fun x j => by rw [mWI, if_neg (by decide)]
  have wB : ∀ x j, mm_wI I 142 r x 127 j = I 127 j := fun x j => by rw [mWI, if_neg (by decide)]
  have wC : ∀ x y j, mm_wI (mm_wI I 142 r x) 144 r y 127 j = I 127 j := fun x y j => by rw [mWI, if_neg (by decide), mWI, if_neg (by decide)]
  have wD : ∀ x y j, mm_wI (mm_wI I 142 r x) 144 r y 141 j = I 141 j := fun x y j => by rw [mWI, if_neg (by decide), mWI, if_neg (by decide)]
  have hptK : mm_wI I 142 r (nI k) 127 0 = nI np := by rw [wB]; exact hpt
  simp only [ce_157, bk_157.1, mmE, mmE0, mmH, mT, mR, mRf, mAl, mAs, mAz, mAn, Int.reduceToNat, Int32.reduceOfInt, Int64.reduceOfInt, Int.reduceAdd, swE, Nat.reduceDiv, Nat.reduceMod, Nat.reduceAdd, Nat.reduceMul, Nat.reduceEqDiff, Nat.reduceLeDiff, Nat.zero_le, List.length_nil, List.length_cons, Nat.zero_add, true_or, or_true, false_or, or_false, true_and, and_true, and_self, mb_01, mb_t, mb_f, Option.toList_some, Option.toList_none, List.cons_append, List.nil_append, v4L, ix41 (show r < 41 by omega), hkd, wA, wB, wC, hl 0 (by omega), hl 1 (by omega), hl 2 (by omega), hl 3 (by omega), c_slot hnp hptK, sE, Option.map_some, eI_some, true_implies, not_true_eq_false, not_false_eq_true, false_implies, and_true, true_and]
  -- what is left is the points
  have hend : ∀ I', (∀ c, c ≠ 143 → I' c = mm_wI (mm_wI I 142 r (nI k)) 144 r (nI (sl f)) c) → (∀ q, q < 4 * r ∨ 4 * r + 4 ≤ q → I' 143 q = mm_wI (mm_wI I 142 r (nI k)) 144 r (nI (sl f)) 143 q) → (∀ j, j < 4 → I' 143 (4 * r + j) = pI f j) → Q none I' J := by
    intro I' g1 g2 g3
    refine K I' (fun c c1 c2 c3 => ?_) (fun q hq => ?_) (fun q hq => ?_) ?_ ?_ g3
    · rw [g1 c c2]
      funext q
      rw [mWI, if_neg c3, mWI, if_neg c1]
    · rw [g1 _ (by decide), g1 _ (by decide)]
      refine ⟨?_, ?_⟩
      · rw [mWI, if_neg (by decide), mWI, if_pos rfl, if_neg hq]
      · rw [mWI, if_pos rfl, if_neg hq, mWI, if_neg (by decide)]
    · rw [g2 q hq, mWI, if_neg (by decide), mWI, if_neg (by decide)]
    · rw [g1 _ (by decide), mWI, if_neg (by decide), mWI, if_pos rfl, if_pos rfl, hkf]
    · rw [g1 _ (by decide), mWI, if_pos rfl, if_pos rfl]
  have hput : ∀ a b c e I', (∀ x, x ≠ 143 → I' x = mm_wI (mm_wI I 142 r (nI k)) 144 r (nI (sl f)) x) → (∀ q, q < 4 * r ∨ 4 * r + 4 ≤ q → I' 143 q = mm_wI (mm_wI I 142 r (nI k)) 144 r (nI (sl f)) 143 q) → I' 143 (4 * r) = a → I' 143 (4 * r + 1) = b → I' 143 (4 * r + 2) = c → I' 143 (4 * r + 3) = e → a = pI f 0 → b = pI f 1 → c = pI f 2 → e = pI f 3 → Q none I' J := by
    intro a b c e I' g1 g2 h0 h1 h2 h3 e0 e1 e2 e3
    refine hend I' g1 g2 (fun j hj => ?_)
    rcases (show j = 0 ∨ j = 1 ∨ j = 2 ∨ j = 3 by omega) with rfl | rfl | rfl | rfl
    · rw [Nat.add_zero, h0, e0]
    · rw [h1, e1]
    · rw [h2, e2]
    · rw [h3, e3]
  have pI0 : pI f 0 = nI (pt f 0) := by unfold pI; rw [hkf, if_pos (by rcases kd34 k with q | q <;> omega)]
  have pI1 : pI f 1 = nI (pt f 1) := by unfold pI; rw [hkf, if_pos (by rcases kd34 k with q | q <;> omega)]
  have pI2 : pI f 2 = nI (pt f 2) := by unfold pI; rw [hkf, if_pos (by rcases kd34 k with q | q <;> omega)]
  have k0 : (nI k = 0) = (k = 0) := eq_nI (b := 0) (by omega) (by omega)
  have k5 : (nI k = 5) = (k = 5) := eq_nI (b := 5) (by omega) (by omega)
  have k4 : (nI k < 4) = (k < 4) := lt_nI (b := 4) (by omega) (by omega)
  have cmp : ∀ x y, (nI (l.getD x 0) ≤ nI (l.getD y 0)) = (l.getD x 0 ≤ l.getD y 0) := fun x y => le_nI (by have := hl7 x; omega) (by have := hl7 y; omega)
  by_cases q05 : k = 0 ∨ k = 5
  · have goal75 : mm_at z (mm_call z (d + 2)) (mm_code 157) Q 75 [some (.ref 127), some (.int (nI r)), some (.int (nI (l.getD 0 0))), some (.int (nI (l.getD 1 0))), some (.int (nI (l.getD 2 0))), some (.int (nI (l.getD 3 0)))] [] (mm_wI (mm_wI I 142 r (nI k)) 144 r (nI (sl f))) J := by
      simp only [bk_157.2.1, mmE, mmE0, mmH, mT, mR, mRf, mAl, mAs, mAz, mAn, Int.reduceToNat, Int32.reduceOfInt, Int64.reduceOfInt, Int.reduceAdd, swE, Nat.reduceDiv, Nat.reduceMod, Nat.reduceAdd, Nat.reduceMul, Nat.reduceEqDiff, Nat.reduceLeDiff, Nat.zero_le, List.length_nil, List.length_cons, Nat.zero_add, true_or, or_true, false_or, or_false, true_and, and_true, and_self, mb_01, mb_t, mb_f]
      refine w_sort0 hr hnp q05 (fun x hx => by rw [wD]; exact hl x hx) hlen hln hN (by rw [wC]; exact hkd) (by rw [wC]; exact hpt) (fun I' g1 g2 g3 => ?_)
      simp only [bk_157.2.2.2.2.2.2.2.2.2.2.2.2.2.2.2.2.2.2.2.2.2.2.2.2.2, mmE, mmE0, mmH, mT, mR, mRf, mAl, mAs, mAz, mAn, Int.reduceToNat, Int32.reduceOfInt, Int64.reduceOfInt, Int.reduceAdd, swE, Nat.reduceDiv, Nat.reduceMod, Nat.reduceAdd, Nat.reduceMul, Nat.reduceEqDiff, Nat.reduceLeDiff, Nat.zero_le, List.length_nil, List.length_cons, Nat.zero_add, true_or, or_true, false_or, or_false, true_and, and_true, and_self, mb_01, mb_t, mb_f, Option.toList_some, Option.toList_none, List.cons_append, List.nil_append]
      exact hend I' g1 g2 g3
    rcases q05 with q | q
    · simp only [k0, eq_true q, true_implies, not_true_eq_false, not_false_eq_true, false_implies, and_true, true_and]
      exact goal75
    · have n0 : ¬ k = 0 := by omega
      simp only [k0, k5, n0, eq_true q, true_implies, not_true_eq_false, not_false_eq_true, false_implies, and_true, true_and]
      exact goal75
  · have n0 : ¬ k = 0 := fun q => q05 (Or.inl q)
    have n5 : ¬ k = 5 := fun q => q05 (Or.inr q)
    simp only [k0, k5, n0, n5, true_implies, not_true_eq_false, not_false_eq_true, false_implies, and_true, true_and, bk_157.2.2.1, mmE, mmE0, mmH, mT, mR, mRf, mAl, mAs, mAz, mAn, Int.reduceToNat, Int32.reduceOfInt, Int64.reduceOfInt, Int.reduceAdd, swE, Nat.reduceDiv, Nat.reduceMod, Nat.reduceAdd, Nat.reduceMul, Nat.reduceEqDiff, Nat.reduceLeDiff, Nat.zero_le, List.length_nil, List.length_cons, Nat.zero_add, true_or, or_true, false_or, or_false, true_and, and_true, and_self, mb_01, mb_t, mb_f, wC, hkd, k4, cmp]
    by_cases q4 : k < 4
    · have k3 : k = 1 ∨ k = 2 ∨ k = 3 := by omega
      have kd4 : kdN k = 4 := by rcases k3 with rfl | rfl | rfl <;> rfl
      have pI3 : pI f 3 = nI (pt f 3) := by unfold pI; rw [hkf, if_pos (by omega)]
      have p3' := p3.resolve_left (by omega)
      have enf : nf k (l.getD 0 0) (l.getD 1 0) (l.getD 2 0) (l.getD 3 0) = nfP (l.getD 0 0) (l.getD 1 0) (l.getD 2 0) (l.getD 3 0) := by
        unfold nf
        rw [if_neg n0, if_neg n5, if_neg (by omega)]
      rw [enf] at p0 p1 p2 p3'
      unfold nfP at p0 p1 p2 p3'
      have fP := fm_pair_n (hl7 0) (hl7 1)
      have fQ := fm_pair_n (hl7 2) (hl7 3)
      have e1 : (ex2 (l.getD 0 0) (l.getD 1 0)).1 < 7 ∧ (ex2 (l.getD 0 0) (l.getD 1 0)).2 < 7 := by
        have a := hl7 0
        have b := hl7 1
        unfold ex2
        split <;> exact ⟨by assumption, by assumption⟩
      have e2 : (ex2 (l.getD 2 0) (l.getD 3 0)).1 < 7 ∧ (ex2 (l.getD 2 0) (l.getD 3 0)).2 < 7 := by
        have a := hl7 2
        have b := hl7 3
        unfold ex2
        split <;> exact ⟨by assumption, by assumption⟩
      have cP : (fm_pair (nI (l.getD 2 0)) (nI (l.getD 3 0)) ≤ fm_pair (nI (l.getD 0 0)) (nI (l.getD 1 0))) = ((ex2 (l.getD 2 0) (l.getD 3 0)).1 * 7 + (ex2 (l.getD 2 0) (l.getD 3 0)).2 ≤ (ex2 (l.getD 0 0) (l.getD 1 0)).1 * 7 + (ex2 (l.getD 0 0) (l.getD 1 0)).2) := by
        rw [fP, fQ]
        exact le_nI (by omega) (by omega)
      have mA : (ex2 (l.getD 0 0) (l.getD 1 0)) = if l.getD 1 0 ≤ l.getD 0 0 then (l.getD 1 0, l.getD 0 0) else (l.getD 0 0, l.getD 1 0) := by
        unfold ex2
        by_cases q : l.getD 1 0 < l.getD 0 0
        · rw [if_pos q, if_pos (by omega)]
        · by_cases q' : l.getD 1 0 ≤ l.getD 0 0
          · have : l.getD 1 0 = l.getD 0 0 := by omega
            rw [if_neg q, if_pos q', this]
          · rw [if_neg q, if_neg q']
      have mB : (ex2 (l.getD 2 0) (l.getD 3 0)) = if l.getD 3 0 ≤ l.getD 2 0 then (l.getD 3 0, l.getD 2 0) else (l.getD 2 0, l.getD 3 0) := by
        unfold ex2
        by_cases q : l.getD 3 0 < l.getD 2 0
        · rw [if_pos q, if_pos (by omega)]
        · by_cases q' : l.getD 3 0 ≤ l.getD 2 0
          · have : l.getD 3 0 = l.getD 2 0 := by omega
            rw [if_neg q, if_pos q', this]
          · rw [if_neg q, if_neg q']
      simp only [q4, true_implies, not_true_eq_false, not_false_eq_true, false_implies, and_true, true_and, bk_157.2.2.2.2.2.2.2.1, mmE, mmE0, mmH, mT, mR, mRf, mAl, mAs, mAz, mAn, Int.reduceToNat, Int32.reduceOfInt, Int64.reduceOfInt, Int.reduceAdd, swE, Nat.reduceDiv, Nat.reduceMod, Nat.reduceAdd, Nat.reduceMul, Nat.reduceEqDiff, Nat.reduceLeDiff, Nat.zero_le, List.length_nil, List.length_cons, Nat.zero_add, true_or, or_true, false_or, or_false, true_and, and_true, and_self, mb_01, mb_t, mb_f, Option.toList_some, Option.toList_none, List.cons_append, List.nil_append, c_mpair, cP, cmp]
      by_cases qP : (ex2 (l.getD 2 0) (l.getD 3 0)).1 * 7 + (ex2 (l.getD 2 0) (l.getD 3 0)).2 ≤ (ex2 (l.getD 0 0) (l.getD 1 0)).1 * 7 + (ex2 (l.getD 0 0) (l.getD 1 0)).2
      · rw [if_neg (by omega)] at p0 p1 p2 p3'
        simp only [qP, true_implies, not_true_eq_false, not_false_eq_true, false_implies, and_true, true_and, bk_157.2.2.2.2.2.2.2.2.2.2.2.2.2.2.2.2.1, bk_157.2.2.2.2.2.2.2.2.2.2.2.2.2.2.2.2.2.1, bk_157.2.2.2.2.2.2.2.2.2.2.2.2.2.2.2.2.2.2.1, bk_157.2.2.2.2.2.2.2.2.2.2.2.2.2.2.2.2.2.2.2.1, bk_157.2.2.2.2.2.2.2.2.2.2.2.2.2.2.2.2.2.2.2.2.1, bk_157.2.2.2.2.2.2.2.2.2.2.2.2.2.2.2.2.2.2.2.2.2.1, bk_157.2.2.2.2.2.2.2.2.2.2.2.2.2.2.2.2.2.2.2.2.2.2.1, bk_157.2.2.2.2.2.2.2.2.2.2.2.2.2.2.2.2.2.2.2.2.2.2.2.1, bk_157.2.2.2.2.2.2.2.2.2.2.2.2.2.2.2.2.2.2.2.2.2.2.2.2.1, mmE, mmE0, mmH, mT, mR, mRf, mAl, mAs, mAz, mAn, Int.reduceToNat, Int32.reduceOfInt, Int64.reduceOfInt, Int.reduceAdd, swE, Nat.reduceDiv, Nat.reduceMod, Nat.reduceAdd, Nat.reduceMul, Nat.reduceEqDiff, Nat.reduceLeDiff, Nat.zero_le, List.length_nil, List.length_cons, Nat.zero_add, true_or, or_true, false_or, or_false, true_and, and_true, and_self, mb_01, mb_t, mb_f, cmp]
        by_cases qa : l.getD 1 0 ≤ l.getD 0 0
        · rw [if_pos qa] at mA
          by_cases qb : l.getD 3 0 ≤ l.getD 2 0
          · rw [if_pos qb] at mB
            simp only [qa, qb, true_implies, not_true_eq_false, not_false_eq_true, false_implies, and_true, true_and]
            refine w_mput hr (fun I' g1 g2 h0 h1 h2 h3 => ?_)
            simp only [bk_157.2.2.2.2.2.2.2.2.2.2.2.2.2.2.2.2.2.2.2.2.2.2.2.2.2, mmE, mmE0, mmH, mT, mR, mRf, mAl, mAs, mAz, mAn, Int.reduceToNat, Int32.reduceOfInt, Int64.reduceOfInt, Int.reduceAdd, swE, Nat.reduceDiv, Nat.reduceMod, Nat.reduceAdd, Nat.reduceMul, Nat.reduceEqDiff, Nat.reduceLeDiff, Nat.zero_le, List.length_nil, List.length_cons, Nat.zero_add, true_or, or_true, false_or, or_false, true_and, and_true, and_self, mb_01, mb_t, mb_f, Option.toList_some, Option.toList_none, List.cons_append, List.nil_append]
            exact hput _ _ _ _ I' g1 g2 h0 h1 h2 h3 (by rw [pI0, p0, mB]) (by rw [pI1, p1, mB]) (by rw [pI2, p2, mA]) (by rw [pI3, p3', mA])
          · rw [if_neg qb] at mB
            simp only [qa, qb, true_implies, not_true_eq_false, not_false_eq_true, false_implies, and_true, true_and]
            refine w_mput hr (fun I' g1 g2 h0 h1 h2 h3 => ?_)
            simp only [bk_157.2.2.2.2.2.2.2.2.2.2.2.2.2.2.2.2.2.2.2.2.2.2.2.2.2, mmE, mmE0, mmH, mT, mR, mRf, mAl, mAs, mAz, mAn, Int.reduceToNat, Int32.reduceOfInt, Int64.reduceOfInt, Int.reduceAdd, swE, Nat.reduceDiv, Nat.reduceMod, Nat.reduceAdd, Nat.reduceMul, Nat.reduceEqDiff, Nat.reduceLeDiff, Nat.zero_le, List.length_nil, List.length_cons, Nat.zero_add, true_or, or_true, false_or, or_false, true_and, and_true, and_self, mb_01, mb_t, mb_f, Option.toList_some, Option.toList_none, List.cons_append, List.nil_append]
            exact hput _ _ _ _ I' g1 g2 h0 h1 h2 h3 (by rw [pI0, p0, mB]) (by rw [pI1, p1, mB]) (by rw [pI2, p2, mA]) (by rw [pI3, p3', mA])
        · rw [if_neg qa] at mA
          by_cases qb : l.getD 3 0 ≤ l.getD 2 0
          · rw [if_pos qb] at mB
            simp only [qa, qb, true_implies, not_true_eq_false, not_false_eq_true, false_implies, and_true, true_and]
            refine w_mput hr (fun I' g1 g2 h0 h1 h2 h3 => ?_)
            simp only [bk_157.2.2.2.2.2.2.2.2.2.2.2.2.2.2.2.2.2.2.2.2.2.2.2.2.2, mmE, mmE0, mmH, mT, mR, mRf, mAl, mAs, mAz, mAn, Int.reduceToNat, Int32.reduceOfInt, Int64.reduceOfInt, Int.reduceAdd, swE, Nat.reduceDiv, Nat.reduceMod, Nat.reduceAdd, Nat.reduceMul, Nat.reduceEqDiff, Nat.reduceLeDiff, Nat.zero_le, List.length_nil, List.length_cons, Nat.zero_add, true_or, or_true, false_or, or_false, true_and, and_true, and_self, mb_01, mb_t, mb_f, Option.toList_some, Option.toList_none, List.cons_append, List.nil_append]
            exact hput _ _ _ _ I' g1 g2 h0 h1 h2 h3 (by rw [pI0, p0, mB]) (by rw [pI1, p1, mB]) (by rw [pI2, p2, mA]) (by rw [pI3, p3', mA])
          · rw [if_neg qb] at mB
            simp only [qa, qb, true_implies, not_true_eq_false, not_false_eq_true, false_implies, and_true, true_and]
            refine w_mput hr (fun I' g1 g2 h0 h1 h2 h3 => ?_)
            simp only [bk_157.2.2.2.2.2.2.2.2.2.2.2.2.2.2.2.2.2.2.2.2.2.2.2.2.2, mmE, mmE0, mmH, mT, mR, mRf, mAl, mAs, mAz, mAn, Int.reduceToNat, Int32.reduceOfInt, Int64.reduceOfInt, Int.reduceAdd, swE, Nat.reduceDiv, Nat.reduceMod, Nat.reduceAdd, Nat.reduceMul, Nat.reduceEqDiff, Nat.reduceLeDiff, Nat.zero_le, List.length_nil, List.length_cons, Nat.zero_add, true_or, or_true, false_or, or_false, true_and, and_true, and_self, mb_01, mb_t, mb_f, Option.toList_some, Option.toList_none, List.cons_append, List.nil_append]
            exact hput _ _ _ _ I' g1 g2 h0 h1 h2 h3 (by rw [pI0, p0, mB]) (by rw [pI1, p1, mB]) (by rw [pI2, p2, mA]) (by rw [pI3, p3', mA])
      · rw [if_pos (by omega)] at p0 p1 p2 p3'
        simp only [qP, true_implies, not_true_eq_false, not_false_eq_true, false_implies, and_true, true_and, bk_157.2.2.2.2.2.2.2.2.1, bk_157.2.2.2.2.2.2.2.2.2.1, bk_157.2.2.2.2.2.2.2.2.2.2.1, bk_157.2.2.2.2.2.2.2.2.2.2.2.1, bk_157.2.2.2.2.2.2.2.2.2.2.2.2.1, bk_157.2.2.2.2.2.2.2.2.2.2.2.2.2.1, bk_157.2.2.2.2.2.2.2.2.2.2.2.2.2.2.1, bk_157.2.2.2.2.2.2.2.2.2.2.2.2.2.2.2.1, mmE, mmE0, mmH, mT, mR, mRf, mAl, mAs, mAz, mAn, Int.reduceToNat, Int32.reduceOfInt, Int64.reduceOfInt, Int.reduceAdd, swE, Nat.reduceDiv, Nat.reduceMod, Nat.reduceAdd, Nat.reduceMul, Nat.reduceEqDiff, Nat.reduceLeDiff, Nat.zero_le, List.length_nil, List.length_cons, Nat.zero_add, true_or, or_true, false_or, or_false, true_and, and_true, and_self, mb_01, mb_t, mb_f, cmp]
        by_cases qa : l.getD 1 0 ≤ l.getD 0 0
        · rw [if_pos qa] at mA
          by_cases qb : l.getD 3 0 ≤ l.getD 2 0
          · rw [if_pos qb] at mB
            simp only [qa, qb, true_implies, not_true_eq_false, not_false_eq_true, false_implies, and_true, true_and]
            refine w_mput hr (fun I' g1 g2 h0 h1 h2 h3 => ?_)
            simp only [bk_157.2.2.2.2.2.2.2.2.2.2.2.2.2.2.2.2.2.2.2.2.2.2.2.2.2, mmE, mmE0, mmH, mT, mR, mRf, mAl, mAs, mAz, mAn, Int.reduceToNat, Int32.reduceOfInt, Int64.reduceOfInt, Int.reduceAdd, swE, Nat.reduceDiv, Nat.reduceMod, Nat.reduceAdd, Nat.reduceMul, Nat.reduceEqDiff, Nat.reduceLeDiff, Nat.zero_le, List.length_nil, List.length_cons, Nat.zero_add, true_or, or_true, false_or, or_false, true_and, and_true, and_self, mb_01, mb_t, mb_f, Option.toList_some, Option.toList_none, List.cons_append, List.nil_append]
            exact hput _ _ _ _ I' g1 g2 h0 h1 h2 h3 (by rw [pI0, p0, mA]) (by rw [pI1, p1, mA]) (by rw [pI2, p2, mB]) (by rw [pI3, p3', mB])
          · rw [if_neg qb] at mB
            simp only [qa, qb, true_implies, not_true_eq_false, not_false_eq_true, false_implies, and_true, true_and]
            refine w_mput hr (fun I' g1 g2 h0 h1 h2 h3 => ?_)
            simp only [bk_157.2.2.2.2.2.2.2.2.2.2.2.2.2.2.2.2.2.2.2.2.2.2.2.2.2, mmE, mmE0, mmH, mT, mR, mRf, mAl, mAs, mAz, mAn, Int.reduceToNat, Int32.reduceOfInt, Int64.reduceOfInt, Int.reduceAdd, swE, Nat.reduceDiv, Nat.reduceMod, Nat.reduceAdd, Nat.reduceMul, Nat.reduceEqDiff, Nat.reduceLeDiff, Nat.zero_le, List.length_nil, List.length_cons, Nat.zero_add, true_or, or_true, false_or, or_false, true_and, and_true, and_self, mb_01, mb_t, mb_f, Option.toList_some, Option.toList_none, List.cons_append, List.nil_append]
            exact hput _ _ _ _ I' g1 g2 h0 h1 h2 h3 (by rw [pI0, p0, mA]) (by rw [pI1, p1, mA]) (by rw [pI2, p2, mB]) (by rw [pI3, p3', mB])
        · rw [if_neg qa] at mA
          by_cases qb : l.getD 3 0 ≤ l.getD 2 0
          · rw [if_pos qb] at mB
            simp only [qa, qb, true_implies, not_true_eq_false, not_false_eq_true, false_implies, and_true, true_and]
            refine w_mput hr (fun I' g1 g2 h0 h1 h2 h3 => ?_)
            simp only [bk_157.2.2.2.2.2.2.2.2.2.2.2.2.2.2.2.2.2.2.2.2.2.2.2.2.2, mmE, mmE0, mmH, mT, mR, mRf, mAl, mAs, mAz, mAn, Int.reduceToNat, Int32.reduceOfInt, Int64.reduceOfInt, Int.reduceAdd, swE, Nat.reduceDiv, Nat.reduceMod, Nat.reduceAdd, Nat.reduceMul, Nat.reduceEqDiff, Nat.reduceLeDiff, Nat.zero_le, List.length_nil, List.length_cons, Nat.zero_add, true_or, or_true, false_or, or_false, true_and, and_true, and_self, mb_01, mb_t, mb_f, Option.toList_some, Option.toList_none, List.cons_append, List.nil_append]
            exact hput _ _ _ _ I' g1 g2 h0 h1 h2 h3 (by rw [pI0, p0, mA]) (by rw [pI1, p1, mA]) (by rw [pI2, p2, mB]) (by rw [pI3, p3', mB])
          · rw [if_neg qb] at mB
            simp only [qa, qb, true_implies, not_true_eq_false, not_false_eq_true, false_implies, and_true, true_and]
            refine w_mput hr (fun I' g1 g2 h0 h1 h2 h3 => ?_)
            simp only [bk_157.2.2.2.2.2.2.2.2.2.2.2.2.2.2.2.2.2.2.2.2.2.2.2.2.2, mmE, mmE0, mmH, mT, mR, mRf, mAl, mAs, mAz, mAn, Int.reduceToNat, Int32.reduceOfInt, Int64.reduceOfInt, Int.reduceAdd, swE, Nat.reduceDiv, Nat.reduceMod, Nat.reduceAdd, Nat.reduceMul, Nat.reduceEqDiff, Nat.reduceLeDiff, Nat.zero_le, List.length_nil, List.length_cons, Nat.zero_add, true_or, or_true, false_or, or_false, true_and, and_true, and_self, mb_01, mb_t, mb_f, Option.toList_some, Option.toList_none, List.cons_append, List.nil_append]
            exact hput _ _ _ _ I' g1 g2 h0 h1 h2 h3 (by rw [pI0, p0, mA]) (by rw [pI1, p1, mA]) (by rw [pI2, p2, mB]) (by rw [pI3, p3', mB])
    · have k46 : k = 4 ∨ k = 6 := by omega
      have kd3 : kdN k = 3 := by rcases k46 with rfl | rfl <;> rfl
      have pI3 : pI f 3 = -5 := by unfold pI; rw [hkf, if_neg (by omega)]
      have enf : nf k (l.getD 0 0) (l.getD 1 0) (l.getD 2 0) (l.getD 3 0) = (l.getD 0 0, (ex2 (l.getD 1 0) (l.getD 2 0)).1, (ex2 (l.getD 1 0) (l.getD 2 0)).2, 0) := by
        unfold nf
        rw [if_neg n0, if_neg n5, if_pos k46]
      rw [enf] at p0 p1 p2
      have mA : (ex2 (l.getD 1 0) (l.getD 2 0)) = if l.getD 2 0 ≤ l.getD 1 0 then (l.getD 2 0, l.getD 1 0) else (l.getD 1 0, l.getD 2 0) := by
        unfold ex2
        by_cases q : l.getD 2 0 < l.getD 1 0
        · rw [if_pos q, if_pos (by omega)]
        · by_cases q' : l.getD 2 0 ≤ l.getD 1 0
          · have : l.getD 2 0 = l.getD 1 0 := by omega
            rw [if_neg q, if_pos q', this]
          · rw [if_neg q, if_neg q']
      simp only [q4, true_implies, not_true_eq_false, not_false_eq_true, false_implies, and_true, true_and, bk_157.2.2.2.1, bk_157.2.2.2.2.1, bk_157.2.2.2.2.2.1, bk_157.2.2.2.2.2.2.1, mmE, mmE0, mmH, mT, mR, mRf, mAl, mAs, mAz, mAn, Int.reduceToNat, Int32.reduceOfInt, Int64.reduceOfInt, Int.reduceAdd, swE, Nat.reduceDiv, Nat.reduceMod, Nat.reduceAdd, Nat.reduceMul, Nat.reduceEqDiff, Nat.reduceLeDiff, Nat.zero_le, List.length_nil, List.length_cons, Nat.zero_add, true_or, or_true, false_or, or_false, true_and, and_true, and_self, mb_01, mb_t, mb_f, cmp]
      by_cases qa : l.getD 2 0 ≤ l.getD 1 0
      · rw [if_pos qa] at mA
        simp only [qa, true_implies, not_true_eq_false, not_false_eq_true, false_implies, and_true, true_and]
        refine w_mput hr (fun I' g1 g2 h0 h1 h2 h3 => ?_)
        simp only [bk_157.2.2.2.2.2.2.2.2.2.2.2.2.2.2.2.2.2.2.2.2.2.2.2.2.2, mmE, mmE0, mmH, mT, mR, mRf, mAl, mAs, mAz, mAn, Int.reduceToNat, Int32.reduceOfInt, Int64.reduceOfInt, Int.reduceAdd, swE, Nat.reduceDiv, Nat.reduceMod, Nat.reduceAdd, Nat.reduceMul, Nat.reduceEqDiff, Nat.reduceLeDiff, Nat.zero_le, List.length_nil, List.length_cons, Nat.zero_add, true_or, or_true, false_or, or_false, true_and, and_true, and_self, mb_01, mb_t, mb_f, Option.toList_some, Option.toList_none, List.cons_append, List.nil_append]
        exact hput _ _ _ _ I' g1 g2 h0 h1 h2 h3 (by rw [pI0, p0]) (by rw [pI1, p1, mA]) (by rw [pI2, p2, mA]) pI3.symm
      · rw [if_neg qa] at mA
        simp only [qa, true_implies, not_true_eq_false, not_false_eq_true, false_implies, and_true, true_and]
        refine w_mput hr (fun I' g1 g2 h0 h1 h2 h3 => ?_)
        simp only [bk_157.2.2.2.2.2.2.2.2.2.2.2.2.2.2.2.2.2.2.2.2.2.2.2.2.2, mmE, mmE0, mmH, mT, mR, mRf, mAl, mAs, mAz, mAn, Int.reduceToNat, Int32.reduceOfInt, Int64.reduceOfInt, Int.reduceAdd, swE, Nat.reduceDiv, Nat.reduceMod, Nat.reduceAdd, Nat.reduceMul, Nat.reduceEqDiff, Nat.reduceLeDiff, Nat.zero_le, List.length_nil, List.length_cons, Nat.zero_add, true_or, or_true, false_or, or_false, true_and, and_true, and_self, mb_01, mb_t, mb_f, Option.toList_some, Option.toList_none, List.cons_append, List.nil_append]
        exact hput _ _ _ _ I' g1 g2 h0 h1 h2 h3 (by rw [pI0, p0]) (by rw [pI1, p1, mA]) (by rw [pI2, p2, mA]) pI3.symm
end KG
