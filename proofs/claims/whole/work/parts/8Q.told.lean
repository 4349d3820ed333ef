/-! told -/
def o_told (s : st_T) (w : Int32) : op_T := (if w = 0 then nI (sNp s) else if w = 1 then nI (sNf s) else if w = 2 then nI (sNr s) else if w = 3 then nI (sN s) else if w = 4 then mb (sHg s) else if w = 5 then (if sGd s = true then nI (cnt (sNr s) fun r => (sG s r).2.1 == 1) else 0) else if w = 6 then (if sGd s = true then nI (cnt (sNr s) fun r => (sG s r).1 == 0) else 0) else if w = 7 then (if sGd s = true then nI (cnt (sNr s) fun r => (sG s r).2.2.1 == 3) else 0) else -2, s)
section TO
variable {z : mm_S} {d : Nat} {I : mm_I} {J : mm_J} {s : st_T} {Q : Option Value → mm_I → mm_J → Prop}
theorem w8 (w : Int32) : w = 0 ∨ w = 1 ∨ w = 2 ∨ w = 3 ∨ w = 4 ∨ w = 5 ∨ w = 6 ∨ w = 7 ∨ (w ≠ 0 ∧ w ≠ 1 ∧ w ≠ 2 ∧ w ≠ 3 ∧ w ≠ 4 ∧ w ≠ 5 ∧ w ≠ 6 ∧ w ≠ 7) := by
  by_cases h0 : w = 0
  · exact Or.inl h0
  by_cases h1 : w = 1
  · exact Or.inr (Or.inl h1)
  by_cases h2 : w = 2
  · exact Or.inr (Or.inr (Or.inl h2))
  by_cases h3 : w = 3
  · exact Or.inr (Or.inr (Or.inr (Or.inl h3)))
  by_cases h4 : w = 4
  · exact Or.inr (Or.inr (Or.inr (Or.inr (Or.inl h4))))
  by_cases h5 : w = 5
  · exact Or.inr (Or.inr (Or.inr (Or.inr (Or.inr (Or.inl h5)))))
  by_cases h6 : w = 6
  · exact Or.inr (Or.inr (Or.inr (Or.inr (Or.inr (Or.inr (Or.inl h6))))))
  by_cases h7 : w = 7
  · exact Or.inr (Or.inr (Or.inr (Or.inr (Or.inr (Or.inr (Or.inr (Or.inl h7)))))))
  exact Or.inr (Or.inr (Or.inr (Or.inr (Or.inr (Or.inr (Or.inr (Or.inr ⟨h0, h1, h2, h3, h4, h5, h6, h7⟩)))))))
theorem lt8a : ((1 : Int32) = 0) = False ∧ ((2 : Int32) = 0) = False ∧ ((2 : Int32) = 1) = False ∧ ((3 : Int32) = 0) = False ∧ ((3 : Int32) = 1) = False ∧ ((3 : Int32) = 2) = False ∧ ((4 : Int32) = 0) = False ∧ ((4 : Int32) = 1) = False ∧ ((4 : Int32) = 2) = False ∧ ((4 : Int32) = 3) = False := by decide
theorem lt8b : ((5 : Int32) = 0) = False ∧ ((5 : Int32) = 1) = False ∧ ((5 : Int32) = 2) = False ∧ ((5 : Int32) = 3) = False ∧ ((5 : Int32) = 4) = False ∧ ((6 : Int32) = 0) = False ∧ ((6 : Int32) = 1) = False ∧ ((6 : Int32) = 2) = False ∧ ((6 : Int32) = 3) = False ∧ ((6 : Int32) = 4) = False ∧ ((6 : Int32) = 5) = False ∧ ((7 : Int32) = 0) = False ∧ ((7 : Int32) = 1) = False ∧ ((7 : Int32) = 2) = False ∧ ((7 : Int32) = 3) = False ∧ ((7 : Int32) = 4) = False ∧ ((7 : Int32) = 5) = False ∧ ((7 : Int32) = 6) = False := by decide
theorem lt8c : ((0 : Int32) = 1) = False ∧ ((0 : Int32) = 2) = False ∧ ((0 : Int32) = 3) = False ∧ ((0 : Int32) = 4) = False ∧ ((0 : Int32) = 5) = False ∧ ((0 : Int32) = 6) = False ∧ ((0 : Int32) = 7) = False ∧ ((1 : Int32) = 2) = False ∧ ((1 : Int32) = 3) = False ∧ ((1 : Int32) = 4) = False ∧ ((1 : Int32) = 5) = False ∧ ((1 : Int32) = 6) = False ∧ ((1 : Int32) = 7) = False ∧ ((2 : Int32) = 3) = False ∧ ((2 : Int32) = 4) = False ∧ ((2 : Int32) = 5) = False ∧ ((2 : Int32) = 6) = False ∧ ((2 : Int32) = 7) = False := by decide
theorem lt8d : ((3 : Int32) = 4) = False ∧ ((3 : Int32) = 5) = False ∧ ((3 : Int32) = 6) = False ∧ ((3 : Int32) = 7) = False ∧ ((4 : Int32) = 5) = False ∧ ((4 : Int32) = 6) = False ∧ ((4 : Int32) = 7) = False ∧ ((5 : Int32) = 6) = False ∧ ((5 : Int32) = 7) = False ∧ ((6 : Int32) = 7) = False := by decide
theorem pC_told {w : Int32} (hv : inv s) (h : repC I J s) : mm_call z (d + 1) 123 [.ref 0, .int w] I J (okC I J (o_told s w)) := by
  obtain ⟨⟨a1, a2, a3, a4⟩, _, t, _, _, _, hg, hr⟩ := id h
  unfold o_told
  simp only [ce_123, bk_123, mmE, mmE0, mmH, mT, mR, mRf, mAl, mAs, mAz, mAn, Int.reduceToNat, Int32.reduceOfInt, Int64.reduceOfInt, Int.reduceAdd, swE, Nat.reduceDiv, Nat.reduceMod, Nat.reduceAdd, Nat.reduceMul, Nat.reduceEqDiff, Nat.reduceLeDiff, Nat.zero_le, List.length_nil, List.length_cons, Nat.zero_add, true_or, or_true, false_or, or_false, true_and, and_true, and_self, mb_01, mb_t, mb_f, a1, a2, a3, a4, t.1, hg, mb0]
  rcases w8 w with rfl | rfl | rfl | rfl | rfl | rfl | rfl | rfl | ⟨n0, n1, n2, n3, n4, n5, n6, n7⟩
  · simp only [lt8a, lt8b, lt8c, lt8d, true_implies, not_true_eq_false, not_false_eq_true, false_implies, and_true, true_and, if_true, if_false]; exact ⟨rfl, h, frC_rf⟩
  · simp only [lt8a, lt8b, lt8c, lt8d, true_implies, not_true_eq_false, not_false_eq_true, false_implies, and_true, true_and, if_true, if_false]; exact ⟨rfl, h, frC_rf⟩
  · simp only [lt8a, lt8b, lt8c, lt8d, true_implies, not_true_eq_false, not_false_eq_true, false_implies, and_true, true_and, if_true, if_false]; exact ⟨rfl, h, frC_rf⟩
  · simp only [lt8a, lt8b, lt8c, lt8d, true_implies, not_true_eq_false, not_false_eq_true, false_implies, and_true, true_and, if_true, if_false]; exact ⟨rfl, h, frC_rf⟩
  · simp only [lt8a, lt8b, lt8c, lt8d, true_implies, not_true_eq_false, not_false_eq_true, false_implies, and_true, true_and, if_true, if_false]
    cases sHg s with
    | true => simp only [true_implies, not_true_eq_false, not_false_eq_true, false_implies, and_true, true_and, Bool.true_eq_false]; exact ⟨rfl, h, frC_rf⟩
    | false => simp only [true_implies, not_true_eq_false, not_false_eq_true, false_implies, and_true, true_and]; exact ⟨rfl, h, frC_rf⟩
  · simp only [lt8a, lt8b, lt8c, lt8d, true_implies, not_true_eq_false, not_false_eq_true, false_implies, and_true, true_and, if_true, if_false]
    cases e : sGd s with
    | true => simp only [true_implies, not_true_eq_false, not_false_eq_true, false_implies, and_true, true_and, Bool.true_eq_false, if_true, (hr e).2.1.1]; exact ⟨rfl, h, frC_rf⟩
    | false => simp only [true_implies, not_true_eq_false, not_false_eq_true, false_implies, and_true, true_and, Bool.false_eq_true, if_false]; exact ⟨rfl, h, frC_rf⟩
  · simp only [lt8a, lt8b, lt8c, lt8d, true_implies, not_true_eq_false, not_false_eq_true, false_implies, and_true, true_and, if_true, if_false]
    cases e : sGd s with
    | true => simp only [true_implies, not_true_eq_false, not_false_eq_true, false_implies, and_true, true_and, Bool.true_eq_false, if_true, (hr e).2.1.2.1]; exact ⟨rfl, h, frC_rf⟩
    | false => simp only [true_implies, not_true_eq_false, not_false_eq_true, false_implies, and_true, true_and, Bool.false_eq_true, if_false]; exact ⟨rfl, h, frC_rf⟩
  · simp only [lt8a, lt8b, lt8c, lt8d, true_implies, not_true_eq_false, not_false_eq_true, false_implies, and_true, true_and, if_true, if_false]
    cases e : sGd s with
    | true => simp only [true_implies, not_true_eq_false, not_false_eq_true, false_implies, and_true, true_and, Bool.true_eq_false, if_true, (hr e).2.1.2.2]; exact ⟨rfl, h, frC_rf⟩
    | false => simp only [true_implies, not_true_eq_false, not_false_eq_true, false_implies, and_true, true_and, Bool.false_eq_true, if_false]; exact ⟨rfl, h, frC_rf⟩
  · simp only [n0, n1, n2, n3, n4, n5, n6, n7, true_implies, not_true_eq_false, not_false_eq_true, false_implies, and_true, true_and, if_false]; exact ⟨rfl, h, frC_rf⟩
theorem w_told_loop {w : Int32} (hv : inv s) (h : repM I J s) (hg : sGd s = true) : ∀ (v r a b c : Nat), 1 ≤ r → r + v = sNr s + 1 → a ≤ r → b ≤ r → c ≤ r → (∀ o5, mm_at z (mm_call z d) (mm_code 202) Q 90 [some (.ref 127), some (.int w), some (.int (nI (a + (List.range' r v).countP fun r => (sG s r).2.1 == 1))), some (.int (nI (b + (List.range' r v).countP fun r => (sG s r).1 == 0))), some (.int (nI (c + (List.range' r v).countP fun r => (sG s r).2.2.1 == 3))), o5] [] I J) → mm_at z (mm_call z d) (mm_code 202) Q 10 [some (.ref 127), some (.int w), some (.int (nI a)), some (.int (nI b)), some (.int (nI c)), some (.int (nI r))] [] I J
  | 0, r, a, b, c, h1, hr, ha, hb, hc, K => by
    have v3 := hv.1.1.2.2.1
    rw [hk_202_10]
    have c1 : (nI (sNr s) < nI r) = True := by rw [lt_nI (by omega) (by omega)]; exact eq_true (by omega)
    simp only [mmE, mmE0, mmH, mT, mR, mRf, mAl, mAs, mAz, mAn, Int.reduceToNat, Int32.reduceOfInt, Int64.reduceOfInt, Int.reduceAdd, swE, Nat.reduceDiv, Nat.reduceMod, Nat.reduceAdd, Nat.reduceMul, Nat.reduceEqDiff, Nat.reduceLeDiff, Nat.zero_le, List.length_nil, List.length_cons, Nat.zero_add, true_or, or_true, false_or, or_false, true_and, and_true, and_self, mb_01, mb_t, mb_f, h.1.2.2.1, c1, true_implies, not_true_eq_false, not_false_eq_true, false_implies, and_true, true_and]
    exact K _
  | v + 1, r, a, b, c, h1, hr, ha, hb, hc, K => by
    have v3 := hv.1.1.2.2.1
    have hgd := h.2.2.2.2.2.2.1
    rw [hg] at hgd
    have hgd' : I 127 37 = 1 := hgd
    have e10 : ((1 : Int32) = 0) = False := by decide
    obtain ⟨g1, g2, g3, _, _⟩ := (h.2.2.2.2.2.2.2.1 hg).1 r h1 (by omega)
    obtain ⟨x1, x2, x3, _, _⟩ := (hv.2 hg).1.1 r h1 (by omega)
    rw [hk_202_10]
    have c1 : (nI (sNr s) < nI r) = False := by rw [lt_nI (by omega) (by omega)]; exact eq_false (by omega)
    have e1 : (nI (sG s r).2.1 = 1) = ((sG s r).2.1 = 1) := eq_nI (b := 1) (by omega) (by omega)
    have e2 : (nI (sG s r).1 = 0) = ((sG s r).1 = 0) := n0E (by omega)
    have e3 : (nI (sG s r).2.2.1 = 3) = ((sG s r).2.2.1 = 3) := eq_nI (b := 3) (by omega) (by omega)
    rw [List.range'_succ, List.countP_cons, List.countP_cons, List.countP_cons] at K
    have z0' : ∀ n, nI n + 0 = nI n := fun n => Int32.add_zero _
    simp only [bk_202.2.1, bk_202.2.2.1, bk_202.2.2.2.1, bk_202.2.2.2.2.1, bk_202.2.2.2.2.2.1, bk_202.2.2.2.2.2.2.1, mmE, mmE0, mmH, mT, mR, mRf, mAl, mAs, mAz, mAn, Int.reduceToNat, Int32.reduceOfInt, Int64.reduceOfInt, Int.reduceAdd, swE, Nat.reduceDiv, Nat.reduceMod, Nat.reduceAdd, Nat.reduceMul, Nat.reduceEqDiff, Nat.reduceLeDiff, Nat.zero_le, List.length_nil, List.length_cons, Nat.zero_add, true_or, or_true, false_or, or_false, true_and, and_true, and_self, mb_01, mb_t, mb_f, h.1.2.2.1, c1, hgd', e10, ix41 (show r < 41 by omega), g1, g2, g3, e1, e2, e3, z0', ← nI_succ, true_implies, not_true_eq_false, not_false_eq_true, false_implies, and_true, true_and]
    have ih := fun a' b' c' A B C => w_told_loop (w := w) hv h hg v (r + 1) a' b' c' (by omega) (by omega) A B C
    by_cases q1 : (sG s r).2.1 = 1
    · rw [if_pos (beq_iff_eq.mpr q1)] at K
      by_cases q2 : (sG s r).1 = 0
      · rw [if_pos (beq_iff_eq.mpr q2)] at K
        by_cases q3 : (sG s r).2.2.1 = 3
        · rw [if_pos (beq_iff_eq.mpr q3)] at K
          simp only [eq_true q1, eq_true q2, eq_true q3, true_implies, not_true_eq_false, not_false_eq_true, false_implies, and_true, true_and]
          refine ih (a + 1) (b + 1) (c + 1) (by omega) (by omega) (by omega) (fun o5 => ?_)
          have := K o5
          rw [Nat.add_assoc, Nat.add_comm 1, Nat.add_assoc, Nat.add_comm 1, Nat.add_assoc, Nat.add_comm 1]
          exact this
        · rw [if_neg (fun w => q3 (beq_iff_eq.mp w)), Nat.add_zero] at K
          simp only [eq_true q1, eq_true q2, q3, true_implies, not_true_eq_false, not_false_eq_true, false_implies, and_true, true_and]
          refine ih (a + 1) (b + 1) c (by omega) (by omega) (by omega) (fun o5 => ?_)
          have := K o5
          rw [Nat.add_assoc, Nat.add_comm 1, Nat.add_assoc, Nat.add_comm 1]
          exact this
      · rw [if_neg (fun w => q2 (beq_iff_eq.mp w)), Nat.add_zero] at K
        by_cases q3 : (sG s r).2.2.1 = 3
        · rw [if_pos (beq_iff_eq.mpr q3)] at K
          simp only [eq_true q1, q2, eq_true q3, true_implies, not_true_eq_false, not_false_eq_true, false_implies, and_true, true_and]
          refine ih (a + 1) b (c + 1) (by omega) (by omega) (by omega) (fun o5 => ?_)
          have := K o5
          rw [Nat.add_assoc, Nat.add_comm 1, Nat.add_assoc, Nat.add_comm 1]
          exact this
        · rw [if_neg (fun w => q3 (beq_iff_eq.mp w)), Nat.add_zero] at K
          simp only [eq_true q1, q2, q3, true_implies, not_true_eq_false, not_false_eq_true, false_implies, and_true, true_and]
          refine ih (a + 1) b c (by omega) (by omega) (by omega) (fun o5 => ?_)
          have := K o5
          rw [Nat.add_assoc, Nat.add_comm 1]
          exact this
    · rw [if_neg (fun w => q1 (beq_iff_eq.mp w)), Nat.add_zero] at K
      by_cases q2 : (sG s r).1 = 0
      · rw [if_pos (beq_iff_eq.mpr q2)] at K
        by_cases q3 : (sG s r).2.2.1 = 3
        · rw [if_pos (beq_iff_eq.mpr q3)] at K
          simp only [q1, eq_true q2, eq_true q3, true_implies, not_true_eq_false, not_false_eq_true, false_implies, and_true, true_and]
          refine ih a (b + 1) (c + 1) (by omega) (by omega) (by omega) (fun o5 => ?_)
          have := K o5
          rw [Nat.add_assoc, Nat.add_comm 1, Nat.add_assoc, Nat.add_comm 1]
          exact this
        · rw [if_neg (fun w => q3 (beq_iff_eq.mp w)), Nat.add_zero] at K
          simp only [q1, eq_true q2, q3, true_implies, not_true_eq_false, not_false_eq_true, false_implies, and_true, true_and]
          refine ih a (b + 1) c (by omega) (by omega) (by omega) (fun o5 => ?_)
          have := K o5
          rw [Nat.add_assoc, Nat.add_comm 1]
          exact this
      · rw [if_neg (fun w => q2 (beq_iff_eq.mp w)), Nat.add_zero] at K
        by_cases q3 : (sG s r).2.2.1 = 3
        · rw [if_pos (beq_iff_eq.mpr q3)] at K
          simp only [q1, q2, eq_true q3, true_implies, not_true_eq_false, not_false_eq_true, false_implies, and_true, true_and]
          refine ih a b (c + 1) (by omega) (by omega) (by omega) (fun o5 => ?_)
          have := K o5
          rw [Nat.add_assoc, Nat.add_comm 1]
          exact this
        · rw [if_neg (fun w => q3 (beq_iff_eq.mp w)), Nat.add_zero] at K
          simp only [q1, q2, q3, true_implies, not_true_eq_false, not_false_eq_true, false_implies, and_true, true_and]
          exact ih a b c (by omega) (by omega) (by omega) K
theorem pM_told {w : Int32} (hv : inv s) (h : repM I J s) : mm_call z (d + 1) 202 [.ref 127, .int w] I J (okM I J (o_told s w)) := by
  obtain ⟨⟨a1, a2, a3, a4⟩, _, t, _, _, _, hg, hr, _⟩ := id h
  have v3 := hv.1.1.2.2.1
  have fin : ∀ (x y u : Int32) o5, (sGd s = true → x = nI (cnt (sNr s) fun r => (sG s r).2.1 == 1) ∧ y = nI (cnt (sNr s) fun r => (sG s r).1 == 0) ∧ u = nI (cnt (sNr s) fun r => (sG s r).2.2.1 == 3)) → (sGd s = false → x = 0 ∧ y = 0 ∧ u = 0) → mm_at z (mm_call z d) (mm_code 202) (okM I J (o_told s w)) 90 [some (.ref 127), some (.int w), some (.int x), some (.int y), some (.int u), o5] [] I J := by
    intro x y u o5 k1 k2
    unfold o_told
    simp only [bk_202.2.2.2.2.2.2.2.1, bk_202.2.2.2.2.2.2.2.2.1, bk_202.2.2.2.2.2.2.2.2.2.1, bk_202.2.2.2.2.2.2.2.2.2.2.1, bk_202.2.2.2.2.2.2.2.2.2.2.2.1, bk_202.2.2.2.2.2.2.2.2.2.2.2.2.1, bk_202.2.2.2.2.2.2.2.2.2.2.2.2.2.1, bk_202.2.2.2.2.2.2.2.2.2.2.2.2.2.2.1, bk_202.2.2.2.2.2.2.2.2.2.2.2.2.2.2.2.1, bk_202.2.2.2.2.2.2.2.2.2.2.2.2.2.2.2.2.1, bk_202.2.2.2.2.2.2.2.2.2.2.2.2.2.2.2.2.2.1, bk_202.2.2.2.2.2.2.2.2.2.2.2.2.2.2.2.2.2.2, mmE, mmE0, mmH, mT, mR, mRf, mAl, mAs, mAz, mAn, Int.reduceToNat, Int32.reduceOfInt, Int64.reduceOfInt, Int.reduceAdd, swE, Nat.reduceDiv, Nat.reduceMod, Nat.reduceAdd, Nat.reduceMul, Nat.reduceEqDiff, Nat.reduceLeDiff, Nat.zero_le, List.length_nil, List.length_cons, Nat.zero_add, true_or, or_true, false_or, or_false, true_and, and_true, and_self, mb_01, mb_t, mb_f, a1, a2, a3, a4, t.1, mb0]
    rcases w8 w with rfl | rfl | rfl | rfl | rfl | rfl | rfl | rfl | ⟨n0, n1, n2, n3, n4, n5, n6, n7⟩
    · simp only [lt8a, lt8b, lt8c, lt8d, true_implies, not_true_eq_false, not_false_eq_true, false_implies, and_true, true_and, if_true, if_false]; exact ⟨rfl, h, frM_rf⟩
    · simp only [lt8a, lt8b, lt8c, lt8d, true_implies, not_true_eq_false, not_false_eq_true, false_implies, and_true, true_and, if_true, if_false]; exact ⟨rfl, h, frM_rf⟩
    · simp only [lt8a, lt8b, lt8c, lt8d, true_implies, not_true_eq_false, not_false_eq_true, false_implies, and_true, true_and, if_true, if_false]; exact ⟨rfl, h, frM_rf⟩
    · simp only [lt8a, lt8b, lt8c, lt8d, true_implies, not_true_eq_false, not_false_eq_true, false_implies, and_true, true_and, if_true, if_false]; exact ⟨rfl, h, frM_rf⟩
    · simp only [lt8a, lt8b, lt8c, lt8d, true_implies, not_true_eq_false, not_false_eq_true, false_implies, and_true, true_and, if_true, if_false]
      cases sHg s with
      | true => simp only [true_implies, not_true_eq_false, not_false_eq_true, false_implies, and_true, true_and, Bool.true_eq_false]; exact ⟨rfl, h, frM_rf⟩
      | false => simp only [true_implies, not_true_eq_false, not_false_eq_true, false_implies, and_true, true_and]; exact ⟨rfl, h, frM_rf⟩
    · simp only [lt8a, lt8b, lt8c, lt8d, true_implies, not_true_eq_false, not_false_eq_true, false_implies, and_true, true_and, if_true, if_false]
      cases e : sGd s with
      | true => rw [(k1 e).1]; exact ⟨rfl, h, frM_rf⟩
      | false => rw [(k2 e).1]; exact ⟨rfl, h, frM_rf⟩
    · simp only [lt8a, lt8b, lt8c, lt8d, true_implies, not_true_eq_false, not_false_eq_true, false_implies, and_true, true_and, if_true, if_false]
      cases e : sGd s with
      | true => rw [(k1 e).2.1]; exact ⟨rfl, h, frM_rf⟩
      | false => rw [(k2 e).2.1]; exact ⟨rfl, h, frM_rf⟩
    · simp only [lt8a, lt8b, lt8c, lt8d, true_implies, not_true_eq_false, not_false_eq_true, false_implies, and_true, true_and, if_true, if_false]
      cases e : sGd s with
      | true => rw [(k1 e).2.2]; exact ⟨rfl, h, frM_rf⟩
      | false => rw [(k2 e).2.2]; exact ⟨rfl, h, frM_rf⟩
    · simp only [n0, n1, n2, n3, n4, n5, n6, n7, true_implies, not_true_eq_false, not_false_eq_true, false_implies, and_true, true_and, if_false]; exact ⟨rfl, h, frM_rf⟩
  simp only [ce_202, bk_202.1, mmE, mmE0, mmH, mT, mR, mRf, mAl, mAs, mAz, mAn, Int.reduceToNat, Int32.reduceOfInt, Int64.reduceOfInt, Int.reduceAdd, swE, Nat.reduceDiv, Nat.reduceMod, Nat.reduceAdd, Nat.reduceMul, Nat.reduceEqDiff, Nat.reduceLeDiff, Nat.zero_le, List.length_nil, List.length_cons, Nat.zero_add, true_or, or_true, false_or, or_false, true_and, and_true, and_self, mb_01, mb_t, mb_f]
  cases e : sGd s with
  | true =>
    refine w_told_loop (z := z) (d := d) hv h e (sNr s) 1 0 0 0 (by omega) (by omega) (by omega) (by omega) (by omega) (fun o5 => ?_)
    refine fin _ _ _ o5 (fun _ => ⟨?_, ?_, ?_⟩) (fun q => by rw [e] at q; cases q)
    · rw [Nat.zero_add]; rfl
    · rw [Nat.zero_add]; rfl
    · rw [Nat.zero_add]; rfl
  | false =>
    rw [hk_202_10]
    have hg' : I 127 37 = 0 := by rw [hg, e]; rfl
    have := fin 0 0 0 (some (.int 1)) (fun q => by rw [e] at q; cases q) (fun _ => ⟨rfl, rfl, rfl⟩)
    simp only [mmE, mmE0, mmH, mT, mR, mRf, mAl, mAs, mAz, mAn, Int.reduceToNat, Int32.reduceOfInt, Int64.reduceOfInt, Int.reduceAdd, swE, Nat.reduceDiv, Nat.reduceMod, Nat.reduceAdd, Nat.reduceMul, Nat.reduceEqDiff, Nat.reduceLeDiff, Nat.zero_le, List.length_nil, List.length_cons, Nat.zero_add, true_or, or_true, false_or, or_false, true_and, and_true, and_self, mb_01, mb_t, mb_f, a3, hg', true_implies, not_true_eq_false, not_false_eq_true, false_implies, and_true, true_and]
    by_cases q : nI (sNr s) < 1
    · simp only [eq_true q, true_implies, not_true_eq_false, not_false_eq_true, false_implies, and_true, true_and]
      exact this
    · simp only [q, true_implies, not_true_eq_false, not_false_eq_true, false_implies, and_true, true_and]
      exact this
end TO
