/-! the class's sheet -/
def inR (nr : Nat) (x : Int32) : Bool := decide (1 ≤ x.toInt ∧ x.toInt ≤ (nr : Int))
theorem inR_t {nr : Nat} {x : Int32} (h : inR nr x = true) : ∃ r, 1 ≤ r ∧ r ≤ nr ∧ x = nI r := by
  unfold inR at h
  have h := of_decide_eq_true h
  have hx := Int32.toInt_lt x
  refine ⟨x.toInt.toNat, by omega, by omega, ?_⟩
  apply Int32.toInt_inj.mp
  rw [nI_toInt (by omega)]
  omega
theorem inR_nI {nr r : Nat} (h : r < 2 ^ 31) : inR nr (nI r) = decide (1 ≤ r ∧ r ≤ nr) := by
  unfold inR
  rw [nI_toInt h]
  exact decide_eq_decide.mpr (by omega)
theorem inR_f {nr : Nat} (hnr : nr < 2 ^ 31) {x : Int32} (h : inR nr x = false) : x < 1 ∨ nI nr < x := by
  unfold inR at h
  have h := of_decide_eq_false h
  rw [Int32.lt_iff_toInt_lt, Int32.lt_iff_toInt_lt, nI_toInt hnr]
  have : (1 : Int32).toInt = 1 := by decide
  omega
theorem mTr4 : ∀ r, r < 41 → 1 ≤ r → mm_T (4 + 2 * r) = (4, 10) ∧ mm_T (4 + 2 * r + 1) = (100, 6) ∧ mm_R (4 + 2 * r) 4 = some (4 + 2 * r + 1) ∧ mm_R 4 (r - 1) = some (4 + 2 * r) := by decide +kernel
section SH
variable {z : mm_S} {d : Nat} {I : mm_I} {J : mm_J} {nr nf np : Nat}
theorem c_rowAt {r : Nat} (hnr : nr ≤ 40) (h : I 1 2 = nI nr) (h1 : 1 ≤ r) (h2 : r ≤ nr) (Q : Option Value → mm_I → mm_J → Prop) : mm_call z (d + 1) 83 [.ref 1, .int (nI r)] I J Q = Q (some (.ref (4 + 2 * r))) I J := by
  refine mm_ev ?_ Q
  obtain ⟨_, _, _, m4⟩ := mTr4 r (by omega) h1
  have c1 : (nI r < 1) = False := by rw [show (1 : Int32) = nI 1 from rfl, lt_nI (by omega) (by omega)]; exact eq_false (by omega)
  have c2 : (nI nr < nI r) = False := by rw [lt_nI (by omega) (by omega)]; exact eq_false (by omega)
  have c3 : (nI r ≤ 40) = True := by rw [show (40 : Int32) = nI 40 from rfl, le_nI (by omega) (by omega)]; exact eq_true (by omega)
  have c4 : nI r - 1 = nI (r - 1) := by rw [show (1 : Int32) = nI 1 from rfl, nI_sub h1]
  have c5 : vp_in (nI (r - 1)) 40 = True := eq_true (vp_in_nI (by omega) (by decide))
  have c6 : (nI (r - 1)).toNatClampNeg = r - 1 := nI_clamp (by omega)
  simp only [ce_83, bk_83, mmE, mmE0, mmH, mT, mR, mRf, mAl, mAs, mAz, mAn, Int.reduceToNat, Int32.reduceOfInt, Int64.reduceOfInt, Int.reduceAdd, swE, Nat.reduceDiv, Nat.reduceMod, Nat.reduceAdd, Nat.reduceMul, Nat.reduceEqDiff, Nat.reduceLeDiff, Nat.zero_le, List.length_nil, List.length_cons, Nat.zero_add, true_or, or_true, false_or, or_false, true_and, and_true, and_self, mb_01, mb_t, mb_f, h, c1, c2, c3, c4, c5, c6, m4, true_implies, not_true_eq_false, not_false_eq_true, false_implies, and_true, true_and]
theorem c_rowAt_no {x : Int32} (hnr : nr ≤ 40) (h : I 1 2 = nI nr) (hx : inR nr x = false) (Q : Option Value → mm_I → mm_J → Prop) : mm_call z (d + 1) 83 [.ref 1, .int x] I J Q = Q (some .null) I J := by
  refine mm_ev ?_ Q
  simp only [ce_83, bk_83, mmE, mmE0, mmH, mT, mR, mRf, mAl, mAs, mAz, mAn, Int.reduceToNat, Int32.reduceOfInt, Int64.reduceOfInt, Int.reduceAdd, swE, Nat.reduceDiv, Nat.reduceMod, Nat.reduceAdd, Nat.reduceMul, Nat.reduceEqDiff, Nat.reduceLeDiff, Nat.zero_le, List.length_nil, List.length_cons, Nat.zero_add, true_or, or_true, false_or, or_false, true_and, and_true, and_self, mb_01, mb_t, mb_f, h, true_implies, not_true_eq_false, not_false_eq_true, false_implies, and_true, true_and]
  by_cases q1 : x < 1
  · simp only [q1, true_implies, not_true_eq_false, not_false_eq_true, false_implies, and_true, true_and, implies_true]
  · have q2 : nI nr < x := (inR_f (by omega) hx).resolve_left q1
    simp only [q1, q2, true_implies, not_true_eq_false, not_false_eq_true, false_implies, and_true, true_and, implies_true]
theorem c_figAt {f : Nat} (hnf : nf ≤ 6) (h : I 1 1 = nI nf) (hf : f < nf) (Q : Option Value → mm_I → mm_J → Prop) : mm_call z (d + 1) 80 [.ref 1, .int (nI f)] I J Q = Q (some (.ref (86 + 3 * f))) I J := by
  refine mm_ev ?_ Q
  obtain ⟨_, _, _, _, _, m6⟩ := mTf f (by omega)
  have c2 : (nI nf ≤ nI f) = False := by rw [le_nI (by omega) (by omega)]; exact eq_false (by omega)
  have c3 : (nI f < 6) = True := eq_true (nI_lt (b := 6) (by omega) (by decide))
  have c5 : vp_in (nI f) 6 = True := eq_true (vp_in_nI (by omega) (by decide))
  have c6 : (nI f).toNatClampNeg = f := nI_clamp (by omega)
  simp only [ce_80, bk_80, mmE, mmE0, mmH, mT, mR, mRf, mAl, mAs, mAz, mAn, Int.reduceToNat, Int32.reduceOfInt, Int64.reduceOfInt, Int.reduceAdd, swE, Nat.reduceDiv, Nat.reduceMod, Nat.reduceAdd, Nat.reduceMul, Nat.reduceEqDiff, Nat.reduceLeDiff, Nat.zero_le, List.length_nil, List.length_cons, Nat.zero_add, true_or, or_true, false_or, or_false, true_and, and_true, and_self, mb_01, mb_t, mb_f, h, nneg (show f < 2 ^ 31 by omega), c2, c3, c5, c6, m6, true_implies, not_true_eq_false, not_false_eq_true, false_implies, and_true, true_and]
theorem c_figAt_no {x : Int32} (hnf : nf ≤ 6) (h : I 1 1 = nI nf) (hx : inN nf x = false) (Q : Option Value → mm_I → mm_J → Prop) : mm_call z (d + 1) 80 [.ref 1, .int x] I J Q = Q (some .null) I J := by
  refine mm_ev ?_ Q
  simp only [ce_80, bk_80, mmE, mmE0, mmH, mT, mR, mRf, mAl, mAs, mAz, mAn, Int.reduceToNat, Int32.reduceOfInt, Int64.reduceOfInt, Int.reduceAdd, swE, Nat.reduceDiv, Nat.reduceMod, Nat.reduceAdd, Nat.reduceMul, Nat.reduceEqDiff, Nat.reduceLeDiff, Nat.zero_le, List.length_nil, List.length_cons, Nat.zero_add, true_or, or_true, false_or, or_false, true_and, and_true, and_self, mb_01, mb_t, mb_f, h, true_implies, not_true_eq_false, not_false_eq_true, false_implies, and_true, true_and]
  by_cases q1 : x < 0
  · simp only [q1, true_implies, not_true_eq_false, not_false_eq_true, false_implies, and_true, true_and, implies_true]
  · have q2 : nI nf ≤ x := by
      rw [Int32.le_iff_toInt_le, nI_toInt (by omega)]
      exact (inN_f hx).resolve_left q1
    simp only [q1, q2, true_implies, not_true_eq_false, not_false_eq_true, false_implies, and_true, true_and, implies_true]
theorem c_hasPoint {x : Int32} (hnp : np ≤ 7) (h : I 1 0 = nI np) (Q : Option Value → mm_I → mm_J → Prop) : mm_call z (d + 1) 81 [.ref 1, .int x] I J Q = Q (some (.int (mb (inN np x)))) I J := by
  refine mm_ev ?_ Q
  simp only [ce_81, bk_81, mmE, mmE0, mmH, mT, mR, mRf, mAl, mAs, mAz, mAn, Int.reduceToNat, Int32.reduceOfInt, Int64.reduceOfInt, Int.reduceAdd, swE, Nat.reduceDiv, Nat.reduceMod, Nat.reduceAdd, Nat.reduceMul, Nat.reduceEqDiff, Nat.reduceLeDiff, Nat.zero_le, List.length_nil, List.length_cons, Nat.zero_add, true_or, or_true, false_or, or_false, true_and, and_true, and_self, mb_01, mb_t, mb_f, h, z01, true_implies, not_true_eq_false, not_false_eq_true, false_implies, and_true, true_and]
  cases e : inN np x with
  | true =>
    obtain ⟨m, hm, rfl⟩ := inN_t e
    have c2 : (nI np ≤ nI m) = False := by rw [le_nI (by omega) (by omega)]; exact eq_false (by omega)
    simp only [nneg (show m < 2 ^ 31 by omega), c2, mb_t, true_implies, not_true_eq_false, not_false_eq_true, false_implies, and_true, true_and]
  | false =>
    by_cases q1 : x < 0
    · simp only [q1, mb_f, true_implies, not_true_eq_false, not_false_eq_true, false_implies, and_true, true_and, implies_true]
    · have q2 : nI np ≤ x := by
        rw [Int32.le_iff_toInt_le, nI_toInt (by omega)]
        exact (inN_f e).resolve_left q1
      simp only [q1, q2, mb_f, true_implies, not_true_eq_false, not_false_eq_true, false_implies, and_true, true_and, implies_true]
/-- what five numbers say of the points -/
def n_fact (np : Nat) (k a b c e : Int32) : Option Nat := if inN 7 k && inN np a && inN np b && inN np c && (k == 0 || k == 4 || k == 6 || inN np e) then n_number k.toNatClampNeg a.toNatClampNeg b.toNatClampNeg c.toNatClampNeg (if k == 0 || k == 4 || k == 6 then 0 else e.toNatClampNeg) else none
theorem k046 {k : Nat} (hk : k < 7) : (nI k == 0 || nI k == 4 || nI k == 6) = decide (kdN k = 3) := by
  rcases (show k = 0 ∨ k = 1 ∨ k = 2 ∨ k = 3 ∨ k = 4 ∨ k = 5 ∨ k = 6 by omega) with rfl | rfl | rfl | rfl | rfl | rfl | rfl <;> decide
theorem n_fact_n {k a b c : Nat} {e : Int32} (hk : k < 7) (ha : a < np) (hb : b < np) (hc : c < np) (hnp : np ≤ 7) : n_fact np (nI k) (nI a) (nI b) (nI c) e = if kdN k = 3 then n_number k a b c 0 else if inN np e = true then n_number k a b c e.toNatClampNeg else none := by
  unfold n_fact
  rw [inN_nI (by omega), inN_nI (by omega), inN_nI (by omega), inN_nI (by omega), decide_eq_true hk, decide_eq_true ha, decide_eq_true hb, decide_eq_true hc, k046 hk, nI_clamp (by omega), nI_clamp (by omega), nI_clamp (by omega), nI_clamp (by omega)]
  by_cases q : kdN k = 3
  · rw [decide_eq_true q]
    simp [q]
  · rw [decide_eq_false q]
    simp [q]
theorem n_fact_no {k a b c e : Int32} (h : (inN 7 k && inN np a && inN np b && inN np c) = false) : n_fact np k a b c e = none := by
  unfold n_fact
  rw [h]
  rfl
theorem kd34 (k : Nat) : kdN k = 3 ∨ kdN k = 4 := by unfold kdN; split <;> simp
theorem n_fact_P {k a b c e : Int32} {f : Nat} (hnp : np ≤ 7) (h : n_fact np k a b c e = some f) : isP np f := by
  cases ek : inN 7 k && inN np a && inN np b && inN np c with
  | false => rw [n_fact_no ek] at h; cases h
  | true =>
    simp only [Bool.and_eq_true] at ek
    obtain ⟨⟨⟨q1, q2⟩, q3⟩, q4⟩ := ek
    obtain ⟨k, hk, rfl⟩ := inN_t q1
    obtain ⟨a, ha, rfl⟩ := inN_t q2
    obtain ⟨b, hb, rfl⟩ := inN_t q3
    obtain ⟨c, hc, rfl⟩ := inN_t q4
    rw [n_fact_n hk ha hb hc hnp] at h
    split at h
    · exact ⟨k, a, b, c, 0, hk, ha, hb, hc, by omega, h⟩
    · split at h
      · rename_i q
        obtain ⟨e, he, rfl⟩ := inN_t q
        rw [nI_clamp (by omega)] at h
        exact ⟨k, a, b, c, e, hk, ha, hb, hc, he, h⟩
      · cases h
theorem c_factOf {k a b c e : Int32} (hnp : np ≤ 7) (h : I 1 0 = nI np) (Q : Option Value → mm_I → mm_J → Prop) : mm_call z (d + 3) 84 [.ref 1, .int k, .int a, .int b, .int c, .int e] I J Q = Q (some (.int (eI (n_fact np k a b c e)))) I J := by
  refine mm_ev ?_ Q
  simp only [ce_84, bk_84, mmE, mmE0, mmH, mT, mR, mRf, mAl, mAs, mAz, mAn, Int.reduceToNat, Int32.reduceOfInt, Int64.reduceOfInt, Int.reduceAdd, swE, Nat.reduceDiv, Nat.reduceMod, Nat.reduceAdd, Nat.reduceMul, Nat.reduceEqDiff, Nat.reduceLeDiff, Nat.zero_le, List.length_nil, List.length_cons, Nat.zero_add, true_or, or_true, false_or, or_false, true_and, and_true, and_self, mb_01, mb_t, mb_f, c_pointsOf, c_hasPoint hnp h, c_number, mb_0, Option.toList_some, Option.toList_none, List.cons_append, List.nil_append]
  cases ek : inN 7 k with
  | false =>
    rw [n_fact_no (by rw [ek]; rfl)]
    by_cases q1 : k < 0
    · simp only [q1, eI_none, true_implies, not_true_eq_false, not_false_eq_true, false_implies, and_true, true_and, implies_true]
    · have q2 : ¬ k < 7 := by
        rw [Int32.lt_iff_toInt_lt, show (7 : Int32).toInt = 7 by decide]
        have := (inN_f ek).resolve_left q1
        omega
      simp only [q1, q2, eI_none, true_implies, not_true_eq_false, not_false_eq_true, false_implies, and_true, true_and, implies_true]
  | true =>
    obtain ⟨kk, hk, rfl⟩ := inN_t ek
    have k7 : (nI kk < 7) = True := eq_true (nI_lt (b := 7) hk (by decide))
    simp only [nneg (show kk < 2 ^ 31 by omega), k7, pointsOf_n hk, true_implies, not_true_eq_false, not_false_eq_true, false_implies, and_true, true_and]
    cases ea : inN np a with
    | false =>
      rw [n_fact_no (by rw [ea]; simp)]
      simp only [eI_none, true_implies, not_true_eq_false, not_false_eq_true, false_implies, and_true, true_and, implies_true, and_self]
    | true =>
    cases eb : inN np b with
    | false =>
      rw [n_fact_no (by rw [eb]; simp)]
      simp only [Bool.true_eq_false, eI_none, true_implies, not_true_eq_false, not_false_eq_true, false_implies, and_true, true_and, implies_true, and_self]
    | true =>
    cases ec : inN np c with
    | false =>
      rw [n_fact_no (by rw [ec]; simp)]
      simp only [Bool.true_eq_false, eI_none, true_implies, not_true_eq_false, not_false_eq_true, false_implies, and_true, true_and, implies_true, and_self]
    | true =>
      obtain ⟨a, ha, rfl⟩ := inN_t ea
      obtain ⟨b, hb, rfl⟩ := inN_t eb
      obtain ⟨c, hc, rfl⟩ := inN_t ec
      rw [n_fact_n hk ha hb hc hnp]
      rcases kd34 kk with q | q
      · have q4 : (nI 3 = 4) = False := by decide
        have e0 : inN np 0 = true := by
          rw [show (0 : Int32) = nI 0 from rfl, inN_nI (by omega)]
          exact decide_eq_true (by omega)
        have nE := fa_number_n hk (show a < 7 by omega) (show b < 7 by omega) (show c < 7 by omega) (show 0 < 7 by omega)
        rw [show nI 0 = 0 from rfl] at nE
        simp only [q, q4, e0, nE, Bool.true_eq_false, if_true, true_implies, not_true_eq_false, not_false_eq_true, false_implies, and_true, true_and, implies_true, and_self]
      · have q4 : (nI 4 = 4) = True := eq_true rfl
        have q43 : (4 = 3) = False := by decide
        cases ee : inN np e with
        | false =>
          simp only [q, q4, q43, ee, Bool.true_eq_false, Bool.false_eq_true, if_false, eI_none, true_implies, not_true_eq_false, not_false_eq_true, false_implies, and_true, true_and, implies_true, and_self]
        | true =>
          obtain ⟨e, he, rfl⟩ := inN_t ee
          have nE := fa_number_n hk (show a < 7 by omega) (show b < 7 by omega) (show c < 7 by omega) (show e < 7 by omega)
          simp only [q, q4, q43, ee, nE, Bool.true_eq_false, if_true, if_false, nI_clamp (show e < 2 ^ 31 by omega), true_implies, not_true_eq_false, not_false_eq_true, false_implies, and_true, true_and, implies_true, and_self]
theorem slot_fact {k a b c e : Int32} (hnp : np ≤ 7) : rm_slot np k a b c e = eI ((n_fact np k a b c e).map sl) := by
  cases ek : inN 7 k && inN np a && inN np b && inN np c with
  | false =>
    rw [n_fact_no ek]
    unfold rm_slot
    rw [ek]
    rfl
  | true =>
    simp only [Bool.and_eq_true] at ek
    obtain ⟨⟨⟨q1, q2⟩, q3⟩, q4⟩ := ek
    obtain ⟨k, hk, rfl⟩ := inN_t q1
    obtain ⟨a, ha, rfl⟩ := inN_t q2
    obtain ⟨b, hb, rfl⟩ := inN_t q3
    obtain ⟨c, hc, rfl⟩ := inN_t q4
    rw [n_fact_n hk ha hb hc hnp]
    rcases kd34 k with q | q
    · have hf : fm_slot (nI k) (nI a) (nI b) (nI c) e = fm_slot (nI k) (nI a) (nI b) (nI c) (nI 0) := by
        have : k = 0 ∨ k = 4 ∨ k = 6 := by
          unfold kdN at q
          split at q
          · assumption
          · cases q
        unfold fm_slot
        rcases this with rfl | rfl | rfl
        · rw [if_pos (show nI 0 = 0 from rfl), if_pos (show nI 0 = 0 from rfl)]
        · have n0 : ¬ nI 4 = 0 := by decide
          rw [if_neg n0, if_pos (Or.inl (show nI 4 = 4 from rfl)), if_neg n0, if_pos (Or.inl (show nI 4 = 4 from rfl))]
        · have n0 : ¬ nI 6 = 0 := by decide
          rw [if_neg n0, if_pos (Or.inr (show nI 6 = 6 from rfl)), if_neg n0, if_pos (Or.inr (show nI 6 = 6 from rfl))]
      rw [if_pos q, ← slot_n hk (by omega) (by omega) (by omega) (by omega), ← hf]
      unfold rm_slot
      rw [q1, q2, q3, q4, k046 hk, decide_eq_true q]
      rfl
    · rw [if_neg (by omega)]
      cases ee : inN np e with
      | false =>
        rw [if_neg (by decide)]
        unfold rm_slot
        rw [k046 hk, decide_eq_false (by omega), ee, Bool.or_false, Bool.and_false]
        rfl
      | true =>
        obtain ⟨e, he, rfl⟩ := inN_t ee
        rw [if_pos rfl, nI_clamp (by omega), rm_slot_n hnp hk ha hb hc (by omega) (fun _ => he)]
end SH
