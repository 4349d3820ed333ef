/-! the reference keeps a fact -/
def srt3 (a b c : Nat) : Bool := (n_ofLine a b c).all fun f => ((List.range' 0 7).filter fun p => [a, b, c].contains p) == [pt f 0, pt f 1, pt f 2]
def srt4 (a b c d : Nat) : Bool := (n_ofCircle a b c d).all fun f => ((List.range' 0 7).filter fun p => [a, b, c, d].contains p) == [pt f 0, pt f 1, pt f 2, pt f 3]
theorem srt3_all : ((List.range 7).all fun a => (List.range 7).all fun b => (List.range 7).all fun c => srt3 a b c) = true := by decide +kernel
theorem srt4_all : ((List.range 7).all fun a => (List.range 7).all fun b => (List.range 7).all fun c => (List.range 7).all fun d => srt4 a b c d) = true := by decide +kernel
theorem flt7 {np : Nat} {l : List Nat} (hnp : np ≤ 7) (hl : ∀ x ∈ l, x < np) : ((List.range' 0 np).filter fun p => l.contains p) = (List.range' 0 7).filter fun p => l.contains p := by
  have e : List.range' 0 7 = List.range' 0 np ++ List.range' np (7 - np) := by
    have := List.range'_append (s := 0) (m := np) (n := 7 - np) (step := 1)
    rw [show np + (7 - np) = 7 by omega, Nat.one_mul, Nat.zero_add] at this
    exact this.symm
  rw [e, List.filter_append]
  have : (List.range' np (7 - np)).filter (fun p => l.contains p) = [] := by
    rw [List.filter_eq_nil_iff]
    intro x hx q
    rw [List.mem_range'_1] at hx
    have := hl x (List.contains_iff_mem.mp q)
    omega
  rw [this, List.append_nil]
section KF
variable {z : mm_S} {d : Nat} {I : mm_I} {J : mm_J} {np : Nat} {Q : Option Value → mm_I → mm_J → Prop}
theorem ix164 {x : Nat} (h : x < 164) : vp_in (nI x) 164 = True ∧ (nI x).toNatClampNeg = x := ⟨eq_true (vp_in_nI h (by decide)), nI_clamp (by omega)⟩
theorem i4 (r k : Nat) : (4 : Int32) * nI r + nI k = nI (4 * r + k) := by
  rw [show (4 : Int32) = nI 4 from rfl, nI_mul, nI_add]
theorem i4l (r : Nat) : (4 : Int32) * nI r = nI (4 * r) ∧ nI (4 * r) + 1 = nI (4 * r + 1) ∧ nI (4 * r) + 2 = nI (4 * r + 2) ∧ nI (4 * r) + 3 = nI (4 * r + 3) := by
  refine ⟨by rw [show (4 : Int32) = nI 4 from rfl, nI_mul], ?_, ?_, ?_⟩
  · rw [show (1 : Int32) = nI 1 from rfl, nI_add]
  · rw [show (2 : Int32) = nI 2 from rfl, nI_add]
  · rw [show (3 : Int32) = nI 3 from rfl, nI_add]
theorem w_mput {r : Nat} {a b c e : Int32} (hr : r ≤ 40) (k : ∀ I', (∀ c, c ≠ 143 → I' c = I c) → (∀ q, q < 4 * r ∨ 4 * r + 4 ≤ q → I' 143 q = I 143 q) → I' 143 (4 * r) = a → I' 143 (4 * r + 1) = b → I' 143 (4 * r + 2) = c → I' 143 (4 * r + 3) = e → Q none I' J) : mm_call z (d + 1) 159 [.ref 127, .int (nI r), .int a, .int b, .int c, .int e] I J Q := by
  simp only [ce_159, bk_159, mmE, mmE0, mmH, mT, mR, mRf, mAl, mAs, mAz, mAn, Int.reduceToNat, Int32.reduceOfInt, Int64.reduceOfInt, Int.reduceAdd, swE, Nat.reduceDiv, Nat.reduceMod, Nat.reduceAdd, Nat.reduceMul, Nat.reduceEqDiff, Nat.reduceLeDiff, Nat.zero_le, List.length_nil, List.length_cons, Nat.zero_add, true_or, or_true, false_or, or_false, true_and, and_true, and_self, mb_01, mb_t, mb_f, i4l, ix164 (show 4 * r < 164 by omega), ix164 (show 4 * r + 1 < 164 by omega), ix164 (show 4 * r + 2 < 164 by omega), ix164 (show 4 * r + 3 < 164 by omega), true_implies, not_true_eq_false, not_false_eq_true, false_implies, and_true, true_and]
  refine k _ (fun x hx => ?_) (fun q hq => ?_) ?_ ?_ ?_ ?_
  · funext q
    rw [mWI, if_neg hx, mWI, if_neg hx, mWI, if_neg hx, mWI, if_neg hx]
  · rw [mWI, if_pos rfl, if_neg (by omega), mWI, if_pos rfl, if_neg (by omega), mWI, if_pos rfl, if_neg (by omega), mWI, if_pos rfl, if_neg (by omega)]
  · rw [mWI, if_pos rfl, if_neg (by omega), mWI, if_pos rfl, if_neg (by omega), mWI, if_pos rfl, if_neg (by omega), mWI, if_pos rfl, if_pos rfl]
  · rw [mWI, if_pos rfl, if_neg (by omega), mWI, if_pos rfl, if_neg (by omega), mWI, if_pos rfl, if_pos rfl]
  · rw [mWI, if_pos rfl, if_neg (by omega), mWI, if_pos rfl, if_pos rfl]
  · rw [mWI, if_pos rfl, if_pos rfl]
theorem w_s0_in {k r p m : Nat} {l : List Nat} (hk : k < 7) (hp : p < 7) (hl : ∀ x, x < 4 → I 141 x = nI (l.getD x 0)) (hl7 : ∀ x, l.getD x 0 < 7) (hkd : I 127 22 = nI k) : ∀ (w c : Nat) (b : Bool), c + w = kdN k → (∀ o5, mm_at z (mm_call z (d + 1)) (mm_code 158) Q 72 [some (.ref 127), some (.int (nI r)), some (.int (nI m)), some (.int (nI p)), some (.int (mb (b || (List.range' c w).any fun x => l.getD x 0 == p))), o5] [] I J) → mm_at z (mm_call z (d + 1)) (mm_code 158) Q 31 [some (.ref 127), some (.int (nI r)), some (.int (nI m)), some (.int (nI p)), some (.int (mb b)), some (.int (nI c))] [] I J
  | 0, c, b, hc, K => by
    have k4 := kdN_le k
    have c1 : (nI (kdN k) ≤ nI c) = True := by rw [le_nI (by omega) (by omega)]; exact eq_true (by omega)
    rw [hk_158_31]
    simp only [mmE, mmE0, mmH, mT, mR, mRf, mAl, mAs, mAz, mAn, Int.reduceToNat, Int32.reduceOfInt, Int64.reduceOfInt, Int.reduceAdd, swE, Nat.reduceDiv, Nat.reduceMod, Nat.reduceAdd, Nat.reduceMul, Nat.reduceEqDiff, Nat.reduceLeDiff, Nat.zero_le, List.length_nil, List.length_cons, Nat.zero_add, true_or, or_true, false_or, or_false, true_and, and_true, and_self, mb_01, mb_t, mb_f, hkd, c_mPointsOf, pointsOf_n hk, c1, Option.toList_some, Option.toList_none, List.cons_append, List.nil_append, true_implies, not_true_eq_false, not_false_eq_true, false_implies, and_true, true_and]
    have := K (some (.int (nI c)))
    rw [show (b || (List.range' c 0).any fun x => l.getD x 0 == p) = b from Bool.or_false b] at this
    exact this
  | w + 1, c, b, hc, K => by
    have k4 := kdN_le k
    have c1 : (nI (kdN k) ≤ nI c) = False := by rw [le_nI (by omega) (by omega)]; exact eq_false (by omega)
    have c3 : vp_in (nI c) 4 = True := eq_true (vp_in_nI (by omega) (by decide))
    have c4 : (nI c).toNatClampNeg = c := nI_clamp (by omega)
    have c5 : (nI (l.getD c 0) = nI p) = (l.getD c 0 = p) := eq_nI (by have := hl7 c; omega) (by omega)
    rw [hk_158_31]
    have ih := fun b' => w_s0_in (r := r) (m := m) hk hp hl hl7 hkd w (c + 1) b' (by omega)
    rw [nI_succ] at ih
    rw [List.range'_succ, List.any_cons] at K
    simp only [bk_158.2.1, bk_158.2.2.1, bk_158.2.2.2.1, mmE, mmE0, mmH, mT, mR, mRf, mAl, mAs, mAz, mAn, Int.reduceToNat, Int32.reduceOfInt, Int64.reduceOfInt, Int.reduceAdd, swE, Nat.reduceDiv, Nat.reduceMod, Nat.reduceAdd, Nat.reduceMul, Nat.reduceEqDiff, Nat.reduceLeDiff, Nat.zero_le, List.length_nil, List.length_cons, Nat.zero_add, true_or, or_true, false_or, or_false, true_and, and_true, and_self, mb_01, mb_t, mb_f, hkd, c_mPointsOf, pointsOf_n hk, c1, c3, c4, hl c (by omega), c5, mb_0, Option.toList_some, Option.toList_none, List.cons_append, List.nil_append, true_implies, not_true_eq_false, not_false_eq_true, false_implies, and_true, true_and]
    cases b with
    | true =>
      simp only [Bool.true_eq_false, true_implies, not_true_eq_false, not_false_eq_true, false_implies, and_true, true_and]
      refine ih true (fun o5 => ?_)
      have := K o5
      rw [Bool.true_or] at this ⊢
      exact this
    | false =>
      by_cases q : l.getD c 0 = p
      · simp only [q, true_implies, not_true_eq_false, not_false_eq_true, false_implies, and_true, true_and]
        refine ih true (fun o5 => ?_)
        have := K o5
        rw [show (l.getD c 0 == p) = true from beq_iff_eq.mpr q, Bool.true_or, Bool.false_or] at this
        rw [Bool.true_or]
        exact this
      · simp only [q, true_implies, not_true_eq_false, not_false_eq_true, false_implies, and_true, true_and]
        refine ih false (fun o5 => ?_)
        have := K o5
        rw [show (l.getD c 0 == p) = false from beq_eq_false_iff_ne.mpr q, Bool.false_or] at this
        exact this
theorem w_s0_out {k r : Nat} {l : List Nat} {is : Nat → Bool} (his : ∀ p, is p = (List.range' 0 (kdN k)).any fun x => l.getD x 0 == p) (hk : k < 7) (hr : r ≤ 40) (hnp : np ≤ 7) (hl7 : ∀ x, l.getD x 0 < 7) : ∀ (w p m : Nat) (I : mm_I) (o4 o5 : Option Value), p + w = np → m + ((List.range' p w).filter is).length ≤ 4 → (∀ x, x < 4 → I 141 x = nI (l.getD x 0)) → I 127 22 = nI k → I 127 0 = nI np → (∀ I', (∀ c, c ≠ 143 → I' c = I c) → (∀ q, q < 4 * r + m ∨ 4 * r + m + ((List.range' p w).filter is).length ≤ q → I' 143 q = I 143 q) → (∀ j, j < ((List.range' p w).filter is).length → I' 143 (4 * r + m + j) = nI (((List.range' p w).filter is).getD j 0)) → Q none I' J) → mm_at z (mm_call z (d + 1)) (mm_code 158) Q 17 [some (.ref 127), some (.int (nI r)), some (.int (nI m)), some (.int (nI p)), o4, o5] [] I J
  | 0, p, m, I, o4, o5, hp, hm, hl, hkd, hpt, K => by
    rw [hk_158_17]
    have c1 : (nI np ≤ nI p) = True := by rw [le_nI (by omega) (by omega)]; exact eq_true (by omega)
    simp only [bk_158.2.2.2.2.2.2, mmE, mmE0, mmH, mT, mR, mRf, mAl, mAs, mAz, mAn, Int.reduceToNat, Int32.reduceOfInt, Int64.reduceOfInt, Int.reduceAdd, swE, Nat.reduceDiv, Nat.reduceMod, Nat.reduceAdd, Nat.reduceMul, Nat.reduceEqDiff, Nat.reduceLeDiff, Nat.zero_le, List.length_nil, List.length_cons, Nat.zero_add, true_or, or_true, false_or, or_false, true_and, and_true, and_self, mb_01, mb_t, mb_f, hpt, c1, true_implies, not_true_eq_false, not_false_eq_true, false_implies, and_true, true_and]
    exact K I (fun _ _ => rfl) (fun _ _ => rfl) (fun j hj => by cases hj)
  | w + 1, p, m, I, o4, o5, hp, hm, hl, hkd, hpt, K => by
    rw [hk_158_17]
    have c1 : (nI np ≤ nI p) = False := by rw [le_nI (by omega) (by omega)]; exact eq_false (by omega)
    simp only [mmE, mmE0, mmH, mT, mR, mRf, mAl, mAs, mAz, mAn, Int.reduceToNat, Int32.reduceOfInt, Int64.reduceOfInt, Int.reduceAdd, swE, Nat.reduceDiv, Nat.reduceMod, Nat.reduceAdd, Nat.reduceMul, Nat.reduceEqDiff, Nat.reduceLeDiff, Nat.zero_le, List.length_nil, List.length_cons, Nat.zero_add, true_or, or_true, false_or, or_false, true_and, and_true, and_self, mb_01, mb_t, mb_f, hpt, c1, true_implies, not_true_eq_false, not_false_eq_true, false_implies, and_true, true_and]
    refine w_s0_in (k := k) (r := r) (p := p) (m := m) (l := l) hk (by omega) hl hl7 hkd (kdN k) 0 false (by omega) (fun o5 => ?_)
    rw [Bool.false_or, ← his]
    rw [List.range'_succ] at K hm
    simp only [bk_158.2.2.2.2.1, bk_158.2.2.2.2.2.1, mmE, mmE0, mmH, mT, mR, mRf, mAl, mAs, mAz, mAn, Int.reduceToNat, Int32.reduceOfInt, Int64.reduceOfInt, Int.reduceAdd, swE, Nat.reduceDiv, Nat.reduceMod, Nat.reduceAdd, Nat.reduceMul, Nat.reduceEqDiff, Nat.reduceLeDiff, Nat.zero_le, List.length_nil, List.length_cons, Nat.zero_add, true_or, or_true, false_or, or_false, true_and, and_true, and_self, mb_01, mb_t, mb_f, mb_0]
    cases e : is p with
    | false =>
      rw [List.filter_cons_of_neg (by rw [e]; decide)] at K hm
      simp only [true_implies, not_true_eq_false, not_false_eq_true, false_implies, and_true, true_and]
      rw [← nI_succ]
      exact w_s0_out his hk hr hnp hl7 w (p + 1) m I _ _ (by omega) hm hl hkd hpt K
    | true =>
      rw [List.filter_cons_of_pos e] at K hm
      rw [List.length_cons] at K hm
      simp only [Bool.true_eq_false, i4, ix164 (show 4 * r + m < 164 by omega), true_implies, not_true_eq_false, not_false_eq_true, false_implies, and_true, true_and]
      rw [← nI_succ, ← nI_succ]
      refine w_s0_out his hk hr hnp hl7 w (p + 1) (m + 1) _ _ _ (by omega) (by omega) ?_ ?_ ?_ (fun I' g1 g2 g3 => ?_)
      · intro x hx
        rw [mWI, if_neg (by decide)]; exact hl x hx
      · rw [mWI, if_neg (by decide)]; exact hkd
      · rw [mWI, if_neg (by decide)]; exact hpt
      · refine K I' (fun c hc => ?_) (fun q hq => ?_) (fun j hj => ?_)
        · rw [g1 c hc]
          funext q
          rw [mWI, if_neg hc]
        · rw [g2 q (by omega), mWI, if_pos rfl, if_neg (by omega)]
        · match j with
          | 0 =>
            rw [Nat.add_zero, g2 (4 * r + m) (by omega), mWI, if_pos rfl, if_pos rfl]
            rfl
          | j + 1 =>
            rw [show 4 * r + m + (j + 1) = 4 * r + (m + 1) + j by omega, g3 j (by omega)]
            rfl
end KF
