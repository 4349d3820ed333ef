/-! calls about rows and languages -/
section OE
variable {z : mm_S} {d : Nat} {I : mm_I} {J : mm_J} {s : st_T}
theorem in_01 {x : Int32} : (decide ((0 : Int64) ≤ x.toInt64) && decide (x.toInt64 ≤ (1 : Int64))) = inN 2 x := in_1
theorem pC_language {x : Int32} (hv : va s) (h : repC I J s) : mm_call z (d + 1) 104 [.ref 0, .int x] I J (okC I J (o_language s x)) := by
  obtain ⟨⟨a1, a2, a3, a4⟩, b, c, e, g, i, j, l⟩ := id h
  have hn := hv.1.2.2.1
  simp only [ce_104, bk_104, mmE, mmE0, mmH, mT, mR, mRf, mAl, mAs, mAz, mAn, Int.reduceToNat, Int32.reduceOfInt, Int64.reduceOfInt, Int.reduceAdd, swE, Nat.reduceDiv, Nat.reduceMod, Nat.reduceAdd, Nat.reduceMul, Nat.reduceEqDiff, Nat.reduceLeDiff, Nat.zero_le, List.length_nil, List.length_cons, Nat.zero_add, true_or, or_true, false_or, or_false, true_and, and_true, and_self, mb_01, mb_t, mb_f, e.1]
  unfold o_language
  cases ex : inN 2 x with
  | false =>
    have hk : okC I J ((-1 : Int32), s) (some (.int (-1))) I J := ⟨rfl, h, frC_rf⟩
    by_cases q : x < 0
    · simp only [q, true_implies, not_true_eq_false, not_false_eq_true, false_implies, and_true, true_and, if_false, Bool.false_eq_true]; exact hk
    · have q2 : ¬ x < 2 := by
        rw [i32lt, show (2 : Int32).toInt = 2 by decide]
        have := (inN_f ex).resolve_left q
        omega
      simp only [q, q2, true_implies, not_true_eq_false, not_false_eq_true, false_implies, and_true, true_and, if_false, Bool.false_eq_true]; exact hk
  | true =>
    obtain ⟨m, hm, rfl⟩ := inN_t ex
    have q2 : (nI m < 2) = True := eq_true (nI_lt (b := 2) hm (by decide))
    simp only [nneg (show m < 2 ^ 31 by omega), q2, true_implies, not_true_eq_false, not_false_eq_true, false_implies, and_true, true_and, if_true]
    rw [nI_clamp (show m < 2 ^ 31 by omega)]
    have f : ∀ k, k ≠ 106 → mm_wI I 106 1 (nI m) k = I k := fun k hk => by funext q; rw [mWI, if_neg hk]
    refine ⟨rfl, ⟨⟨?_, ?_, ?_, ?_⟩, figs_c (fun k _ _ => f k (by omega)) b, ⟨?_, c.2.1, fun i hi => ?_⟩, ⟨?_, e.2⟩, rows_c hn (fun k _ _ => f k (by omega)) g, fun q => rC_fr (i q) (f _ (by decide)) (f _ (by decide)), ?_, fun q => rcG_c (s := s) hn (fun k _ _ => f k (by omega)) (fun k _ _ => f k (by omega)) (f _ (by decide)) (fun j _ => by rw [f _ (by decide)]) (l q)⟩, frC_w (by decide)⟩
    · rw [f _ (by decide)]; exact a1
    · rw [f _ (by decide)]; exact a2
    · rw [f _ (by decide)]; exact a3
    · rw [f _ (by decide)]; exact a4
    · rw [f _ (by decide)]; exact c.1
    · rw [f _ (by decide)]; exact c.2.2 i hi
    · rw [mWI, if_pos rfl, if_pos rfl]
    · rw [f _ (by decide)]; exact j
theorem pM_language {x : Int32} (hv : va s) (h : repM I J s) : mm_call z (d + 2) 144 [.ref 127, .int x] I J (okM I J (o_language s x)) := by
  obtain ⟨⟨a1, a2, a3, a4⟩, b, c, e, g, i, j, l, mt⟩ := id h
  simp only [ce_144, bk_144, mmE, mmE0, mmH, mT, mR, mRf, mAl, mAs, mAz, mAn, Int.reduceToNat, Int32.reduceOfInt, Int64.reduceOfInt, Int.reduceAdd, swE, Nat.reduceDiv, Nat.reduceMod, Nat.reduceAdd, Nat.reduceMul, Nat.reduceEqDiff, Nat.reduceLeDiff, Nat.zero_le, List.length_nil, List.length_cons, Nat.zero_add, true_or, or_true, false_or, or_false, true_and, and_true, and_self, mb_01, mb_t, mb_f, Option.toList_some, Option.toList_none, List.cons_append, List.nil_append, e.1, c_in, in_01, mb_0]
  unfold o_language
  cases ex : inN 2 x with
  | false =>
    simp only [true_implies, not_true_eq_false, not_false_eq_true, false_implies, and_true, true_and, if_false, Bool.false_eq_true]
    exact ⟨rfl, h, frM_rf⟩
  | true =>
    obtain ⟨m, hm, rfl⟩ := inN_t ex
    simp only [true_implies, not_true_eq_false, not_false_eq_true, false_implies, and_true, true_and, if_true, Bool.true_eq_false]
    rw [nI_clamp (show m < 2 ^ 31 by omega)]
    have f : ∀ k, k ≠ 127 → mm_wI I 127 14 (nI m) k = I k := fun k hk => by funext q; rw [mWI, if_neg hk]
    have fj : ∀ j, j ≠ 14 → mm_wI I 127 14 (nI m) 127 j = I 127 j := fun j hj => by rw [mWI, if_pos rfl, if_neg hj]
    refine ⟨rfl, ⟨⟨?_, ?_, ?_, ?_⟩, mfigs_c (f _ (by decide)) (f _ (by decide)) (f _ (by decide)) b, ⟨?_, c.2.1, fun i hi => ?_⟩, ⟨?_, e.2⟩, fun r r1 r2 => mrow_c (fun k _ _ => f k (by omega)) (g r r1 r2), fun q => mrow_c (fun k _ _ => f k (by omega)) (i q), ?_, fun q => rmG_c (s := s) (fun k _ _ => f k (by omega)) (f _ (by decide)) (fj _ (by decide)) (fj _ (by decide)) (l q), mtab_c (fun k _ _ => f k (by omega)) (fun k _ _ => by rw [f k (by omega)]) mt⟩, frM_w (by decide)⟩
    · rw [fj _ (by decide)]; exact a1
    · rw [fj _ (by decide)]; exact a2
    · rw [fj _ (by decide)]; exact a3
    · rw [fj _ (by decide)]; exact a4
    · rw [fj _ (by decide)]; exact c.1
    · rw [f _ (by decide)]; exact c.2.2 i hi
    · rw [mWI, if_pos rfl, if_pos rfl]
    · rw [fj _ (by decide)]; exact j
theorem pC_back (hv : va s) (h : repC I J s) : mm_call z (d + 1) 108 [.ref 0] I J (okC I J (o_back s)) := by
  obtain ⟨⟨a1, a2, a3, a4⟩, _⟩ := id h
  obtain ⟨⟨v1, v2, v3, v4⟩, _⟩ := id hv
  have w2 : ∀ x, mm_wI (mm_wI I 1 2 x) 112 3 0 1 2 = x := fun x => by rw [mWI, if_neg (by decide), mWI, if_pos rfl, if_pos rfl]
  simp only [ce_108, bk_108, mmE, mmE0, mmH, mT, mR, mRf, mAl, mAs, mAz, mAn, Int.reduceToNat, Int32.reduceOfInt, Int64.reduceOfInt, Int.reduceAdd, swE, Nat.reduceDiv, Nat.reduceMod, Nat.reduceAdd, Nat.reduceMul, Nat.reduceEqDiff, Nat.reduceLeDiff, Nat.zero_le, List.length_nil, List.length_cons, Nat.zero_add, true_or, or_true, false_or, or_false, true_and, and_true, and_self, mb_01, mb_t, mb_f, a3, n0E (show sNr s < 2 ^ 31 by omega), w2, z01]
  unfold o_back
  by_cases q0 : sNr s = 0
  · simp only [eq_true q0, true_implies, not_true_eq_false, not_false_eq_true, false_implies, and_true, true_and, if_true]
    exact ⟨rfl, h, frC_rf⟩
  · have c4 : nI (sNr s) - 1 = nI (sNr s - 1) := by rw [show (1 : Int32) = nI 1 from rfl, nI_sub (by omega)]
    simp only [q0, c4, true_implies, not_true_eq_false, not_false_eq_true, false_implies, and_true, true_and, if_false]
    refine ⟨rfl, repC_g0 hv h (fun k k1 k2 => ?_) ⟨?_, ?_, ?_, ?_⟩ rfl rfl rfl rfl rfl rfl rfl (Nat.sub_le _ _) rfl ?_, frC_tr (frC_w (by decide)) (frC_w (by decide))⟩
    · funext q
      rw [mWI, if_neg k2, mWI, if_neg k1]
    · rw [mWI, if_neg (by decide), mWI, if_pos rfl, if_neg (by decide)]; exact a1
    · rw [mWI, if_neg (by decide), mWI, if_pos rfl, if_neg (by decide)]; exact a2
    · rw [mWI, if_neg (by decide), mWI, if_pos rfl, if_pos rfl]
    · rw [mWI, if_neg (by decide), mWI, if_pos rfl, if_neg (by decide)]; exact a4
    · rw [mWI, if_pos rfl, if_pos rfl]
theorem pM_back (hv : va s) (h : repM I J s) : mm_call z (d + 1) 161 [.ref 127] I J (okM I J (o_back s)) := by
  obtain ⟨⟨a1, a2, a3, a4⟩, _⟩ := id h
  obtain ⟨⟨v1, v2, v3, v4⟩, _⟩ := id hv
  have w2 : ∀ x, mm_wI (mm_wI I 127 24 x) 127 37 0 127 24 = x := fun x => by rw [mWI, if_pos rfl, if_neg (by decide), mWI, if_pos rfl, if_pos rfl]
  simp only [ce_161, bk_161, mmE, mmE0, mmH, mT, mR, mRf, mAl, mAs, mAz, mAn, Int.reduceToNat, Int32.reduceOfInt, Int64.reduceOfInt, Int.reduceAdd, swE, Nat.reduceDiv, Nat.reduceMod, Nat.reduceAdd, Nat.reduceMul, Nat.reduceEqDiff, Nat.reduceLeDiff, Nat.zero_le, List.length_nil, List.length_cons, Nat.zero_add, true_or, or_true, false_or, or_false, true_and, and_true, and_self, mb_01, mb_t, mb_f, a3, n0E (show sNr s < 2 ^ 31 by omega), w2, z01]
  unfold o_back
  by_cases q0 : sNr s = 0
  · simp only [eq_true q0, true_implies, not_true_eq_false, not_false_eq_true, false_implies, and_true, true_and, if_true]
    exact ⟨rfl, h, frM_rf⟩
  · have c4 : nI (sNr s) - 1 = nI (sNr s - 1) := by rw [show (1 : Int32) = nI 1 from rfl, nI_sub (by omega)]
    simp only [q0, c4, true_implies, not_true_eq_false, not_false_eq_true, false_implies, and_true, true_and, if_false]
    refine ⟨rfl, repM_g0 h (fun k k1 => ?_) (fun j j1 j2 j3 j4 => ?_) ⟨?_, ?_, ?_⟩ rfl rfl rfl rfl rfl rfl rfl (Nat.sub_le _ _) rfl ?_, frM_tr (frM_w (by decide)) (frM_w (by decide))⟩
    · funext q
      rw [mWI, if_neg k1, mWI, if_neg k1]
    · rw [mWI, if_pos rfl, if_neg j4, mWI, if_pos rfl, if_neg j3]
    · rw [mWI, if_pos rfl, if_neg (by decide), mWI, if_pos rfl, if_neg (by decide)]; exact a1
    · rw [mWI, if_pos rfl, if_neg (by decide), mWI, if_pos rfl, if_neg (by decide)]; exact a2
    · rw [mWI, if_pos rfl, if_neg (by decide), mWI, if_pos rfl, if_pos rfl]
    · rw [mWI, if_pos rfl, if_pos rfl]
def rcl (r : Nat) : Nat := if r = 0 then 2 else 4 + 2 * r
theorem mTc {r : Nat} (hr : r ≤ 40) : mm_T (rcl r) = (4, 10) ∧ mm_T (rcl r + 1) = (100, 6) ∧ mm_R (rcl r) 4 = some (rcl r + 1) := by
  unfold rcl
  by_cases q : r = 0
  · rw [if_pos q]
    exact ⟨rfl, rfl, rfl⟩
  · rw [if_neg q]
    obtain ⟨a, b, c, _⟩ := mTr4 r (by omega) (by omega)
    exact ⟨a, b, c⟩
/-- a row or the goal -/
theorem inG_t (hv : va s) {x : Int32} (h : inG s x = true) : ∃ r, r ≤ 40 ∧ x = nI r ∧ ((1 ≤ r ∧ r ≤ sNr s) ∨ (r = 0 ∧ sHg s = true)) := by
  have v3 := hv.1.2.2.1
  unfold inG at h
  rw [Bool.or_eq_true, Bool.and_eq_true, beq_iff_eq] at h
  rcases h with h | ⟨h, h'⟩
  · obtain ⟨r, r1, r2, rfl⟩ := inR_t h
    exact ⟨r, by omega, rfl, Or.inl ⟨r1, r2⟩⟩
  · exact ⟨0, by omega, h, Or.inr ⟨rfl, h'⟩⟩
theorem row_of (hv : va s) {r : Nat} (h : (1 ≤ r ∧ r ≤ sNr s) ∨ (r = 0 ∧ sHg s = true)) : vr (sNp s) (sR s r) := by
  rcases h with ⟨h1, h2⟩ | ⟨rfl, h2⟩
  · exact hv.2.2.2.1 r h1 h2
  · obtain ⟨a, b⟩ := hv.2.2.2.2 h2
    unfold vr
    rw [b]
    exact ⟨a, by omega, fun q => by omega, by simp, fun o ho => by cases ho⟩
theorem rC_of (h : repC I J s) {r : Nat} (hr : (1 ≤ r ∧ r ≤ sNr s) ∨ (r = 0 ∧ sHg s = true)) : rC_row I (rcl r) (sR s r) := by
  obtain ⟨_, _, _, _, g, i, _, _⟩ := h
  unfold rcl
  rcases hr with ⟨h1, h2⟩ | ⟨rfl, h2⟩
  · rw [if_neg (by omega)]
    exact g r h1 h2
  · rw [if_pos rfl]
    exact i h2
theorem rM_of (h : repM I J s) {r : Nat} (hr : (1 ≤ r ∧ r ≤ sNr s) ∨ (r = 0 ∧ sHg s = true)) : rM_row I r (sR s r) := by
  obtain ⟨_, _, _, _, g, i, _, _⟩ := h
  rcases hr with ⟨h1, h2⟩ | ⟨rfl, h2⟩
  · exact g r h1 h2
  · exact i h2
theorem c_rog {r : Nat} (hv : va s) (h : repC I J s) (hr : (1 ≤ r ∧ r ≤ sNr s) ∨ (r = 0 ∧ sHg s = true)) (Q : Option Value → mm_I → mm_J → Prop) : mm_call z (d + 2) 87 [.ref 1, .int (nI r)] I J Q = Q (some (.ref (rcl r))) I J := by
  refine mm_ev ?_ Q
  obtain ⟨⟨a1, a2, a3, a4⟩, _⟩ := id h
  have v3 := hv.1.2.2.1
  unfold rcl
  rcases hr with ⟨h1, h2⟩ | ⟨rfl, h2⟩
  · rw [if_neg (by omega)]
    have n0 : (nI r = 0) = False := by rw [n0E (by omega)]; exact eq_false (by omega)
    simp only [ce_87, bk_87, mmE, mmE0, mmH, mT, mR, mRf, mAl, mAs, mAz, mAn, Int.reduceToNat, Int32.reduceOfInt, Int64.reduceOfInt, Int.reduceAdd, swE, Nat.reduceDiv, Nat.reduceMod, Nat.reduceAdd, Nat.reduceMul, Nat.reduceEqDiff, Nat.reduceLeDiff, Nat.zero_le, List.length_nil, List.length_cons, Nat.zero_add, true_or, or_true, false_or, or_false, true_and, and_true, and_self, mb_01, mb_t, mb_f, Option.toList_some, Option.toList_none, List.cons_append, List.nil_append, n0, c_rowAt v3 a3 h1 h2, true_implies, not_true_eq_false, not_false_eq_true, false_implies, and_true, true_and]
  · rw [if_pos rfl]
    have n0 : (nI 0 = 0) = True := eq_true rfl
    have a4' : I 1 3 = 1 := by rw [a4, h2]; rfl
    have e10 : ((1 : Int32) = 0) = False := by decide
    simp only [ce_87, bk_87, mmE, mmE0, mmH, mT, mR, mRf, mAl, mAs, mAz, mAn, Int.reduceToNat, Int32.reduceOfInt, Int64.reduceOfInt, Int.reduceAdd, swE, Nat.reduceDiv, Nat.reduceMod, Nat.reduceAdd, Nat.reduceMul, Nat.reduceEqDiff, Nat.reduceLeDiff, Nat.zero_le, List.length_nil, List.length_cons, Nat.zero_add, true_or, or_true, false_or, or_false, true_and, and_true, and_self, mb_01, mb_t, mb_f, Option.toList_some, Option.toList_none, List.cons_append, List.nil_append, n0, a4', e10, true_implies, not_true_eq_false, not_false_eq_true, false_implies, and_true, true_and]
theorem c_rog_no {x : Int32} (hv : va s) (h : repC I J s) (hx : inG s x = false) (Q : Option Value → mm_I → mm_J → Prop) : mm_call z (d + 2) 87 [.ref 1, .int x] I J Q = Q (some .null) I J := by
  refine mm_ev ?_ Q
  obtain ⟨⟨a1, a2, a3, a4⟩, _⟩ := id h
  have v3 := hv.1.2.2.1
  unfold inG at hx
  rw [Bool.or_eq_false_iff] at hx
  obtain ⟨h1, h2⟩ := hx
  by_cases q : x = 0
  · rw [show (x == 0) = true from beq_iff_eq.mpr q, Bool.true_and] at h2
    have a4' : I 1 3 = 0 := by rw [a4, h2]; rfl
    simp only [ce_87, bk_87, mmE, mmE0, mmH, mT, mR, mRf, mAl, mAs, mAz, mAn, Int.reduceToNat, Int32.reduceOfInt, Int64.reduceOfInt, Int.reduceAdd, swE, Nat.reduceDiv, Nat.reduceMod, Nat.reduceAdd, Nat.reduceMul, Nat.reduceEqDiff, Nat.reduceLeDiff, Nat.zero_le, List.length_nil, List.length_cons, Nat.zero_add, true_or, or_true, false_or, or_false, true_and, and_true, and_self, mb_01, mb_t, mb_f, Option.toList_some, Option.toList_none, List.cons_append, List.nil_append, q, a4', true_implies, not_true_eq_false, not_false_eq_true, false_implies, and_true, true_and]
  · simp only [ce_87, bk_87, mmE, mmE0, mmH, mT, mR, mRf, mAl, mAs, mAz, mAn, Int.reduceToNat, Int32.reduceOfInt, Int64.reduceOfInt, Int.reduceAdd, swE, Nat.reduceDiv, Nat.reduceMod, Nat.reduceAdd, Nat.reduceMul, Nat.reduceEqDiff, Nat.reduceLeDiff, Nat.zero_le, List.length_nil, List.length_cons, Nat.zero_add, true_or, or_true, false_or, or_false, true_and, and_true, and_self, mb_01, mb_t, mb_f, Option.toList_some, Option.toList_none, List.cons_append, List.nil_append, q, c_rowAt_no v3 a3 h1, true_implies, not_true_eq_false, not_false_eq_true, false_implies, and_true, true_and]
theorem in_1n {x : Int32} {n : Nat} (hn : n ≤ 1000) : (decide ((1 : Int64) ≤ x.toInt64) && decide (x.toInt64 ≤ (nI n).toInt64)) = inR n x := by
  rw [lQ_i n (by omega)]
  have := @in_ab x 1 (n : Int) (by omega) (by omega)
  exact this
theorem c_isRow {x : Int32} (hv : va s) (h : repM I J s) (Q : Option Value → mm_I → mm_J → Prop) : mm_call z (d + 2) 164 [.ref 127, .int x] I J Q = Q (some (.int (mb (inR (sNr s) x)))) I J := by
  refine mm_ev ?_ Q
  have v3 := hv.1.2.2.1
  simp only [ce_164, bk_164, mmE, mmE0, mmH, mT, mR, mRf, mAl, mAs, mAz, mAn, Int.reduceToNat, Int32.reduceOfInt, Int64.reduceOfInt, Int.reduceAdd, swE, Nat.reduceDiv, Nat.reduceMod, Nat.reduceAdd, Nat.reduceMul, Nat.reduceEqDiff, Nat.reduceLeDiff, Nat.zero_le, List.length_nil, List.length_cons, Nat.zero_add, true_or, or_true, false_or, or_false, true_and, and_true, and_self, mb_01, mb_t, mb_f, Option.toList_some, Option.toList_none, List.cons_append, List.nil_append, h.1.2.2.1, c_in, in_1n (show sNr s ≤ 1000 by omega), mb_01]
theorem c_isRG {x : Int32} (hv : va s) (h : repM I J s) (Q : Option Value → mm_I → mm_J → Prop) : mm_call z (d + 3) 163 [.ref 127, .int x] I J Q = Q (some (.int (mb (inG s x)))) I J := by
  refine mm_ev ?_ Q
  have a4 := h.1.2.2.2
  simp only [ce_163, bk_163, mmE, mmE0, mmH, mT, mR, mRf, mAl, mAs, mAz, mAn, Int.reduceToNat, Int32.reduceOfInt, Int64.reduceOfInt, Int.reduceAdd, swE, Nat.reduceDiv, Nat.reduceMod, Nat.reduceAdd, Nat.reduceMul, Nat.reduceEqDiff, Nat.reduceLeDiff, Nat.zero_le, List.length_nil, List.length_cons, Nat.zero_add, true_or, or_true, false_or, or_false, true_and, and_true, and_self, mb_01, mb_t, mb_f, Option.toList_some, Option.toList_none, List.cons_append, List.nil_append, c_isRow hv h, mb_0, a4, z01]
  unfold inG
  cases e : inR (sNr s) x with
  | true => simp only [true_implies, not_true_eq_false, not_false_eq_true, false_implies, and_true, true_and, Bool.true_eq_false, Bool.true_or, mb_t]
  | false =>
    simp only [true_implies, not_true_eq_false, not_false_eq_true, false_implies, and_true, true_and, Bool.false_or]
    by_cases q : x = 0
    · cases e2 : sHg s with
      | true =>
        simp only [q, true_implies, not_true_eq_false, not_false_eq_true, false_implies, and_true, true_and, Bool.true_eq_false]
        rfl
      | false =>
        simp only [q, true_implies, not_true_eq_false, not_false_eq_true, false_implies, and_true, true_and, Bool.and_false, mb_f]
    · simp only [q, true_implies, not_true_eq_false, not_false_eq_true, false_implies, and_true, true_and, show (x == 0) = false from beq_eq_false_iff_ne.mpr q, Bool.false_and, mb_f]
end OE
