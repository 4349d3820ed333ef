/-! good figures: the reference, and the calls -/
def o_good (s : st_T) (f : Int32) : op_T := (if inN (sNf s) f then mb (gfS s f.toNatClampNeg) else -1, s)
section GP2
variable {z : mm_S} {d : Nat} {I : mm_I} {J : mm_J} {s : st_T} {Q : Option Value → mm_I → mm_J → Prop}
theorem w_mg_in {f p : Nat} {F : fg_T} (hf : f < 6) (hp : p < 7) (h : rm_fig I f F) : ∀ (w q : Nat) (b : Bool), q + w = p → (∀ o4, mm_at z (mm_call z d) (mm_code 140) Q 113 [some (.ref 127), some (.int (nI f)), some (.int (mb (b && (List.range' q w).all fun q => !(F.1 p == F.1 q && F.2.1 p == F.2.1 q)))), some (.int (nI p)), o4] [] I J) → mm_at z (mm_call z d) (mm_code 140) Q 39 [some (.ref 127), some (.int (nI f)), some (.int (mb b)), some (.int (nI p)), some (.int (nI q))] [] I J
  | 0, q, b, hq, K => by
    rw [hk_140_39]
    have c1 : (nI p ≤ nI q) = True := by rw [le_nI (by omega) (by omega)]; exact eq_true (by omega)
    simp only [mmE, mmE0, mmH, mT, mR, mRf, mAl, mAs, mAz, mAn, Int.reduceToNat, Int32.reduceOfInt, Int64.reduceOfInt, Int.reduceAdd, swE, Nat.reduceDiv, Nat.reduceMod, Nat.reduceAdd, Nat.reduceMul, Nat.reduceEqDiff, Nat.reduceLeDiff, Nat.zero_le, List.length_nil, List.length_cons, Nat.zero_add, true_or, or_true, false_or, or_false, true_and, and_true, and_self, mb_01, mb_t, mb_f, c1, true_implies, not_true_eq_false, not_false_eq_true, false_implies, and_true, true_and]
    have := K (some (.int (nI q)))
    rw [show (b && (List.range' q 0).all fun q => !(F.1 p == F.1 q && F.2.1 p == F.2.1 q)) = b from Bool.and_true b] at this
    exact this
  | w + 1, q, b, hq, K => by
    rw [hk_140_39]
    have c1 : (nI p ≤ nI q) = False := by rw [le_nI (by omega) (by omega)]; exact eq_false (by omega)
    obtain ⟨g1, g2, _⟩ := h p hp
    obtain ⟨k1, k2, _⟩ := h q (by omega)
    have ih := fun b' => w_mg_in hf hp h w (q + 1) b' (by omega)
    rw [nI_succ] at ih
    rw [List.range'_succ, List.all_cons] at K
    simp only [bk_140.2.2.2.1, bk_140.2.2.2.2.1, bk_140.2.2.2.2.2.1, mmE, mmE0, mmH, mT, mR, mRf, mAl, mAs, mAz, mAn, Int.reduceToNat, Int32.reduceOfInt, Int64.reduceOfInt, Int.reduceAdd, swE, Nat.reduceDiv, Nat.reduceMod, Nat.reduceAdd, Nat.reduceMul, Nat.reduceEqDiff, Nat.reduceLeDiff, Nat.zero_le, List.length_nil, List.length_cons, Nat.zero_add, true_or, or_true, false_or, or_false, true_and, and_true, and_self, mb_01, mb_t, mb_f, c1, i7, ix42 hf hp, ix42 hf (show q < 7 by omega), g1, g2, k1, k2, mb_0, true_implies, not_true_eq_false, not_false_eq_true, false_implies, and_true, true_and]
    cases b with
    | false =>
      simp only [true_implies, not_true_eq_false, not_false_eq_true, false_implies, and_true, true_and]
      refine ih false (fun o4 => ?_)
      have := K o4
      rw [Bool.false_and] at this ⊢
      exact this
    | true =>
      simp only [Bool.true_eq_false, true_implies, not_true_eq_false, not_false_eq_true, false_implies, and_true, true_and]
      by_cases e1 : F.1 p = F.1 q
      · by_cases e2 : F.2.1 p = F.2.1 q
        · simp only [eq_true e1, eq_true e2, true_implies, not_true_eq_false, not_false_eq_true, false_implies, and_true, true_and]
          refine ih false (fun o4 => ?_)
          have := K o4
          rw [show (F.1 p == F.1 q) = true from beq_iff_eq.mpr e1, show (F.2.1 p == F.2.1 q) = true from beq_iff_eq.mpr e2, Bool.true_and, Bool.true_and, Bool.not_true, Bool.false_and] at this
          rw [Bool.false_and]
          exact this
        · simp only [eq_true e1, e2, true_implies, not_true_eq_false, not_false_eq_true, false_implies, and_true, true_and]
          refine ih true (fun o4 => ?_)
          have := K o4
          rw [show (F.2.1 p == F.2.1 q) = false from beq_eq_false_iff_ne.mpr e2, Bool.and_false, Bool.not_false, Bool.true_and, Bool.true_and] at this
          rw [Bool.true_and]
          exact this
      · simp only [e1, true_implies, not_true_eq_false, not_false_eq_true, false_implies, and_true, true_and]
        refine ih true (fun o4 => ?_)
        have := K o4
        rw [show (F.1 p == F.1 q) = false from beq_eq_false_iff_ne.mpr e1, Bool.false_and, Bool.not_false, Bool.true_and, Bool.true_and] at this
        rw [Bool.true_and]
        exact this
theorem w_mg_out {f np : Nat} {F : fg_T} (hf : f < 6) (hnp : np ≤ 7) (hpt : I 127 0 = nI np) (h : rm_fig I f F) : ∀ (w p : Nat) (b : Bool) (o4 : Option Value), p + w = np → (∀ o3 o4, mm_at z (mm_call z d) (mm_code 140) Q 119 [some (.ref 127), some (.int (nI f)), some (.int (mb (b && (List.range' p w).all (fg_ap1 F)))), o3, o4] [] I J) → mm_at z (mm_call z d) (mm_code 140) Q 4 [some (.ref 127), some (.int (nI f)), some (.int (mb b)), some (.int (nI p)), o4] [] I J
  | 0, p, b, o4, hp, K => by
    rw [hk_140_4]
    have c1 : (nI np ≤ nI p) = True := by rw [le_nI (by omega) (by omega)]; exact eq_true (by omega)
    simp only [mmE, mmE0, mmH, mT, mR, mRf, mAl, mAs, mAz, mAn, Int.reduceToNat, Int32.reduceOfInt, Int64.reduceOfInt, Int.reduceAdd, swE, Nat.reduceDiv, Nat.reduceMod, Nat.reduceAdd, Nat.reduceMul, Nat.reduceEqDiff, Nat.reduceLeDiff, Nat.zero_le, List.length_nil, List.length_cons, Nat.zero_add, true_or, or_true, false_or, or_false, true_and, and_true, and_self, mb_01, mb_t, mb_f, hpt, c1, true_implies, not_true_eq_false, not_false_eq_true, false_implies, and_true, true_and]
    have := K (some (.int (nI p))) o4
    rw [show (b && (List.range' p 0).all (fg_ap1 F)) = b from Bool.and_true b] at this
    exact this
  | w + 1, p, b, o4, hp, K => by
    rw [hk_140_4]
    have c1 : (nI np ≤ nI p) = False := by rw [le_nI (by omega) (by omega)]; exact eq_false (by omega)
    obtain ⟨g1, g2, g3⟩ := h p (by omega)
    have ih := fun b' o4 => w_mg_out hf hnp hpt h w (p + 1) b' o4 (by omega)
    rw [nI_succ] at ih
    rw [List.range'_succ, List.all_cons] at K
    have key : ∀ b', (b' = (b && fg_has F p)) → mm_at z (mm_call z d) (mm_code 140) Q 39 [some (.ref 127), some (.int (nI f)), some (.int (mb b')), some (.int (nI p)), some (.int (nI 0))] [] I J := by
      intro b' hb'
      refine w_mg_in hf (by omega) h p 0 b' (by omega) (fun o4 => ?_)
      simp only [bk_140.2.2.2.2.2.2.1, mmE, mmE0, mmH, mT, mR, mRf, mAl, mAs, mAz, mAn, Int.reduceToNat, Int32.reduceOfInt, Int64.reduceOfInt, Int.reduceAdd, swE, Nat.reduceDiv, Nat.reduceMod, Nat.reduceAdd, Nat.reduceMul, Nat.reduceEqDiff, Nat.reduceLeDiff, Nat.zero_le, List.length_nil, List.length_cons, Nat.zero_add, true_or, or_true, false_or, or_false, true_and, and_true, and_self, mb_01, mb_t, mb_f]
      refine ih _ o4 (fun o3 o4 => ?_)
      have := K o3 o4
      unfold fg_ap1 at this
      rw [List.range_eq_range', ← Bool.and_assoc, ← Bool.and_assoc, ← hb'] at this
      exact this
    simp only [bk_140.2.1, bk_140.2.2.1, mmE, mmE0, mmH, mT, mR, mRf, mAl, mAs, mAz, mAn, Int.reduceToNat, Int32.reduceOfInt, Int64.reduceOfInt, Int.reduceAdd, swE, Nat.reduceDiv, Nat.reduceMod, Nat.reduceAdd, Nat.reduceMul, Nat.reduceEqDiff, Nat.reduceLeDiff, Nat.zero_le, List.length_nil, List.length_cons, Nat.zero_add, true_or, or_true, false_or, or_false, true_and, and_true, and_self, mb_01, mb_t, mb_f, hpt, c1, i7, ix42 hf (show p < 7 by omega), g3, mb_0, true_implies, not_true_eq_false, not_false_eq_true, false_implies, and_true, true_and]
    cases b with
    | false =>
      simp only [true_implies, not_true_eq_false, not_false_eq_true, false_implies, and_true, true_and]
      exact key false rfl
    | true =>
      simp only [Bool.true_eq_false, true_implies, not_true_eq_false, not_false_eq_true, false_implies, and_true, true_and]
      cases e : fg_has F p with
      | false =>
        rw [e] at key
        simp only [true_implies, not_true_eq_false, not_false_eq_true, false_implies, and_true, true_and]
        exact key false rfl
      | true =>
        rw [e] at key
        simp only [Bool.true_eq_false, true_implies, not_true_eq_false, not_false_eq_true, false_implies, and_true, true_and]
        exact key true rfl
theorem w_mg_rows {f : Nat} (hf : f < sNf s) (hv : va s) (h : shM I s) : ∀ (w r : Nat) (b : Bool) (o4 : Option Value), 1 ≤ r → r + w = sNr s + 1 → Q (some (.int (mb (b && (List.range' r w).all fun r => !((sR s r).2.1 == 1) || fg_shows (sF s f) (sR s r).1)))) I J → mm_at z (mm_call z (d + 4)) (mm_code 140) Q 121 [some (.ref 127), some (.int (nI f)), some (.int (mb b)), some (.int (nI r)), o4] [] I J
  | 0, r, b, o4, h1, hr, k => by
    have v3 := hv.1.2.2.1
    rw [hk_140_121]
    have c1 : (nI (sNr s) < nI r) = True := by rw [lt_nI (by omega) (by omega)]; exact eq_true (by omega)
    simp only [bk_140.2.2.2.2.2.2.2.2.2.2.2, mmE, mmE0, mmH, mT, mR, mRf, mAl, mAs, mAz, mAn, Int.reduceToNat, Int32.reduceOfInt, Int64.reduceOfInt, Int.reduceAdd, swE, Nat.reduceDiv, Nat.reduceMod, Nat.reduceAdd, Nat.reduceMul, Nat.reduceEqDiff, Nat.reduceLeDiff, Nat.zero_le, List.length_nil, List.length_cons, Nat.zero_add, true_or, or_true, false_or, or_false, true_and, and_true, and_self, mb_01, mb_t, mb_f, h.1.2.2, c1, mb_01, true_implies, not_true_eq_false, not_false_eq_true, false_implies, and_true, true_and]
    rw [show (b && (List.range' r 0).all fun r => !((sR s r).2.1 == 1) || fg_shows (sF s f) (sR s r).1) = b from Bool.and_true b] at k
    exact k
  | w + 1, r, b, o4, h1, hr, k => by
    have v3 := hv.1.2.2.1
    have v2 := hv.1.2.1
    rw [hk_140_121]
    have c1 : (nI (sNr s) < nI r) = False := by rw [lt_nI (by omega) (by omega)]; exact eq_false (by omega)
    have hrow := h.2.2.1 r h1 (by omega)
    have vrow := hv.2.2.2.1 r h1 (by omega)
    have gF := isP_F hv.1.1 vrow.1
    have ih := fun b' => w_mg_rows hf hv h w (r + 1) b' o4 (by omega) (by omega)
    rw [nI_succ] at ih
    rw [List.range'_succ, List.all_cons] at k
    have e1 : (nI (sR s r).2.1 = 1) = ((sR s r).2.1 = 1) := eq_nI (b := 1) (by have := vrow.2.1; omega) (by omega)
    simp only [bk_140.2.2.2.2.2.2.2.2.1, bk_140.2.2.2.2.2.2.2.2.2.1, bk_140.2.2.2.2.2.2.2.2.2.2.1, bk_140.2.2.2.2.2.2.2.2.2.2.2, mmE, mmE0, mmH, mT, mR, mRf, mAl, mAs, mAz, mAn, Int.reduceToNat, Int32.reduceOfInt, Int64.reduceOfInt, Int.reduceAdd, swE, Nat.reduceDiv, Nat.reduceMod, Nat.reduceAdd, Nat.reduceMul, Nat.reduceEqDiff, Nat.reduceLeDiff, Nat.zero_le, List.length_nil, List.length_cons, Nat.zero_add, true_or, or_true, false_or, or_false, true_and, and_true, and_self, mb_01, mb_t, mb_f, Option.toList_some, Option.toList_none, List.cons_append, List.nil_append, h.1.2.2, c1, ix41 (show r < 41 by omega), hrow.2.2.2.1, e1, c_rowHolds (show f < 6 by omega) (show r ≤ 40 by omega) (hv.2.1 f (by omega)).1 (h.2.1 f (by omega)) gF hrow, mb_0, mb_01, true_implies, not_true_eq_false, not_false_eq_true, false_implies, and_true, true_and]
    cases b with
    | false =>
      rw [Bool.false_and] at k
      simp only [true_implies, not_true_eq_false, not_false_eq_true, false_implies, and_true, true_and]
      exact ⟨Or.inl trivial, k⟩
    | true =>
      rw [Bool.true_and] at k
      simp only [Bool.true_eq_false, true_implies, not_true_eq_false, not_false_eq_true, false_implies, and_true, true_and]
      by_cases q : (sR s r).2.1 = 1
      · rw [show ((sR s r).2.1 == 1) = true from beq_iff_eq.mpr q, Bool.not_true, Bool.false_or] at k
        simp only [eq_true q, true_implies, not_true_eq_false, not_false_eq_true, false_implies, and_true, true_and]
        cases e : fg_shows (sF s f) (sR s r).1 with
        | false =>
          rw [e] at k
          simp only [true_implies, not_true_eq_false, not_false_eq_true, false_implies, and_true, true_and]
          exact ih false k
        | true =>
          rw [e] at k
          simp only [true_implies, not_true_eq_false, not_false_eq_true, false_implies, and_true, true_and, Bool.true_eq_false]
          exact ih true k
      · rw [show ((sR s r).2.1 == 1) = false from beq_eq_false_iff_ne.mpr q, Bool.not_false, Bool.true_or] at k
        simp only [q, true_implies, not_true_eq_false, not_false_eq_true, false_implies, and_true, true_and]
        exact ih true k
theorem c_mIsGood {f : Nat} (hf : f < sNf s) (hv : va s) (h : shM I s) (Q : Option Value → mm_I → mm_J → Prop) : mm_call z (d + 5) 140 [.ref 127, .int (nI f)] I J Q = Q (some (.int (mb (gfS s f)))) I J := by
  refine mm_ev ?_ Q
  have v2 := hv.1.2.1
  simp only [ce_140, bk_140.1, mmE, mmE0, mmH, mT, mR, mRf, mAl, mAs, mAz, mAn, Int.reduceToNat, Int32.reduceOfInt, Int64.reduceOfInt, Int.reduceAdd, swE, Nat.reduceDiv, Nat.reduceMod, Nat.reduceAdd, Nat.reduceMul, Nat.reduceEqDiff, Nat.reduceLeDiff, Nat.zero_le, List.length_nil, List.length_cons, Nat.zero_add, true_or, or_true, false_or, or_false, true_and, and_true, and_self, mb_01, mb_t, mb_f]
  refine w_mg_out (z := z) (d := d + 4) (f := f) (np := sNp s) (F := sF s f) (by omega) hv.1.1 h.1.1 (h.2.1 f (by omega)) (sNp s) 0 true _ (by omega) (fun o3 o4 => ?_)
  simp only [bk_140.2.2.2.2.2.2.2.1, mmE, mmE0, mmH, mT, mR, mRf, mAl, mAs, mAz, mAn, Int.reduceToNat, Int32.reduceOfInt, Int64.reduceOfInt, Int.reduceAdd, swE, Nat.reduceDiv, Nat.reduceMod, Nat.reduceAdd, Nat.reduceMul, Nat.reduceEqDiff, Nat.reduceLeDiff, Nat.zero_le, List.length_nil, List.length_cons, Nat.zero_add, true_or, or_true, false_or, or_false, true_and, and_true, and_self, mb_01, mb_t, mb_f]
  refine w_mg_rows (z := z) (d := d) hf hv h (sNr s) 1 _ o4 (by omega) (by omega) ⟨?_, rfl, rfl⟩
  unfold gfS gf fg_apart
  rw [Bool.true_and, List.range_eq_range']
theorem pC_good {f : Int32} (hv : va s) (h : repC I J s) : mm_call z (d + 6) 100 [.ref 0, .int f] I J (okC I J (o_good s f)) := by
  obtain ⟨⟨a1, a2, a3, a4⟩, _⟩ := id h
  obtain ⟨⟨v1, v2, v3, v4⟩, _⟩ := id hv
  unfold o_good
  simp only [ce_100, bk_100.1, mmE, mmE0, mmH, mT, mR, mRf, mAl, mAs, mAz, mAn, Int.reduceToNat, Int32.reduceOfInt, Int64.reduceOfInt, Int.reduceAdd, swE, Nat.reduceDiv, Nat.reduceMod, Nat.reduceAdd, Nat.reduceMul, Nat.reduceEqDiff, Nat.reduceLeDiff, Nat.zero_le, List.length_nil, List.length_cons, Nat.zero_add, true_or, or_true, false_or, or_false, true_and, and_true, and_self, mb_01, mb_t, mb_f]
  cases ef : inN (sNf s) f with
  | false =>
    simp only [c_figAt_no v2 a2 ef, ce_100, bk_100, mmE, mmE0, mmH, mT, mR, mRf, mAl, mAs, mAz, mAn, Int.reduceToNat, Int32.reduceOfInt, Int64.reduceOfInt, Int.reduceAdd, swE, Nat.reduceDiv, Nat.reduceMod, Nat.reduceAdd, Nat.reduceMul, Nat.reduceEqDiff, Nat.reduceLeDiff, Nat.zero_le, List.length_nil, List.length_cons, Nat.zero_add, true_or, or_true, false_or, or_false, true_and, and_true, and_self, mb_01, mb_t, mb_f, Option.toList_some, Option.toList_none, List.cons_append, List.nil_append, true_implies, not_true_eq_false, not_false_eq_true, false_implies, and_true, true_and, if_false, Bool.false_eq_true]
    exact ⟨rfl, h, frC_rf⟩
  | true =>
    obtain ⟨f, hfn, rfl⟩ := inN_t ef
    rw [nI_clamp (show f < 2 ^ 31 by omega)]
    simp only [c_figAt v2 a2 hfn, bk_100.2.1, bk_100.2.2.1, bk_100.2.2.2, mmE, mmE0, mmH, mT, mR, mRf, mAl, mAs, mAz, mAn, Int.reduceToNat, Int32.reduceOfInt, Int64.reduceOfInt, Int.reduceAdd, swE, Nat.reduceDiv, Nat.reduceMod, Nat.reduceAdd, Nat.reduceMul, Nat.reduceEqDiff, Nat.reduceLeDiff, Nat.zero_le, List.length_nil, List.length_cons, Nat.zero_add, true_or, or_true, false_or, or_false, true_and, and_true, and_self, mb_01, mb_t, mb_f, Option.toList_some, Option.toList_none, List.cons_append, List.nil_append, true_implies, not_true_eq_false, not_false_eq_true, false_implies, and_true, true_and, c_isGood (show f < 6 by omega) hv (shC_of h), mb_0, if_true]
    cases gfS s f with
    | false => simp only [true_implies, not_true_eq_false, not_false_eq_true, false_implies, and_true, true_and, Bool.false_eq_true]; exact ⟨rfl, h, frC_rf⟩
    | true => simp only [true_implies, not_true_eq_false, not_false_eq_true, false_implies, and_true, true_and, Bool.true_eq_false]; exact ⟨rfl, h, frC_rf⟩
theorem pM_good {f : Int32} (hv : va s) (h : repM I J s) : mm_call z (d + 6) 139 [.ref 127, .int f] I J (okM I J (o_good s f)) := by
  obtain ⟨⟨v1, v2, v3, v4⟩, _⟩ := id hv
  unfold o_good
  simp only [ce_139, bk_139.1, bk_139.2.1, bk_139.2.2.1, bk_139.2.2.2, mmE, mmE0, mmH, mT, mR, mRf, mAl, mAs, mAz, mAn, Int.reduceToNat, Int32.reduceOfInt, Int64.reduceOfInt, Int.reduceAdd, swE, Nat.reduceDiv, Nat.reduceMod, Nat.reduceAdd, Nat.reduceMul, Nat.reduceEqDiff, Nat.reduceLeDiff, Nat.zero_le, List.length_nil, List.length_cons, Nat.zero_add, true_or, or_true, false_or, or_false, true_and, and_true, and_self, mb_01, mb_t, mb_f, Option.toList_some, Option.toList_none, List.cons_append, List.nil_append, c_isFigure hv h, mb_0]
  cases ef : inN (sNf s) f with
  | false =>
    simp only [true_implies, not_true_eq_false, not_false_eq_true, false_implies, and_true, true_and, if_false, Bool.false_eq_true]
    exact ⟨rfl, h, frM_rf⟩
  | true =>
    obtain ⟨f, hfn, rfl⟩ := inN_t ef
    rw [nI_clamp (show f < 2 ^ 31 by omega)]
    simp only [c_mIsGood hfn hv (shM_of h), bk_139.2.2.1, bk_139.2.2.2, mmE, mmE0, mmH, mT, mR, mRf, mAl, mAs, mAz, mAn, Int.reduceToNat, Int32.reduceOfInt, Int64.reduceOfInt, Int.reduceAdd, swE, Nat.reduceDiv, Nat.reduceMod, Nat.reduceAdd, Nat.reduceMul, Nat.reduceEqDiff, Nat.reduceLeDiff, Nat.zero_le, List.length_nil, List.length_cons, Nat.zero_add, true_or, or_true, false_or, or_false, true_and, and_true, and_self, mb_01, mb_t, mb_f, Option.toList_some, Option.toList_none, List.cons_append, List.nil_append, true_implies, not_true_eq_false, not_false_eq_true, false_implies, and_true, true_and, mb_0, if_true, Bool.true_eq_false]
    cases gfS s f with
    | false => simp only [true_implies, not_true_eq_false, not_false_eq_true, false_implies, and_true, true_and, Bool.false_eq_true]; exact ⟨rfl, h, frM_rf⟩
    | true => simp only [true_implies, not_true_eq_false, not_false_eq_true, false_implies, and_true, true_and, Bool.true_eq_false]; exact ⟨rfl, h, frM_rf⟩
end GP2
