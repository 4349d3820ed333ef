/-! calls about points and figures: answer and next state -/
abbrev op_T : Type := Int32 × st_T
def inI (a b : Int) (x : Int32) : Bool := decide (a ≤ x.toInt ∧ x.toInt ≤ b)
def o_points (s : st_T) (x : Int32) : op_T := if inI 2 7 x then (if 0 < sNr s ∨ sHg s = true ∨ 0 < sNf s then (-3, s) else (1, uGd (uNp s x.toNatClampNeg) false)) else (-2, s)
def o_figure (s : st_T) : op_T := if sNp s = 0 then (-3, s) else if sNf s = 6 then (-4, s) else (nI (sNf s), uGd (uNf s (sNf s + 1)) false)
def o_place (s : st_T) (f p x y : Int32) : op_T := if inN (sNf s) f && inN (sNp s) p then (if inI (-1000) 1000 x && inI (-1000) 1000 y then (1, uGd (uF s (gup (sF s) f.toNatClampNeg (fg_put (sF s f.toNatClampNeg) p.toNatClampNeg x y))) false) else (-2, s)) else (-1, s)
def o_placed (s : st_T) (f p i : Int32) : op_T := (if inN (sNf s) f && inN (sNp s) p then (if i = 0 ∨ i = 1 then (if fg_has (sF s f.toNatClampNeg) p.toNatClampNeg then (if i = 0 then (sF s f.toNatClampNeg).1 p.toNatClampNeg else (sF s f.toNatClampNeg).2.1 p.toNatClampNeg) else -2003) else -2002) else -2001, s)
def o_holds (s : st_T) (f k a b c e : Int32) : op_T := (if inN (sNf s) f then (match n_fact (sNp s) k a b c e with
  | none => -2
  | some g => mb (fg_shows (sF s f.toNatClampNeg) g)) else -1, s)
theorem inI_f {a b : Int} {x : Int32} (h : inI a b x = false) : x.toInt < a ∨ b < x.toInt := by
  unfold inI at h
  have := of_decide_eq_false h
  omega
theorem inI_t {a b : Int} {x : Int32} (h : inI a b x = true) : a ≤ x.toInt ∧ x.toInt ≤ b := of_decide_eq_true h
theorem i32lt {x y : Int32} : (x < y) = (x.toInt < y.toInt) := propext Int32.lt_iff_toInt_lt
theorem i32le {x y : Int32} : (x ≤ y) = (x.toInt ≤ y.toInt) := propext Int32.le_iff_toInt_le
/-- what a call of either must do -/
def okC (I : mm_I) (J : mm_J) (o : op_T) (v : Option Value) (I' : mm_I) (J' : mm_J) : Prop := v = some (.int o.1) ∧ repC I' J' o.2 ∧ frC I J I' J'
def okM (I : mm_I) (J : mm_J) (o : op_T) (v : Option Value) (I' : mm_I) (J' : mm_J) : Prop := v = some (.int o.1) ∧ repM I' J' o.2 ∧ frM I J I' J'
theorem frC_rf {I : mm_I} {J : mm_J} : frC I J I J := fun _ _ => ⟨rfl, rfl⟩
theorem frM_rf {I : mm_I} {J : mm_J} : frM I J I J := fun _ _ => ⟨rfl, rfl⟩
theorem frC_tr {I I' I'' : mm_I} {J J' J'' : mm_J} (h : frC I J I' J') (h' : frC I' J' I'' J'') : frC I J I'' J'' := fun k hk => ⟨(h' k hk).1.trans (h k hk).1, (h' k hk).2.trans (h k hk).2⟩
theorem frM_tr {I I' I'' : mm_I} {J J' J'' : mm_J} (h : frM I J I' J') (h' : frM I' J' I'' J'') : frM I J I'' J'' := fun k hk => ⟨(h' k hk).1.trans (h k hk).1, (h' k hk).2.trans (h k hk).2⟩
theorem frC_w {I : mm_I} {J : mm_J} {k j : Nat} {x : Int32} (hk : k < 127) : frC I J (mm_wI I k j x) J := fun c hc => ⟨by funext q; rw [mWI, if_neg (by omega)], rfl⟩
theorem frM_w {I : mm_I} {J : mm_J} {k j : Nat} {x : Int32} (hk : 127 ≤ k) : frM I J (mm_wI I k j x) J := fun c hc => ⟨by funext q; rw [mWI, if_neg (by omega)], rfl⟩
section OA
variable {z : mm_S} {d : Nat} {I : mm_I} {J : mm_J} {s : st_T}
theorem mb0 (b : Bool) : (mb b = 0) = (b = false) := by cases b <;> decide
/-- the sheet's numbers change, graded no more -/
theorem repC_g0 {I' : mm_I} {s' : st_T} (hv : va s) (h : repC I J s) (f : ∀ k, k ≠ 1 → k ≠ 112 → I' k = I k) (h1 : I' 1 0 = nI (sNp s') ∧ I' 1 1 = nI (sNf s') ∧ I' 1 2 = nI (sNr s') ∧ I' 1 3 = mb (sHg s')) (eF : sF s' = sF s) (eT : sT s' = sT s) (eN : sN s' = sN s) (eL : sLg s' = sLg s) (eW : sW s' = sW s) (eR : sR s' = sR s) (eH : sHg s' = sHg s) (eNr : sNr s' ≤ sNr s) (eG : sGd s' = false) (g : I' 112 3 = 0) : repC I' J s' := by
  obtain ⟨_, b, c, e, g', i, _, _⟩ := h
  have hn := hv.1.2.2.1
  unfold repC
  rw [eF, eT, eN, eL, eW, eR, eG]
  refine ⟨h1, figs_c (fun k _ _ => f k (by omega) (by omega)) b, ⟨?_, c.2.1, fun i hi => ?_⟩, ⟨?_, e.2⟩, fun r r1 r2 => rC_fr (g' r r1 (by omega)) (f _ (by omega) (by omega)) (f _ (by omega) (by omega)), fun q => rC_fr (i (by rw [← eH]; exact q)) (f _ (by decide) (by decide)) (f _ (by decide) (by decide)), g, fun q => by cases q⟩
  · rw [f _ (by decide) (by decide)]; exact c.1
  · rw [f _ (by decide) (by decide)]; exact c.2.2 i hi
  · rw [f _ (by decide) (by decide)]; exact e.1
theorem repM_g0 {I' : mm_I} {s' : st_T} (h : repM I J s) (f : ∀ k, k ≠ 127 → I' k = I k) (f2 : ∀ j, j ≠ 0 → j ≠ 1 → j ≠ 24 → j ≠ 37 → I' 127 j = I 127 j) (h1 : I' 127 0 = nI (sNp s') ∧ I' 127 1 = nI (sNf s') ∧ I' 127 24 = nI (sNr s')) (eF : sF s' = sF s) (eT : sT s' = sT s) (eN : sN s' = sN s) (eL : sLg s' = sLg s) (eW : sW s' = sW s) (eR : sR s' = sR s) (eH : sHg s' = sHg s) (eNr : sNr s' ≤ sNr s) (eG : sGd s' = false) (g : I' 127 37 = 0) : repM I' J s' := by
  obtain ⟨⟨_, _, _, a4⟩, b, c, e, g', i, _, _, m⟩ := h
  unfold repM
  rw [eF, eT, eN, eL, eW, eR, eG, eH]
  refine ⟨⟨h1.1, h1.2.1, h1.2.2, ?_⟩, mfigs_c (f _ (by decide)) (f _ (by decide)) (f _ (by decide)) b, ⟨?_, c.2.1, fun i hi => ?_⟩, ⟨?_, e.2⟩, fun r r1 r2 => mrow_c (fun k _ _ => f k (by omega)) (g' r r1 (by omega)), fun q => mrow_c (fun k _ _ => f k (by omega)) (i q), g, (fun q => by cases q), mtab_c (fun k _ _ => f k (by omega)) (fun k _ _ => by rw [f k (by omega)]) m⟩
  · rw [f2 _ (by decide) (by decide) (by decide) (by decide)]; exact a4
  · rw [f2 _ (by decide) (by decide) (by decide) (by decide)]; exact c.1
  · rw [f _ (by decide)]; exact c.2.2 i hi
  · rw [f2 _ (by decide) (by decide) (by decide) (by decide)]; exact e.1
theorem pC_points {x : Int32} (hv : va s) (h : repC I J s) : mm_call z (d + 1) 96 [.ref 0, .int x] I J (okC I J (o_points s x)) := by
  obtain ⟨⟨a1, a2, a3, a4⟩, _⟩ := id h
  obtain ⟨⟨v1, v2, v3, v4⟩, _⟩ := id hv
  simp only [ce_96, bk_96, mmE, mmE0, mmH, mT, mR, mRf, mAl, mAs, mAz, mAn, Int.reduceToNat, Int32.reduceOfInt, Int64.reduceOfInt, Int.reduceAdd, swE, Nat.reduceDiv, Nat.reduceMod, Nat.reduceAdd, Nat.reduceMul, Nat.reduceEqDiff, Nat.reduceLeDiff, Nat.zero_le, List.length_nil, List.length_cons, Nat.zero_add, true_or, or_true, false_or, or_false, true_and, and_true, and_self, mb_01, mb_t, mb_f, a1, a2, a3, a4, mb0]
  unfold o_points
  cases e : inI 2 7 x with
  | false =>
    have hk : okC I J ((-2 : Int32), s) (some (.int (-2))) I J := ⟨rfl, h, frC_rf⟩
    have := inI_f e
    by_cases q : x < 2
    · simp only [q, true_implies, not_true_eq_false, not_false_eq_true, false_implies, and_true, true_and, if_false, Bool.false_eq_true]; exact hk
    · have q2 : ¬ x ≤ 7 := by rw [i32le, show (7 : Int32).toInt = 7 by decide]; rw [i32lt, show (2 : Int32).toInt = 2 by decide] at q; omega
      simp only [q, q2, true_implies, not_true_eq_false, not_false_eq_true, false_implies, and_true, true_and, if_false, Bool.false_eq_true]; exact hk
  | true =>
    have hb := inI_t e
    have q : ¬ x < 2 := by rw [i32lt, show (2 : Int32).toInt = 2 by decide]; omega
    have q2 : x ≤ 7 := by rw [i32le, show (7 : Int32).toInt = 7 by decide]; omega
    have hx : x = nI x.toNatClampNeg := by
      apply Int32.toInt_inj.mp
      rw [nI_toInt (by have := Int32.toInt_lt x; show x.toInt.toNat < _; omega)]
      show _ = (x.toInt.toNat : Int)
      omega
    have c1 : ((0 : Int32) < nI (sNr s)) = (0 < sNr s) := lt_nI (a := 0) (by omega) (by omega)
    have c2 : (nI (sNf s) ≤ 0) = (sNf s ≤ 0) := le_nI (b := 0) (by omega) (by omega)
    simp only [q, q2, c1, c2, true_implies, not_true_eq_false, not_false_eq_true, false_implies, and_true, true_and, if_true]
    by_cases q3 : 0 < sNr s ∨ sHg s = true ∨ 0 < sNf s
    · have hk : okC I J ((-3 : Int32), s) (some (.int (-3))) I J := ⟨rfl, h, frC_rf⟩
      simp only [q3, if_true]
      refine ⟨fun _ => hk, fun n1 => ⟨fun _ => hk, fun n2 => ⟨fun n3 => ?_, fun _ => hk⟩⟩⟩
      exfalso
      rcases q3 with q3 | q3 | q3
      · exact n1 q3
      · rw [q3] at n2; cases n2
      · omega
    · simp only [q3, if_false]
      refine ⟨fun n => absurd (Or.inl n) q3, fun n1 => ⟨fun n => absurd (Or.inr (Or.inl (by simpa using n))) q3, fun n2 => ⟨fun n3 => ?_, fun n => absurd (Or.inr (Or.inr (by omega))) q3⟩⟩⟩
      refine ⟨rfl, repC_g0 hv h (fun k k1 k2 => ?_) ⟨?_, ?_, ?_, ?_⟩ rfl rfl rfl rfl rfl rfl rfl (Nat.le_refl _) rfl ?_, frC_tr (frC_w (by decide)) (frC_w (by decide))⟩
      · funext q
        rw [mWI, if_neg k2, mWI, if_neg k1]
      · rw [mWI, if_neg (by decide), mWI, if_pos rfl, if_pos rfl]; exact hx
      · rw [mWI, if_neg (by decide), mWI, if_pos rfl, if_neg (by decide)]; exact a2
      · rw [mWI, if_neg (by decide), mWI, if_pos rfl, if_neg (by decide)]; exact a3
      · rw [mWI, if_neg (by decide), mWI, if_pos rfl, if_neg (by decide)]; exact a4
      · rw [mWI, if_pos rfl, if_pos rfl]
theorem in_I {x : Int32} {a b : Int} (ha : -2000 ≤ a ∧ a ≤ 2000) (hb : -2000 ≤ b ∧ b ≤ 2000) : (decide (Int64.ofInt a ≤ x.toInt64) && decide (x.toInt64 ≤ Int64.ofInt b)) = inI a b x := in_ab ha hb
theorem in_27 {x : Int32} : (decide ((2 : Int64) ≤ x.toInt64) && decide (x.toInt64 ≤ (7 : Int64))) = inI 2 7 x := in_I (a := 2) (b := 7) (by omega) (by omega)
theorem in_1k {x : Int32} : (decide ((-1000 : Int64) ≤ x.toInt64) && decide (x.toInt64 ≤ (1000 : Int64))) = inI (-1000) 1000 x := by
  have := @in_ab x (-1000) 1000 (by omega) (by omega)
  rw [show Int64.ofInt (-1000) = (-1000 : Int64) by decide, show Int64.ofInt 1000 = (1000 : Int64) by decide] at this
  exact this
theorem pM_points {x : Int32} (hv : va s) (h : repM I J s) : mm_call z (d + 2) 124 [.ref 127, .int x] I J (okM I J (o_points s x)) := by
  obtain ⟨⟨a1, a2, a3, a4⟩, _⟩ := id h
  obtain ⟨⟨v1, v2, v3, v4⟩, _⟩ := id hv
  simp only [ce_124, bk_124, mmE, mmE0, mmH, mT, mR, mRf, mAl, mAs, mAz, mAn, Int.reduceToNat, Int32.reduceOfInt, Int64.reduceOfInt, Int.reduceAdd, swE, Nat.reduceDiv, Nat.reduceMod, Nat.reduceAdd, Nat.reduceMul, Nat.reduceEqDiff, Nat.reduceLeDiff, Nat.zero_le, List.length_nil, List.length_cons, Nat.zero_add, true_or, or_true, false_or, or_false, true_and, and_true, and_self, mb_01, mb_t, mb_f, Option.toList_some, Option.toList_none, List.cons_append, List.nil_append, a1, a2, a3, a4, mb0, c_in, in_27, mb_0]
  unfold o_points
  cases e : inI 2 7 x with
  | false =>
    have hk : okM I J ((-2 : Int32), s) (some (.int (-2))) I J := ⟨rfl, h, frM_rf⟩
    simp only [true_implies, not_true_eq_false, not_false_eq_true, false_implies, and_true, true_and, if_false, Bool.false_eq_true]; exact hk
  | true =>
    have hb := inI_t e
    have hx : x = nI x.toNatClampNeg := by
      apply Int32.toInt_inj.mp
      rw [nI_toInt (by have := Int32.toInt_lt x; show x.toInt.toNat < _; omega)]
      show _ = (x.toInt.toNat : Int)
      omega
    have c1 : ((0 : Int32) < nI (sNr s)) = (0 < sNr s) := lt_nI (a := 0) (by omega) (by omega)
    have c2 : (nI (sNf s) ≤ 0) = (sNf s ≤ 0) := le_nI (b := 0) (by omega) (by omega)
    simp only [c1, c2, true_implies, not_true_eq_false, not_false_eq_true, false_implies, and_true, true_and, if_true, Bool.true_eq_false]
    by_cases q3 : 0 < sNr s ∨ sHg s = true ∨ 0 < sNf s
    · have hk : okM I J ((-3 : Int32), s) (some (.int (-3))) I J := ⟨rfl, h, frM_rf⟩
      simp only [q3, if_true]
      refine ⟨fun _ => hk, fun n1 => ⟨fun _ => hk, fun n2 => ⟨fun n3 => ?_, fun _ => hk⟩⟩⟩
      exfalso
      rcases q3 with q3 | q3 | q3
      · exact n1 q3
      · rw [q3] at n2; cases n2
      · omega
    · simp only [q3, if_false]
      refine ⟨fun n => absurd (Or.inl n) q3, fun n1 => ⟨fun n => absurd (Or.inr (Or.inl (by simpa using n))) q3, fun n2 => ⟨fun n3 => ?_, fun n => absurd (Or.inr (Or.inr (by omega))) q3⟩⟩⟩
      refine ⟨rfl, repM_g0 h (fun k k1 => ?_) (fun j j1 j2 j3 j4 => ?_) ⟨?_, ?_, ?_⟩ rfl rfl rfl rfl rfl rfl rfl (Nat.le_refl _) rfl ?_, frM_tr (frM_w (by decide)) (frM_w (by decide))⟩
      · funext q
        rw [mWI, if_neg k1, mWI, if_neg k1]
      · rw [mWI, if_pos rfl, if_neg j4, mWI, if_pos rfl, if_neg j1]
      · rw [mWI, if_pos rfl, if_neg (by decide), mWI, if_pos rfl, if_pos rfl]; exact hx
      · rw [mWI, if_pos rfl, if_neg (by decide), mWI, if_pos rfl, if_neg (by decide)]; exact a2
      · rw [mWI, if_pos rfl, if_neg (by decide), mWI, if_pos rfl, if_neg (by decide)]; exact a3
      · rw [mWI, if_pos rfl, if_pos rfl]
end OA
