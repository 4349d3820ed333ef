/-! holds of the reference; texts; rows' facts -/
def o_feed (s : st_T) (w : Int64) (x : Int32) : op_T := if inI 1 8 x then (if 120 < sN s + x.toNatClampNeg then (-4, s) else (nI (sN s + x.toNatClampNeg), uT (uN s (sN s + x.toNatClampNeg)) (fd w x.toNatClampNeg (sT s) (sN s)))) else (-2, s)
def o_wipe (s : st_T) : op_T := (nI (sN s), uN s 0)
def o_language (s : st_T) (x : Int32) : op_T := if inN 2 x then (nI (sLg s), uLg s x.toNatClampNeg) else (-1, s)
def o_back (s : st_T) : op_T := if sNr s = 0 then (-3, s) else (nI (sNr s - 1), uGd (uNr s (sNr s - 1)) false)
def inG (s : st_T) (x : Int32) : Bool := inR (sNr s) x || (x == 0 && sHg s)
def o_fact (s : st_T) (r w : Int32) : op_T := (if inG s r then (if inN 8 w then (if w = 0 then nI (kd (sR s r.toNatClampNeg).1) else if w ≤ 4 then pI (sR s r.toNatClampNeg).1 (w.toNatClampNeg - 1) else if w = 5 then nI (sR s r.toNatClampNeg).2.1 else if w = 6 then (sR s r.toNatClampNeg).2.2.1 else nI (sR s r.toNatClampNeg).2.2.2.length) else -2) else -1, s)
def o_because (s : st_T) (r i : Int32) : op_T := (if inR (sNr s) r && inN (sR s r.toNatClampNeg).2.2.2.length i then nI ((sR s r.toNatClampNeg).2.2.2.getD i.toNatClampNeg 0) else -1, s)
def o_alike (s : st_T) (r k a b c e : Int32) : op_T := (if inG s r then (match n_fact (sNp s) k a b c e with
  | none => -2
  | some g => if g = (sR s r.toNatClampNeg).1 then 1 else 0) else -1, s)
section OD
variable {z : mm_S} {d : Nat} {I : mm_I} {J : mm_J} {s : st_T}
theorem pM_holds {f k a b c e : Int32} (hv : va s) (h : repM I J s) : mm_call z (d + 4) 130 [.ref 127, .int f, .int k, .int a, .int b, .int c, .int e] I J (okM I J (o_holds s f k a b c e)) := by
  obtain ⟨⟨a1, a2, a3, a4⟩, hf, _⟩ := id h
  obtain ⟨⟨v1, v2, v3, v4⟩, vf, _⟩ := id hv
  unfold o_holds
  simp only [ce_130, bk_130.1, bk_130.2.1, mmE, mmE0, mmH, mT, mR, mRf, mAl, mAs, mAz, mAn, Int.reduceToNat, Int32.reduceOfInt, Int64.reduceOfInt, Int.reduceAdd, swE, Nat.reduceDiv, Nat.reduceMod, Nat.reduceAdd, Nat.reduceMul, Nat.reduceEqDiff, Nat.reduceLeDiff, Nat.zero_le, List.length_nil, List.length_cons, Nat.zero_add, true_or, or_true, false_or, or_false, true_and, and_true, and_self, mb_01, mb_t, mb_f, Option.toList_some, Option.toList_none, List.cons_append, List.nil_append, c_isFigure hv h, mb_0, c_slot v1 a1, slot_fact v1]
  cases ef : inN (sNf s) f with
  | false =>
    simp only [true_implies, not_true_eq_false, not_false_eq_true, false_implies, and_true, true_and, if_false, Bool.false_eq_true]
    exact ⟨rfl, h, frM_rf⟩
  | true =>
    obtain ⟨f, hfn, rfl⟩ := inN_t ef
    simp only [true_implies, not_true_eq_false, not_false_eq_true, false_implies, and_true, true_and, if_true, Bool.true_eq_false]
    cases en : n_fact (sNp s) k a b c e with
    | none =>
      have m1 : (0 ≤ eI (Option.map sl (none : Option Nat))) = False := by decide
      simp only [m1, true_implies, not_true_eq_false, not_false_eq_true, false_implies, and_true, true_and]
      exact ⟨rfl, h, frM_rf⟩
    | some g =>
      have gF := isP_F v1 (n_fact_P v1 en)
      have sg := (un_sl gF).2
      have m1 : (0 ≤ eI (Option.map sl (some g))) = True := by
        show (0 ≤ nI (sl g)) = True
        rw [show (0 : Int32) = nI 0 from rfl, le_nI (by omega) (by omega)]
        exact eq_true (by omega)
      simp only [m1, true_implies, not_true_eq_false, not_false_eq_true, false_implies, and_true, true_and, bk_130.2.2.1, bk_130.2.2.2.1, bk_130.2.2.2.2, mmE, mmE0, mmH, mT, mR, mRf, mAl, mAs, mAz, mAn, Int.reduceToNat, Int32.reduceOfInt, Int64.reduceOfInt, Int.reduceAdd, swE, Nat.reduceDiv, Nat.reduceMod, Nat.reduceAdd, Nat.reduceMul, Nat.reduceEqDiff, Nat.reduceLeDiff, Nat.zero_le, List.length_nil, List.length_cons, Nat.zero_add, true_or, or_true, false_or, or_false, true_and, and_true, and_self, mb_01, mb_t, mb_f]
      rw [nI_clamp (show f < 2 ^ 31 by omega)]
      -- the points are numbers
      cases ek : inN 7 k && inN (sNp s) a && inN (sNp s) b && inN (sNp s) c with
      | false => rw [n_fact_no ek] at en; cases en
      | true =>
        simp only [Bool.and_eq_true] at ek
        obtain ⟨⟨⟨q1, q2⟩, q3⟩, q4⟩ := ek
        obtain ⟨k, hk, rfl⟩ := inN_t q1
        obtain ⟨a, ha, rfl⟩ := inN_t q2
        obtain ⟨b, hb, rfl⟩ := inN_t q3
        obtain ⟨c, hc, rfl⟩ := inN_t q4
        rw [n_fact_n hk ha hb hc v1] at en
        have fin : ∀ e', e' < 7 → (kdN k = 4 → e = nI e') → n_number k a b c e' = some g → mm_call z (d + 3) 135 [.ref 127, .int (nI f), .int (nI k), .int (nI a), .int (nI b), .int (nI c), .int e] I J = fun Q => Q (some (.int (mb (fg_shows (sF s f) g)))) I J := by
          intro e' he' hx hN
          funext Q
          rw [c_holdsIn (vf f (by omega)).1 (by omega) hk (by omega) (by omega) (by omega) he' hx (hf f (by omega)), shows_nf (vf f (by omega)).1 hk (by omega) (by omega) (by omega) he' hN]
        have ends : mm_call z (d + 3) 135 [.ref 127, .int (nI f), .int (nI k), .int (nI a), .int (nI b), .int (nI c), .int e] I J = fun Q => Q (some (.int (mb (fg_shows (sF s f) g)))) I J := by
          rcases kd34 k with q | q
          · rw [if_pos q] at en
            exact fin 0 (by omega) (fun q' => by omega) en
          · rw [if_neg (by omega)] at en
            cases ee : inN (sNp s) e with
            | false => rw [ee] at en; cases en
            | true =>
              obtain ⟨e', he', rfl⟩ := inN_t ee
              rw [if_pos ee, nI_clamp (by omega)] at en
              exact fin e' (by omega) (fun _ => rfl) en
        rw [ends]
        simp only [bk_130.2.2.1, bk_130.2.2.2.1, bk_130.2.2.2.2, mmE, mmE0, mmH, mT, mR, mRf, mAl, mAs, mAz, mAn, Int.reduceToNat, Int32.reduceOfInt, Int64.reduceOfInt, Int.reduceAdd, swE, Nat.reduceDiv, Nat.reduceMod, Nat.reduceAdd, Nat.reduceMul, Nat.reduceEqDiff, Nat.reduceLeDiff, Nat.zero_le, List.length_nil, List.length_cons, Nat.zero_add, true_or, or_true, false_or, or_false, true_and, and_true, and_self, mb_01, mb_t, mb_f, Option.toList_some, Option.toList_none, List.cons_append, List.nil_append, mb_0]
        cases fg_shows (sF s f) g with
        | false => simp only [true_implies, not_true_eq_false, not_false_eq_true, false_implies, and_true, true_and, Bool.false_eq_true]; exact ⟨rfl, h, frM_rf⟩
        | true => simp only [true_implies, not_true_eq_false, not_false_eq_true, false_implies, and_true, true_and, Bool.true_eq_false]; exact ⟨rfl, h, frM_rf⟩
/-- the tape changes -/
theorem repC_tp {I' : mm_I} {T' : Nat → Nat} {n' : Nat} (hv : va s) (h : repC I J s) (f : ∀ k, k ≠ 104 → k ≠ 105 → I' k = I k) (ht : rt_rep I' T' n') : repC I' J (uT (uN s n') T') := by
  obtain ⟨⟨a1, a2, a3, a4⟩, b, c, e, g, i, j, l⟩ := h
  have hn := hv.1.2.2.1
  refine ⟨⟨?_, ?_, ?_, ?_⟩, figs_c (fun k _ _ => f k (by omega) (by omega)) b, ht, ⟨?_, e.2⟩, rows_c hn (fun k _ _ => f k (by omega) (by omega)) g, fun q => rC_fr (i q) (f _ (by decide) (by decide)) (f _ (by decide) (by decide)), ?_, fun q => rcG_c (s := s) hn (fun k _ _ => f k (by omega) (by omega)) (fun k _ _ => f k (by omega) (by omega)) (f _ (by decide) (by decide)) (fun j _ => by rw [f _ (by decide) (by decide)]) (l q)⟩
  · rw [f _ (by decide) (by decide)]; exact a1
  · rw [f _ (by decide) (by decide)]; exact a2
  · rw [f _ (by decide) (by decide)]; exact a3
  · rw [f _ (by decide) (by decide)]; exact a4
  · rw [f _ (by decide) (by decide)]; exact e.1
  · rw [f _ (by decide) (by decide)]; exact j
/-- the reference's scalars of reading change -/
theorem repM_tp {I' : mm_I} {J' : mm_J} {T' : Nat → Nat} {n' : Nat} (h : repM I J s) (f : ∀ k, k ≠ 127 → k ≠ 138 → k ≠ 141 → k ≠ 149 → I' k = I k) (fj : ∀ j, mrj j → j ≠ 12 → I' 127 j = I 127 j) (fJ : J' 139 = J 139) (ht : rm_tape I' T' n') : repM I' J' (uT (uN s n') T') := by
  obtain ⟨⟨a1, a2, a3, a4⟩, b, c, e, g, i, j, l, m⟩ := h
  refine ⟨⟨?_, ?_, ?_, ?_⟩, mfigs_c (f _ (by decide) (by decide) (by decide) (by decide)) (f _ (by decide) (by decide) (by decide) (by decide)) (f _ (by decide) (by decide) (by decide) (by decide)) b, ht, ⟨?_, ?_⟩, fun r r1 r2 => mrow_c (fun k _ _ => f k (by omega) (by omega) (by omega) (by omega)) (g r r1 r2), fun q => mrow_c (fun k _ _ => f k (by omega) (by omega) (by omega) (by omega)) (i q), ?_, fun q => rmG_c (s := s) (fun k _ _ => f k (by omega) (by omega) (by omega) (by omega)) (f _ (by decide) (by decide) (by decide) (by decide)) (fj _ (by unfold mrj; decide) (by decide)) (fj _ (by unfold mrj; decide) (by decide)) (l q), mtab_c (fun k _ _ => f k (by omega) (by omega) (by omega) (by omega)) (fun k _ _ => by rw [f k (by omega) (by omega) (by omega) (by omega)]) m⟩
  · rw [fj _ (by unfold mrj; decide) (by decide)]; exact a1
  · rw [fj _ (by unfold mrj; decide) (by decide)]; exact a2
  · rw [fj _ (by unfold mrj; decide) (by decide)]; exact a3
  · rw [fj _ (by unfold mrj; decide) (by decide)]; exact a4
  · rw [fj _ (by unfold mrj; decide) (by decide)]; exact e.1
  · rw [fJ]; exact e.2
  · rw [fj _ (by unfold mrj; decide) (by decide)]; exact j
theorem in_18 {x : Int32} : (decide ((1 : Int64) ≤ x.toInt64) && decide (x.toInt64 ≤ (8 : Int64))) = inI 1 8 x := in_I (a := 1) (b := 8) (by omega) (by omega)
theorem inI_nI {x : Int32} {a b : Int} (ha : 0 ≤ a) (h : inI a b x = true) : x = nI x.toNatClampNeg ∧ (x.toNatClampNeg : Int) = x.toInt := by
  have hb := inI_t h
  have hx := Int32.toInt_lt x
  have e : (x.toNatClampNeg : Int) = x.toInt := by
    show ((x.toInt.toNat : Nat) : Int) = _
    omega
  refine ⟨?_, e⟩
  apply Int32.toInt_inj.mp
  rw [nI_toInt (by omega)]
  exact e.symm
theorem pC_feed {w : Int64} {x : Int32} (hv : va s) (h : repC I J s) : mm_call z (d + 2) 102 [.ref 0, .long w, .int x] I J (okC I J (o_feed s w x)) := by
  obtain ⟨_, _, t, _⟩ := id h
  have tn := t.2.1
  simp only [ce_102, bk_102, mmE, mmE0, mmH, mT, mR, mRf, mAl, mAs, mAz, mAn, Int.reduceToNat, Int32.reduceOfInt, Int64.reduceOfInt, Int.reduceAdd, swE, Nat.reduceDiv, Nat.reduceMod, Nat.reduceAdd, Nat.reduceMul, Nat.reduceEqDiff, Nat.reduceLeDiff, Nat.zero_le, List.length_nil, List.length_cons, Nat.zero_add, true_or, or_true, false_or, or_false, true_and, and_true, and_self, mb_01, mb_t, mb_f, t.1]
  unfold o_feed
  cases e : inI 1 8 x with
  | false =>
    have hk : okC I J ((-2 : Int32), s) (some (.int (-2))) I J := ⟨rfl, h, frC_rf⟩
    have := inI_f e
    by_cases q : x < 1
    · simp only [q, true_implies, not_true_eq_false, not_false_eq_true, false_implies, and_true, true_and, if_false, Bool.false_eq_true]; exact hk
    · have q2 : ¬ x ≤ 8 := by rw [i32le, show (8 : Int32).toInt = 8 by decide]; rw [i32lt, show (1 : Int32).toInt = 1 by decide] at q; omega
      simp only [q, q2, true_implies, not_true_eq_false, not_false_eq_true, false_implies, and_true, true_and, if_false, Bool.false_eq_true]; exact hk
  | true =>
    have hb := inI_t e
    have q : ¬ x < 1 := by rw [i32lt, show (1 : Int32).toInt = 1 by decide]; omega
    have q2 : x ≤ 8 := by rw [i32le, show (8 : Int32).toInt = 8 by decide]; omega
    obtain ⟨hx, hx2⟩ := inI_nI (by omega) e
    generalize x.toNatClampNeg = m at hx hx2 ⊢
    subst hx
    have c1 : (nI (sN s + m) ≤ 120) = (sN s + m ≤ 120) := le_nI (b := 120) (by omega) (by omega)
    simp only [q, q2, nI_add, c1, true_implies, not_true_eq_false, not_false_eq_true, false_implies, and_true, true_and, if_true]
    by_cases q3 : 120 < sN s + m
    · have q3' : ¬ sN s + m ≤ 120 := by omega
      simp only [q3, q3', true_implies, not_true_eq_false, not_false_eq_true, false_implies, and_true, true_and, if_true]
      exact ⟨rfl, h, frC_rf⟩
    · have q3' : sN s + m ≤ 120 := by omega
      simp only [q3, q3', true_implies, not_true_eq_false, not_false_eq_true, false_implies, and_true, true_and, if_false]
      refine w_append (by omega) q3' t (fun I1 r1 f1 => ?_)
      simp only [mmE, mmE0, mmH, mT, mR, mRf, mAl, mAs, mAz, mAn, Int.reduceToNat, Int32.reduceOfInt, Int64.reduceOfInt, Int.reduceAdd, swE, Nat.reduceDiv, Nat.reduceMod, Nat.reduceAdd, Nat.reduceMul, Nat.reduceEqDiff, Nat.reduceLeDiff, Nat.zero_le, List.length_nil, List.length_cons, Nat.zero_add, true_or, or_true, false_or, or_false, true_and, and_true, and_self, mb_01, mb_t, mb_f, Option.toList_some, Option.toList_none, List.cons_append, List.nil_append, r1.1]
      exact ⟨rfl, repC_tp hv h f1 r1, fun k hk => ⟨f1 k (by omega) (by omega), rfl⟩⟩
theorem pM_feed {w : Int64} {x : Int32} (hv : va s) (h : repM I J s) : mm_call z (d + 2) 142 [.ref 127, .long w, .int x] I J (okM I J (o_feed s w x)) := by
  obtain ⟨_, _, t, _⟩ := id h
  have tn := t.2.1
  simp only [ce_142, bk_142, mmE, mmE0, mmH, mT, mR, mRf, mAl, mAs, mAz, mAn, Int.reduceToNat, Int32.reduceOfInt, Int64.reduceOfInt, Int.reduceAdd, swE, Nat.reduceDiv, Nat.reduceMod, Nat.reduceAdd, Nat.reduceMul, Nat.reduceEqDiff, Nat.reduceLeDiff, Nat.zero_le, List.length_nil, List.length_cons, Nat.zero_add, true_or, or_true, false_or, or_false, true_and, and_true, and_self, mb_01, mb_t, mb_f, Option.toList_some, Option.toList_none, List.cons_append, List.nil_append, t.1, c_in, in_18, mb_0]
  unfold o_feed
  cases e : inI 1 8 x with
  | false =>
    simp only [true_implies, not_true_eq_false, not_false_eq_true, false_implies, and_true, true_and, if_false, Bool.false_eq_true]
    exact ⟨rfl, h, frM_rf⟩
  | true =>
    have hb := inI_t e
    obtain ⟨hx, hx2⟩ := inI_nI (by omega) e
    generalize x.toNatClampNeg = m at hx hx2 ⊢
    subst hx
    have c1 : (nI (sN s + m) ≤ 120) = (sN s + m ≤ 120) := le_nI (b := 120) (by omega) (by omega)
    simp only [nI_add, c1, true_implies, not_true_eq_false, not_false_eq_true, false_implies, and_true, true_and, if_true, Bool.true_eq_false]
    by_cases q3 : 120 < sN s + m
    · have q3' : ¬ sN s + m ≤ 120 := by omega
      simp only [q3, q3', true_implies, not_true_eq_false, not_false_eq_true, false_implies, and_true, true_and, if_true]
      exact ⟨rfl, h, frM_rf⟩
    · have q3' : sN s + m ≤ 120 := by omega
      simp only [q3, q3', true_implies, not_true_eq_false, not_false_eq_true, false_implies, and_true, true_and, if_false]
      refine w_feed_loop m (sT s) (sN s) I (by omega) q3' t (fun I1 r1 f1 => ?_)
      refine ⟨rfl, repM_tp h (fun k k1 k2 _ _ => ?_) (fun j _ j2 => f1 _ _ (fun q => j2 q.2) (by decide)) rfl r1, fun k hk => ⟨?_, rfl⟩⟩
      · funext q
        exact f1 k q (fun q => k1 q.1) k2
      · funext q
        exact f1 k q (fun q => by omega) (by omega)
theorem pC_wipe (hv : va s) (h : repC I J s) : mm_call z (d + 2) 103 [.ref 0] I J (okC I J (o_wipe s)) := by
  obtain ⟨_, _, t, _⟩ := id h
  simp only [ce_103, bk_103, ce_89, bk_89, mmE, mmE0, mmH, mT, mR, mRf, mAl, mAs, mAz, mAn, Int.reduceToNat, Int32.reduceOfInt, Int64.reduceOfInt, Int.reduceAdd, swE, Nat.reduceDiv, Nat.reduceMod, Nat.reduceAdd, Nat.reduceMul, Nat.reduceEqDiff, Nat.reduceLeDiff, Nat.zero_le, List.length_nil, List.length_cons, Nat.zero_add, true_or, or_true, false_or, or_false, true_and, and_true, and_self, mb_01, mb_t, mb_f, Option.toList_some, Option.toList_none, List.cons_append, List.nil_append, t.1]
  refine ⟨rfl, repC_tp (T' := sT s) (n' := 0) hv h (fun k k1 k2 => ?_) ⟨?_, by omega, fun i hi => by omega⟩, frC_w (by decide)⟩
  · funext q
    rw [mWI, if_neg k1]
  · rw [mWI, if_pos rfl, if_pos rfl]; rfl
theorem pM_wipe (hv : va s) (h : repM I J s) : mm_call z (d + 1) 143 [.ref 127] I J (okM I J (o_wipe s)) := by
  obtain ⟨_, _, t, _⟩ := id h
  simp only [ce_143, bk_143, mmE, mmE0, mmH, mT, mR, mRf, mAl, mAs, mAz, mAn, Int.reduceToNat, Int32.reduceOfInt, Int64.reduceOfInt, Int.reduceAdd, swE, Nat.reduceDiv, Nat.reduceMod, Nat.reduceAdd, Nat.reduceMul, Nat.reduceEqDiff, Nat.reduceLeDiff, Nat.zero_le, List.length_nil, List.length_cons, Nat.zero_add, true_or, or_true, false_or, or_false, true_and, and_true, and_self, mb_01, mb_t, mb_f, Option.toList_some, Option.toList_none, List.cons_append, List.nil_append, t.1]
  refine ⟨rfl, repM_tp (T' := sT s) (n' := 0) h (fun k k1 k2 _ _ => ?_) (fun j _ j2 => ?_) rfl ⟨?_, by omega, fun i hi => by omega⟩, frM_w (by decide)⟩
  · funext q
    rw [mWI, if_neg k1]
  · rw [mWI, if_pos rfl, if_neg j2]
  · rw [mWI, if_pos rfl, if_pos rfl]; rfl
end OD
