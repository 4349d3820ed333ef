/-! the class's grading: a row's way -/
theorem rgt_c {nr : Nat} {R : Nat → rw_T} {G G' : Nat → gr_T} {l : List Nat} (h : ∀ o, (G' o).2.1 = (G o).2.1) : rgt nr R G' l = rgt nr R G l := by
  unfold rgt
  congr 2
  funext o
  rw [h o]
section GV
variable {z : mm_S} {d : Nat} {I : mm_I} {J : mm_J} {s : st_T} {G : Nat → gr_T} {S : al_S} {Q : Option Value → mm_I → mm_J → Prop}
theorem w_gs {r t : Nat} (h1 : 1 ≤ r) (h2 : r ≤ sNr s) (ht : t ≤ 40) (h0 : G r = gr0) (hv : va s) (hs : gst I s G) (K : ∀ I', fG I I' → gst I' s (gup G r (gXS s G t r)) → mm_at z (mm_call z (d + 6)) (mm_code 9) Q 10 [some (.ref 112), some (.int (nI (t + 1))), some (.ref (4 + 2 * r))] [] I' J) : mm_at z (mm_call z (d + 6)) (mm_code 9) Q 33 [some (.ref 112), some (.int (nI t)), some (.ref (4 + 2 * r))] [] I J := by
  have v3 := hv.1.2.2.1
  obtain ⟨h, hG, hn, S, hl, ho⟩ := hs
  obtain ⟨t1, _⟩ := mTr4 r (by omega) h1
  obtain ⟨vP, v3', vr3, vl6, vos⟩ := hv.2.2.2.1 r h1 h2
  have gF := isP_F hv.1.1 vP
  have f1 := isF_lt gF
  obtain ⟨⟨g1, g2, g3, g4, g5⟩, _⟩ := hG r h1 h2
  rw [h0] at g1 g2 g3 g4 g5
  have q3 : qwS s G r ≤ 3 := by
    unfold qwS
    by_cases a1 : (sR s r).2.1 = 1
    · rw [if_pos a1]; omega
    rw [if_neg a1]
    by_cases a2 : S0 (sNr s) (sR s) G (sR s r).1
    · rw [cif_pos a2]; omega
    rw [cif_neg a2]
    split <;> omega
  have cr : ∀ (I0 : mm_I) j x i, mm_wI I0 (4 + 2 * r) j x (4 + 2 * r) i = if i = j then x else I0 (4 + 2 * r) i := fun I0 j x i => by rw [mWI, if_pos rfl]
  have gc : ∀ (I0 : mm_I) j x i, mm_wI I0 (4 + 2 * r) j x 112 i = I0 112 i := fun I0 j x i => by rw [mWI, if_neg (by omega)]
  have ot : ∀ (I0 : mm_I) j x k, k ≠ 4 + 2 * r → mm_wI I0 (4 + 2 * r) j x k = I0 k := fun I0 j x k hk => by funext i; rw [mWI, if_neg hk]
  -- the turn and the quick way are put
  have fa : fG I (mm_wI I (4 + 2 * r) 5 (nI t)) := fG_c h1 (by omega) (by decide)
  have sha := shC_G hv h fa
  have hla : rl_rep (mm_wI I (4 + 2 * r) 5 (nI t)) (sNp s) S := rl_c (fun k _ _ => ot _ _ _ k (by omega)) hl
  have cq := fun (z : mm_S) (d : Nat) => c_quick (z := z) (d := d) (J := J) h1 h2 hv sha (by rw [gc]; exact hn.2.2.1) hla ho
  have rw7 : ∀ x, mm_wI (mm_wI I (4 + 2 * r) 5 (nI t)) (4 + 2 * r) 7 x (4 + 2 * r) 7 = x := fun x => by rw [cr, if_pos rfl]
  have f2 : ∀ x, fG I (mm_wI (mm_wI I (4 + 2 * r) 5 (nI t)) (4 + 2 * r) 7 x) := fun x => fG_tr fa (fG_c h1 (by omega) (by decide))
  simp only [bk_9.2.1, mmE, mmE0, mmH, mT, mR, mRf, mAl, mAs, mAz, mAn, Int.reduceToNat, Int32.reduceOfInt, Int64.reduceOfInt, Int.reduceAdd, swE, Nat.reduceDiv, Nat.reduceMod, Nat.reduceAdd, Nat.reduceMul, Nat.reduceEqDiff, Nat.reduceLeDiff, Nat.zero_le, List.length_nil, List.length_cons, Nat.zero_add, true_or, or_true, false_or, or_false, true_and, and_true, and_self, mb_01, mb_t, mb_f, Option.toList_some, Option.toList_none, List.cons_append, List.nil_append, t1, cq, rw7, n0E (show qwS s G r < 2 ^ 31 by omega)]
  -- the memory with a way in it
  have fgp : ∀ w, gC (mm_wI (mm_wI I (4 + 2 * r) 5 (nI t)) (4 + 2 * r) 7 (nI w)) (4 + 2 * r) (t, 0, w, 0, -5) := by
    intro w
    refine ⟨?_, ?_, ?_, ?_, ?_⟩
    · rw [cr, if_neg (by decide), cr, if_pos rfl]
    · rw [cr, if_neg (by decide), cr, if_neg (by decide)]; exact g2
    · rw [cr, if_pos rfl]
    · rw [cr, if_neg (by decide), cr, if_neg (by decide)]; exact g4
    · rw [cr, if_neg (by decide), cr, if_neg (by decide)]; exact g5
  have oth : ∀ w q, q ≠ r → mm_wI (mm_wI I (4 + 2 * r) 5 (nI t)) (4 + 2 * r) 7 w (4 + 2 * q) = I (4 + 2 * q) := fun w q hq => by rw [ot _ _ _ _ (by omega), ot _ _ _ _ (by omega)]
  have num : ∀ w, gnum (mm_wI (mm_wI I (4 + 2 * r) 5 (nI t)) (4 + 2 * r) 7 w) s (cnt (sNr s) fun r => (G r).2.1 == 1) (cnt (sNr s) fun r => (G r).2.2.1 == 3) := by
    intro w
    refine ⟨?_, ?_, ?_, ?_, ?_, ?_⟩
    · rw [gc, gc]; exact hn.1
    · rw [gc, gc]; exact hn.2.1
    · rw [gc, gc]; exact hn.2.2.1
    · rw [gc, gc]; exact hn.2.2.2.1
    · rw [gc, gc]; exact hn.2.2.2.2.1
    · rw [gc, gc]; exact hn.2.2.2.2.2
  have rlw : ∀ w, rl_rep (mm_wI (mm_wI I (4 + 2 * r) 5 (nI t)) (4 + 2 * r) 7 w) (sNp s) S := fun w => rl_c (fun k _ _ => by rw [ot _ _ _ _ (by omega), ot _ _ _ _ (by omega)]) hl
  have wE := @wyS_q s G r
  -- what is so of the memory up to the end, but for the levels and the search
  have endG : ∀ (Ix : mm_I) (Sx : al_S) w, w = wyS s G r → fG I Ix → (∀ k, k < 112 → Ix k = mm_wI (mm_wI I (4 + 2 * r) 5 (nI t)) (4 + 2 * r) 7 (nI w) k) → Ix 112 = I 112 → rl_rep Ix (sNp s) Sx → al_ok (sNp s) (S0 (sNr s) (sR s) G) Sx → (w = 5 → Sx.1 (sR s r).1 = rt_lvl (sNp s) (S0 (sNr s) (sR s) G) (sR s r).1) → mm_at z (mm_call z (d + 6)) (mm_code 9) Q 125 [some (.ref 112), some (.int (nI t)), some (.ref (4 + 2 * r))] [] Ix J := by
    intro Ix Sx w hw k1 k2 k3 k4 k5 k6
    refine w_gs_end h1 h2 ht h0 hv Ix (fun q a b e => ⟨?_, (hG q a b).2⟩) (shC_G hv h k1) ?_ ⟨?_, ?_, ?_, ?_, ?_, ?_⟩ k4 k5 (by rw [← hw]; exact k6) (fun I' m1 m2 => K I' (fG_tr k1 m1) m2)
    · unfold gC
      rw [k2 _ (by omega), oth _ q e]
      exact (hG q a b).1
    · unfold gC
      rw [k2 _ (by omega), ← hw]
      exact fgp w
    · rw [k3]; exact hn.1
    · rw [k3]; exact hn.2.1
    · rw [k3]; exact hn.2.2.1
    · rw [k3]; exact hn.2.2.2.1
    · rw [k3]; exact hn.2.2.2.2.1
    · rw [k3]; exact hn.2.2.2.2.2
  -- from the levels on
  have lev : ∀ (Ix : mm_I) w, (w ≠ 0 → w = wyS s G r ∧ w ≠ 5) → (w = 0 → wyS s G r = cif (rt_lv (sNp s) (S0 (sNr s) (sR s) G) 2 (sR s r).1) 5 0) → w ≤ 5 → fG I Ix → (∀ k, k < 112 → Ix k = mm_wI (mm_wI I (4 + 2 * r) 5 (nI t)) (4 + 2 * r) 7 (nI w) k) → Ix 112 = I 112 → rl_rep Ix (sNp s) S → mm_at z (mm_call z (d + 6)) (mm_code 9) Q 90 [some (.ref 112), some (.int (nI t)), some (.ref (4 + 2 * r))] [] Ix J := by
    intro Ix w wn wz w5 k1 k2 k3 k4
    have rw7' : Ix (4 + 2 * r) 7 = nI w := by rw [k2 _ (by omega)]; exact rw7 _
    simp only [bk_9.2.2.1, mmE, mmE0, mmH, mT, mR, mRf, mAl, mAs, mAz, mAn, Int.reduceToNat, Int32.reduceOfInt, Int64.reduceOfInt, Int.reduceAdd, swE, Nat.reduceDiv, Nat.reduceMod, Nat.reduceAdd, Nat.reduceMul, Nat.reduceEqDiff, Nat.reduceLeDiff, Nat.zero_le, List.length_nil, List.length_cons, Nat.zero_add, true_or, or_true, false_or, or_false, true_and, and_true, and_self, mb_01, mb_t, mb_f, t1, rw7', n0E (show w < 2 ^ 31 by omega)]
    by_cases q0 : w = 0
    · simp only [eq_true q0, true_implies, not_true_eq_false, not_false_eq_true, false_implies, and_true, true_and]
      have wz' := wz q0
      refine w_spread (dep := 2) (by omega) k4 (fun I1 m1 m2 => ?_)
      have m3 : ∀ k, k < 113 ∨ 121 < k → I1 k = Ix k := m2.2
      have f1' : I1 (4 + 2 * r) 0 = nI (sR s r).1 := by rw [m3 _ (by omega)]; exact ((shC_G hv h k1).2.2 r h1 h2).1
      obtain ⟨o1, o2⟩ := ok_spread hv.1.1 (show 2 ≤ 5 by omega) ho
      obtain ⟨l1, l2⟩ := al_lvl (f := (sR s r).1) (show 2 ≤ 5 by omega) o1 o2
      have s6 := (m1.2.2.2.1 _ f1).2
      have ca := fun (z : mm_S) (d : Nat) => c_at (z := z) (d := d) (J := J) (f := some (sR s r).1) m1 (fun x hx => by injection hx with hx; omega)
      rw [eI_some] at ca
      have c2 : ((2 : Int32) < nI (al_at (al_spread (sNp s) 2 S) (some (sR s r).1))) = (2 < (al_spread (sNp s) 2 S).1 (sR s r).1) := lt_nI (a := 2) (by omega) (by show (al_spread (sNp s) 2 S).1 _ < _; omega)
      simp only [mmE, mmE0, mmH, mT, mR, mRf, mAl, mAs, mAz, mAn, Int.reduceToNat, Int32.reduceOfInt, Int64.reduceOfInt, Int.reduceAdd, swE, Nat.reduceDiv, Nat.reduceMod, Nat.reduceAdd, Nat.reduceMul, Nat.reduceEqDiff, Nat.reduceLeDiff, Nat.zero_le, List.length_nil, List.length_cons, Nat.zero_add, true_or, or_true, false_or, or_false, true_and, and_true, and_self, mb_01, mb_t, mb_f, Option.toList_some, Option.toList_none, List.cons_append, List.nil_append, t1, f1', ca, c2]
      have k1' : fG I I1 := fG_tr k1 (fG_rs m2)
      have k2' : ∀ k, k < 112 → I1 k = mm_wI (mm_wI I (4 + 2 * r) 5 (nI t)) (4 + 2 * r) 7 (nI w) k := fun k hk => (m3 k (by omega)).trans (k2 k hk)
      have k3' : I1 112 = I 112 := (m3 _ (by decide)).trans k3
      have hlv := @rt_lvl_le (sNp s) (S0 (sNr s) (sR s) G) (sR s r).1 2 (by omega)
      by_cases q2 : 2 < (al_spread (sNp s) 2 S).1 (sR s r).1
      · simp only [eq_true q2, true_implies, not_true_eq_false, not_false_eq_true, false_implies, and_true, true_and]
        have : ¬ rt_lv (sNp s) (S0 (sNr s) (sR s) G) 2 (sR s r).1 := fun w => by have := l1.mpr (hlv.mpr w); omega
        rw [cif_neg this] at wz'
        exact endG I1 _ w (by rw [q0, wz']) k1' k2' k3' m1 o1 (fun e => by omega)
      · simp only [q2, true_implies, not_true_eq_false, not_false_eq_true, false_implies, and_true, true_and]
        have : rt_lv (sNp s) (S0 (sNr s) (sR s) G) 2 (sR s r).1 := hlv.mp (l1.mp (by omega))
        rw [cif_pos this] at wz'
        refine endG _ _ 5 wz'.symm (fG_tr k1' (fG_c h1 (by omega) (by decide))) (fun k hk => ?_) ?_ (rl_c (fun k _ _ => ot _ _ _ k (by omega)) m1) o1 (fun _ => l2 (by omega))
        · by_cases ek : k = 4 + 2 * r
          · subst ek
            funext i
            rw [cr, k2' _ (by omega)]
            by_cases ei : i = 7
            · rw [if_pos ei, ei, rw7]
              rfl
            · rw [if_neg ei, cr, if_neg ei, cr _ _ (nI 5), if_neg ei]
          · rw [ot _ _ _ k ek, k2' k hk, ot _ _ _ k ek, ot _ _ _ k ek, ot _ _ _ k ek, ot _ _ _ k ek]
        · rw [ot _ _ _ _ (by omega)]; exact k3'
    · simp only [q0, true_implies, not_true_eq_false, not_false_eq_true, false_implies, and_true, true_and]
      obtain ⟨a, b⟩ := wn q0
      exact endG Ix S w a k1 k2 k3 k4 ho (fun e => absurd e b)
  by_cases q0 : qwS s G r = 0
  · rw [q0] at wE
    rw [if_neg (by omega)] at wE
    have e3 : (nI (sR s r).2.1 = 3) = ((sR s r).2.1 = 3) := eq_nI (b := 3) (by omega) (by omega)
    have re2 : ∀ x, mm_wI (mm_wI I (4 + 2 * r) 5 (nI t)) (4 + 2 * r) 7 x (4 + 2 * r) 1 = nI (sR s r).2.1 := fun x => ((shC_G hv h (f2 x)).2.2 r h1 h2).2.1
    simp only [eq_true q0, true_implies, not_true_eq_false, not_false_eq_true, false_implies, and_true, true_and, re2, e3]
    by_cases qr : (sR s r).2.1 = 3
    · obtain ⟨m, hm, er⟩ := vr3 qr
      have em : (sR s r).2.2.1.toNatClampNeg = m := by rw [er, nI_clamp (by omega)]
      rw [em] at wE
      simp only [eq_true qr, true_implies, not_true_eq_false, not_false_eq_true, false_implies, and_true, true_and]
      have gG2 : gCs (mm_wI (mm_wI I (4 + 2 * r) 5 (nI t)) (4 + 2 * r) 7 (nI (qwS s G r))) (sNr s) (gup G r (t, 0, qwS s G r, 0, -5)) := by
        intro q a b
        rw [gup_at]
        by_cases e : q = r
        · rw [if_pos e, e]
          exact ⟨fgp _, ht, by show 0 ≤ 2; omega, by show qwS s G r ≤ 5; omega, by show 0 ≤ 5; omega⟩
        · rw [if_neg e]
          refine ⟨?_, (hG q a b).2⟩
          unfold gC
          rw [oth _ q e]
          exact (hG q a b).1
      have rG : rgt (sNr s) (sR s) (gup G r (t, 0, qwS s G r, 0, -5)) (osS s r) = rgt (sNr s) (sR s) G (osS s r) := rgt_c (fun o => by
        rw [gup_at]
        by_cases e : o = r
        · rw [if_pos e, e, h0]; rfl
        · rw [if_neg e])
      refine w_lro h1 h2 hv (shC_G hv h (f2 _)) gG2 (rlw _) (fun I3 k1 k2 => ?_)
      rw [rG] at k1
      have k2' : ∀ k, k < 122 → I3 k = mm_wI (mm_wI I (4 + 2 * r) 5 (nI t)) (4 + 2 * r) 7 (nI (qwS s G r)) k := fun k hk => k2 k (by omega) (by omega)
      have fc3 : I3 (4 + 2 * r) 0 = nI (sR s r).1 := by rw [k2' _ (by omega)]; exact ((shC_G hv h (f2 _)).2.2 r h1 h2).1
      have ru3 : I3 (4 + 2 * r) 2 = nI m := by rw [k2' _ (by omega), ((shC_G hv h (f2 _)).2.2 r h1 h2).2.2.1, er]
      simp only [mmE, mmE0, mmH, mT, mR, mRf, mAl, mAs, mAz, mAn, Int.reduceToNat, Int32.reduceOfInt, Int64.reduceOfInt, Int.reduceAdd, swE, Nat.reduceDiv, Nat.reduceMod, Nat.reduceAdd, Nat.reduceMul, Nat.reduceEqDiff, Nat.reduceLeDiff, Nat.zero_le, List.length_nil, List.length_cons, Nat.zero_add, true_or, or_true, false_or, or_false, true_and, and_true, and_self, mb_01, mb_t, mb_f, Option.toList_some, Option.toList_none, List.cons_append, List.nil_append, t1, fc3, ru3]
      refine w_ffl hm vP k1 (fun I4 k3 => ?_)
      have k4 : ∀ k, k < 122 → I4 k = mm_wI (mm_wI I (4 + 2 * r) 5 (nI t)) (4 + 2 * r) 7 (nI (qwS s G r)) k := fun k hk => (k3 k (by omega)).trans (k2' k hk)
      have fG4 : fG I I4 := by
        intro k j a b
        rw [k3 k (by omega), k2 k (by omega) (by omega)]
        exact f2 _ k j a b
      have rl4 : rl_rep I4 (sNp s) S := rl_c (fun k _ _ => k4 k (by omega)) (rlw _)
      have g4 : I4 112 = I 112 := by
        rw [k4 _ (by decide)]
        funext i
        rw [gc, gc]
      simp only [mmE, mmE0, mmH, mT, mR, mRf, mAl, mAs, mAz, mAn, Int.reduceToNat, Int32.reduceOfInt, Int64.reduceOfInt, Int.reduceAdd, swE, Nat.reduceDiv, Nat.reduceMod, Nat.reduceAdd, Nat.reduceMul, Nat.reduceEqDiff, Nat.reduceLeDiff, Nat.zero_le, List.length_nil, List.length_cons, Nat.zero_add, true_or, or_true, false_or, or_false, true_and, and_true, and_self, mb_01, mb_t, mb_f, Option.toList_some, Option.toList_none, List.cons_append, List.nil_append, mb_0]
      cases ef : (fl (sNp s) m (sR s r).1 fun g => (rgt (sNr s) (sR s) G (osS s r)).contains g).isSome with
      | false =>
        rw [ef, if_neg (fun w => by cases w.2)] at wE
        simp only [true_implies, not_true_eq_false, not_false_eq_true, false_implies, and_true, true_and]
        refine lev I4 (qwS s G r) (fun w => absurd q0 w) (fun _ => wE) (by omega) fG4 (fun k hk => k4 k (by omega)) g4 rl4
      | true =>
        rw [ef, if_pos ⟨qr, rfl⟩] at wE
        simp only [Bool.true_eq_false, true_implies, not_true_eq_false, not_false_eq_true, false_implies, and_true, true_and]
        refine ⟨by rw [t1], ?_⟩
        refine lev (mm_wI I4 (4 + 2 * r) 7 4) 4 (fun _ => ⟨wE.symm, by omega⟩) (fun w => by omega) (by omega) (fG_tr fG4 (fG_c h1 (by omega) (by decide))) (fun k hk => ?_) ?_ (rl_c (fun k _ _ => ot _ _ _ k (by omega)) rl4)
        · by_cases ek : k = 4 + 2 * r
          · subst ek
            funext i
            rw [cr, k4 _ (by omega)]
            by_cases ei : i = 7
            · rw [if_pos ei, ei, rw7]
              rfl
            · rw [if_neg ei, cr, if_neg ei, cr _ _ (nI 4), if_neg ei]
          · rw [ot _ _ _ k ek, k4 k (by omega), ot _ _ _ k ek, ot _ _ _ k ek, ot _ _ _ k ek, ot _ _ _ k ek]
        · rw [ot _ _ _ _ (by omega)]; exact g4
    · rw [if_neg (fun w => qr w.1)] at wE
      simp only [qr, true_implies, not_true_eq_false, not_false_eq_true, false_implies, and_true, true_and]
      refine lev _ (qwS s G r) (fun w => absurd q0 w) (fun _ => wE) (by omega) (f2 _) (fun k hk => rfl) ?_ (rlw _)
      funext i
      rw [gc, gc]
  · rw [if_pos q0] at wE
    simp only [q0, true_implies, not_true_eq_false, not_false_eq_true, false_implies, and_true, true_and]
    refine lev _ (qwS s G r) (fun _ => ⟨wE.symm, by omega⟩) (fun w => absurd w q0) (by omega) (f2 _) (fun k hk => rfl) ?_ (rlw _)
    funext i
    rw [gc, gc]
end GV
