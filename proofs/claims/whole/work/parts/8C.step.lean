/-! the class's grading: one row after another -/
theorem cnt_up {n r : Nat} {p p' : Nat → Bool} (h1 : 1 ≤ r) (h2 : r ≤ n) (hp : p r = false) (h : ∀ x, x ≠ r → p' x = p x) : cnt n p' = cnt n p + (if p' r = true then 1 else 0) := by
  unfold cnt
  by_cases q : p' r = true
  · rw [if_pos q]
    exact cp_upd q hp (fun x hx => (h x hx).symm) (List.nodup_range' (s := 1) (n := n) (step := 1)) (List.mem_range'_1.mpr (by omega))
  · rw [if_neg q, Nat.add_zero]
    refine List.countP_congr (fun x _ => ?_)
    by_cases e : x = r
    · rw [e, hp, Bool.eq_false_iff.mpr q]
    · rw [h x e]
theorem cnt_le {n : Nat} {p : Nat → Bool} : cnt n p ≤ n := by
  have := List.countP_le_length (p := p) (l := List.range' 1 n)
  rw [List.length_range'] at this
  exact this
theorem S0_up {nr r : Nat} {R : Nat → rw_T} {G : Nat → gr_T} {g : gr_T} (h1 : 1 ≤ r) (h2 : r ≤ nr) (h0 : (G r).2.1 = 0) : S0 nr R (gup G r g) = if g.2.1 = 1 then (fun x => S0 nr R G x ∨ x = (R r).1) else S0 nr R G := by
  by_cases q : g.2.1 = 1
  · rw [if_pos q]
    funext x
    apply propext
    constructor
    · rintro ⟨k, a, b, c, e⟩
      by_cases ek : k = r
      · rw [ek] at e
        exact Or.inr e.symm
      · rw [gup_at, if_neg ek] at c
        exact Or.inl ⟨k, a, b, c, e⟩
    · rintro (⟨k, a, b, c, e⟩ | e)
      · refine ⟨k, a, b, ?_, e⟩
        rw [gup_at, if_neg (fun ek => by rw [ek, h0] at c; omega)]
        exact c
      · exact ⟨r, h1, h2, by rw [gup_at, if_pos rfl]; exact q, e.symm⟩
  · rw [if_neg q]
    funext x
    apply propext
    constructor
    · rintro ⟨k, a, b, c, e⟩
      by_cases ek : k = r
      · rw [gup_at, if_pos ek] at c
        exact absurd c q
      · rw [gup_at, if_neg ek] at c
        exact ⟨k, a, b, c, e⟩
    · rintro ⟨k, a, b, c, e⟩
      refine ⟨k, a, b, ?_, e⟩
      rw [gup_at, if_neg (fun ek => by rw [ek, h0] at c; omega)]
      exact c
/-- what grading may change -/
def fG (I I' : mm_I) : Prop := ∀ k j, ¬ (6 ≤ k ∧ k ≤ 84 ∧ k % 2 = 0 ∧ 5 ≤ j) → ¬ (112 ≤ k ∧ k ≤ 126) → I' k j = I k j
theorem fG_rf {I : mm_I} : fG I I := fun _ _ _ _ => rfl
theorem fG_tr {I I' I'' : mm_I} (h : fG I I') (h' : fG I' I'') : fG I I'' := fun k j a b => (h' k j a b).trans (h k j a b)
theorem shC_G {I I' : mm_I} {s : st_T} (hv : va s) (h : shC I s) (g : fG I I') : shC I' s := by
  have v3 := hv.1.2.2.1
  obtain ⟨⟨a1, a2, a3⟩, b, c⟩ := h
  have c1 : ∀ k, (k < 6 ∨ 84 < k) → ¬ (112 ≤ k ∧ k ≤ 126) → I' k = I k := fun k h1 h2 => by funext j; exact g k j (by omega) h2
  refine ⟨⟨?_, ?_, ?_⟩, figs_c (fun k _ _ => c1 k (by omega) (by omega)) b, fun r r1 r2 => ?_⟩
  · rw [c1 _ (by decide) (by decide)]; exact a1
  · rw [c1 _ (by decide) (by decide)]; exact a2
  · rw [c1 _ (by decide) (by decide)]; exact a3
  · obtain ⟨x1, x2, x3, x4, x5⟩ := c r r1 r2
    refine ⟨?_, ?_, ?_, ?_, fun k hk => ?_⟩
    · rw [g _ _ (by omega) (by omega)]; exact x1
    · rw [g _ _ (by omega) (by omega)]; exact x2
    · rw [g _ _ (by omega) (by omega)]; exact x3
    · rw [g _ _ (by omega) (by omega)]; exact x4
    · rw [g _ _ (by omega) (by omega)]; exact x5 k hk
def gst (I : mm_I) (s : st_T) (G : Nat → gr_T) : Prop := shC I s ∧ gCs I (sNr s) G ∧ (I 112 4 = nI (cnt (sNr s) fun r => (G r).2.1 == 1) ∧ I 112 6 = nI (cnt (sNr s) fun r => (G r).2.2.1 == 3) ∧ I 112 7 = gmN (gfS s) (sNf s) ∧ I 112 5 = 0 ∧ I 112 9 = 0 ∧ I 112 10 = -1) ∧ ∃ S, rl_rep I (sNp s) S ∧ al_ok (sNp s) (S0 (sNr s) (sR s) G) S
noncomputable def gXS (s : st_T) : (Nat → gr_T) → Nat → Nat → gr_T := gX (sNp s) (sNf s) (sNr s) (sF s) (sR s)
noncomputable def wyS (s : st_T) : (Nat → gr_T) → Nat → Nat := wyF (sNp s) (sNf s) (sNr s) (sF s) (sR s)
theorem wyS_le {s : st_T} {G : Nat → gr_T} {r : Nat} : wyS s G r ≤ 5 := by
  unfold wyS wyF
  by_cases q1 : (sR s r).2.1 = 1
  · rw [if_pos q1]; omega
  rw [if_neg q1]
  by_cases q2 : S0 (sNr s) (sR s) G (sR s r).1
  · rw [cif_pos q2]; omega
  rw [cif_neg q2]
  split
  · omega
  · split
    · omega
    · by_cases q5 : rt_lv (sNp s) (S0 (sNr s) (sR s) G) 2 (sR s r).1
      · rw [cif_pos q5]; omega
      · rw [cif_neg q5]; omega
/-- the way in its parts -/
theorem wyS_q {s : st_T} {G : Nat → gr_T} {r : Nat} : wyS s G r = if qwS s G r ≠ 0 then qwS s G r else if (sR s r).2.1 = 3 ∧ (fl (sNp s) (sR s r).2.2.1.toNatClampNeg (sR s r).1 (fun g => (rgt (sNr s) (sR s) G (osS s r)).contains g)).isSome = true then 4 else cif (rt_lv (sNp s) (S0 (sNr s) (sR s) G) 2 (sR s r).1) 5 0 := by
  unfold wyS wyF qwS
  by_cases q1 : (sR s r).2.1 = 1
  · rw [if_pos q1, if_pos q1, if_pos (by omega)]
  rw [if_neg q1, if_neg q1]
  by_cases q2 : S0 (sNr s) (sR s) G (sR s r).1
  · rw [cif_pos q2, cif_pos q2, if_pos (by omega)]
  rw [cif_neg q2, cif_neg q2]
  by_cases q3 : (sR s r).2.1 = 2 ∧ kd (sR s r).1 = 6 ∧ ((List.range' 0 (sNf s)).any (gfS s)) = true ∧ agS s (sR s r).1 = none
  · rw [if_pos q3, if_pos (show 3 ≠ 0 by omega)]
    exact if_pos q3
  · rw [if_neg q3, if_neg (show ¬ (0 ≠ 0) by omega)]
    rw [show (if (sR s r).2.1 = 2 ∧ kd (sR s r).1 = 6 ∧ (List.range' 0 (sNf s)).any (gf (sNp s) (sNr s) (sF s) (sR s)) = true ∧ agn (sNp s) (sNf s) (sNr s) (sF s) (sR s) (sR s r).1 = none then 3 else if (sR s r).2.1 = 3 ∧ (fl (sNp s) (sR s r).2.2.1.toNatClampNeg (sR s r).1 fun g => (rgt (sNr s) (sR s) G (sR s r).2.2.2).contains g).isSome = true then 4 else cif (rt_lv (sNp s) (S0 (sNr s) (sR s) G) 2 (sR s r).1) 5 0) = _ from if_neg q3]
    rfl
section GT
variable {z : mm_S} {d : Nat} {I : mm_I} {J : mm_J} {s : st_T} {G : Nat → gr_T} {S : al_S} {Q : Option Value → mm_I → mm_J → Prop}
/-- what has been written of a row that is graded -/
def gpart (I : mm_I) (s : st_T) (G : Nat → gr_T) (r t w : Nat) : Prop := shC I s ∧ (∀ q, 1 ≤ q → q ≤ sNr s → q ≠ r → gC I (4 + 2 * q) (G q)) ∧ gC I (4 + 2 * r) (t, 0, w, 0, -5) ∧ (I 112 4 = nI (cnt (sNr s) fun r => (G r).2.1 == 1) ∧ I 112 6 = nI (cnt (sNr s) fun r => (G r).2.2.1 == 3) ∧ I 112 7 = gmN (gfS s) (sNf s) ∧ I 112 5 = 0 ∧ I 112 9 = 0 ∧ I 112 10 = -1) ∧ rl_rep I (sNp s) S
/-- the counters of a grading -/
def gnum (I : mm_I) (s : st_T) (a b : Nat) : Prop := I 112 4 = nI a ∧ I 112 6 = nI b ∧ I 112 7 = gmN (gfS s) (sNf s) ∧ I 112 5 = 0 ∧ I 112 9 = 0 ∧ I 112 10 = -1
theorem fG_c {r j : Nat} {x : Int32} (h1 : 1 ≤ r) (h2 : r ≤ 40) (hj : 5 ≤ j) : fG I (mm_wI I (4 + 2 * r) j x) := by
  intro k q a b
  rw [mWI]
  by_cases e : k = 4 + 2 * r
  · rw [if_pos e, if_neg (by omega)]
  · rw [if_neg e]
theorem fG_g {j : Nat} {x : Int32} : fG I (mm_wI I 112 j x) := by
  intro k q a b
  rw [mWI, if_neg (by omega)]
theorem fG_rs {I' : mm_I} (h : rs_fr I I') : fG I I' := by
  intro k q a b
  rw [h.2 k (by have : (113 : Nat) = 113 := rfl; omega)]
theorem w_settle {r t w a b : Nat} (h1 : 1 ≤ r) (h2 : r ≤ sNr s) (hv : va s) (hw : w ≤ 5) (hab : a < 1000 ∧ b < 1000) (h : shC I s) (hg : gC I (4 + 2 * r) (t, 0, w, 0, -5)) (hn : gnum I s a b) (hl : rl_rep I (sNp s) S) (K : ∀ I', fG I I' → (∀ q, 1 ≤ q → q ≤ 40 → q ≠ r → I' (4 + 2 * q) = I (4 + 2 * q)) → gC I' (4 + 2 * r) (t, if w = 0 then (if agS s (sR s r).1 = none then 2 else 0) else 1, w, if w = 5 then S.1 (sR s r).1 else 0, if w = 0 then wI (agS s (sR s r).1) else -5) → gnum I' s (a + if w = 0 then 0 else 1) (b + if w = 3 then 1 else 0) → rl_rep I' (sNp s) (if w = 0 then S else al_offer S (some (sR s r).1) 0) → Q none I' J) : mm_call z (d + 6) 18 [.ref 112, .ref (4 + 2 * r)] I J Q := by
  have v3 := hv.1.2.2.1
  have v2 := hv.1.2.1
  obtain ⟨t1, _⟩ := mTr4 r (by omega) h1
  have hrow := h.2.2 r h1 h2
  have gF := isP_F hv.1.1 (hv.2.2.2.1 r h1 h2).1
  have f1 := isF_lt gF
  have s6 := (hl.2.2.2.1 _ f1).2
  obtain ⟨g1, g2, g3, g4, g5⟩ := hg
  obtain ⟨n1, n2, n3, n4, n5, n6⟩ := hn
  have g3' : I (4 + 2 * r) 7 = nI w := g3
  have w0 : (nI w = 0) = (w = 0) := n0E (by omega)
  have w5 : (nI w = 5) = (w = 5) := eq_nI (b := 5) (by omega) (by omega)
  have w3 : (nI w = 3) = (w = 3) := eq_nI (b := 3) (by omega) (by omega)
  have cr : ∀ (I0 : mm_I) j x i, mm_wI I0 (4 + 2 * r) j x (4 + 2 * r) i = if i = j then x else I0 (4 + 2 * r) i := fun I0 j x i => by rw [mWI, if_pos rfl]
  have cg : ∀ (I0 : mm_I) j x i, mm_wI I0 112 j x (4 + 2 * r) i = I0 (4 + 2 * r) i := fun I0 j x i => by rw [mWI, if_neg (by omega)]
  have gc : ∀ (I0 : mm_I) j x i, mm_wI I0 (4 + 2 * r) j x 112 i = I0 112 i := fun I0 j x i => by rw [mWI, if_neg (by omega)]
  have gg : ∀ (I0 : mm_I) j x i, mm_wI I0 112 j x 112 i = if i = j then x else I0 112 i := fun I0 j x i => by rw [mWI, if_pos rfl]
  have ot : ∀ (I0 : mm_I) j x q, q ≠ r → mm_wI I0 (4 + 2 * r) j x (4 + 2 * q) = I0 (4 + 2 * q) := fun I0 j x q hq => by funext i; rw [mWI, if_neg (by omega)]
  have og : ∀ (I0 : mm_I) j x q, q ≤ 40 → mm_wI I0 112 j x (4 + 2 * q) = I0 (4 + 2 * q) := fun I0 j x q hq => by funext i; rw [mWI, if_neg (by omega)]
  simp only [ce_18, bk_18.1, mmE, mmE0, mmH, mT, mR, mRf, mAl, mAs, mAz, mAn, Int.reduceToNat, Int32.reduceOfInt, Int64.reduceOfInt, Int.reduceAdd, swE, Nat.reduceDiv, Nat.reduceMod, Nat.reduceAdd, Nat.reduceMul, Nat.reduceEqDiff, Nat.reduceLeDiff, Nat.zero_le, List.length_nil, List.length_cons, Nat.zero_add, true_or, or_true, false_or, or_false, true_and, and_true, and_self, mb_01, mb_t, mb_f, t1, g3', w0, hrow.1]
  by_cases q0 : w = 0
  · have e5 := wI_5 (o := agS s (sR s r).1) (fun x hx => by have := agS_lt hx; omega)
    rw [if_pos q0] at K
    rw [if_pos q0, if_pos q0, if_pos q0] at K
    rw [if_neg (show ¬ w = 5 by omega), if_neg (show ¬ w = 3 by omega)] at K
    have rd : mm_wI I (4 + 2 * r) 9 (wI (agS s (sR s r).1)) (4 + 2 * r) 9 = wI (agS s (sR s r).1) := by rw [cr, if_pos rfl]
    simp only [eq_true q0, true_implies, not_true_eq_false, not_false_eq_true, false_implies, and_true, true_and, bk_18.2.1, bk_18.2.2.1, mmE, mmE0, mmH, mT, mR, mRf, mAl, mAs, mAz, mAn, Int.reduceToNat, Int32.reduceOfInt, Int64.reduceOfInt, Int.reduceAdd, swE, Nat.reduceDiv, Nat.reduceMod, Nat.reduceAdd, Nat.reduceMul, Nat.reduceEqDiff, Nat.reduceLeDiff, Nat.zero_le, List.length_nil, List.length_cons, Nat.zero_add, true_or, or_true, false_or, or_false, true_and, and_true, and_self, mb_01, mb_t, mb_f, Option.toList_some, Option.toList_none, List.cons_append, List.nil_append, t1, c_against gF hv h n3, rd, e5]
    have fin : ∀ v, mm_wI (mm_wI I (4 + 2 * r) 9 (wI (agS s (sR s r).1))) (4 + 2 * r) 6 (nI v) = mm_wI (mm_wI I (4 + 2 * r) 9 (wI (agS s (sR s r).1))) (4 + 2 * r) 6 (nI v) := fun _ => rfl
    have go : ∀ v, v = (if agS s (sR s r).1 = none then 2 else 0) → Q none (mm_wI (mm_wI I (4 + 2 * r) 9 (wI (agS s (sR s r).1))) (4 + 2 * r) 6 (nI v)) J := by
      intro v hvv
      refine K _ (fG_tr (fG_c h1 (by omega) (by decide)) (fG_c h1 (by omega) (by decide))) (fun q _ _ hq => by rw [ot _ _ _ q hq, ot _ _ _ q hq]) ⟨?_, ?_, ?_, ?_, ?_⟩ ⟨?_, ?_, ?_, ?_, ?_, ?_⟩ (rl_c (fun k _ _ => by funext i; rw [mWI, if_neg (by omega), mWI, if_neg (by omega)]) hl)
      · rw [cr, if_neg (by decide), cr, if_neg (by decide)]; exact g1
      · rw [cr, if_pos rfl, hvv]
      · rw [cr, if_neg (by decide), cr, if_neg (by decide)]; exact g3
      · rw [cr, if_neg (by decide), cr, if_neg (by decide)]; exact g4
      · rw [cr, if_neg (by decide), cr, if_pos rfl]
      · rw [gc, gc]; exact n1
      · rw [gc, gc]; exact n2
      · rw [gc, gc]; exact n3
      · rw [gc, gc]; exact n4
      · rw [gc, gc]; exact n5
      · rw [gc, gc]; exact n6
    by_cases qn : agS s (sR s r).1 = none
    · simp only [eq_true qn, true_implies, not_true_eq_false, not_false_eq_true, false_implies, and_true, true_and]
      exact go 2 (by rw [if_pos qn])
    · simp only [qn, true_implies, not_true_eq_false, not_false_eq_true, false_implies, and_true, true_and]
      exact go 0 (by rw [if_neg qn])
  · rw [if_neg q0] at K
    rw [if_neg q0, if_neg q0, if_neg q0] at K
    simp only [q0, true_implies, not_true_eq_false, not_false_eq_true, false_implies, and_true, true_and, bk_18.2.2.2.1, mmE, mmE0, mmH, mT, mR, mRf, mAl, mAs, mAz, mAn, Int.reduceToNat, Int32.reduceOfInt, Int64.reduceOfInt, Int.reduceAdd, swE, Nat.reduceDiv, Nat.reduceMod, Nat.reduceAdd, Nat.reduceMul, Nat.reduceEqDiff, Nat.reduceLeDiff, Nat.zero_le, List.length_nil, List.length_cons, Nat.zero_add, true_or, or_true, false_or, or_false, true_and, and_true, and_self, mb_01, mb_t, mb_f, t1]
    -- the end: one more right row, assumed
    have fin : ∀ (I3 : mm_I) b', fG I I3 → (∀ q, 1 ≤ q → q ≤ 40 → q ≠ r → I3 (4 + 2 * q) = I (4 + 2 * q)) → gC I3 (4 + 2 * r) (t, 1, w, if w = 5 then S.1 (sR s r).1 else 0, -5) → gnum I3 s a b' → rl_rep I3 (sNp s) S → b' = b + (if w = 3 then 1 else 0) → mm_at z (mm_call z (d + 5)) (mm_code 18) Q 84 [some (.ref 112), some (.ref (4 + 2 * r))] [] I3 J := by
      intro I3 b' k1 k2 k3 k4 k5 k6
      have r3 := (shC_G hv h k1).2.2 r h1 h2
      have r3' : mm_wI I3 112 4 (nI a + 1) (4 + 2 * r) 0 = nI (sR s r).1 := by rw [cg]; exact r3.1
      simp only [bk_18.2.2.2.2.2, mmE, mmE0, mmH, mT, mR, mRf, mAl, mAs, mAz, mAn, Int.reduceToNat, Int32.reduceOfInt, Int64.reduceOfInt, Int.reduceAdd, swE, Nat.reduceDiv, Nat.reduceMod, Nat.reduceAdd, Nat.reduceMul, Nat.reduceEqDiff, Nat.reduceLeDiff, Nat.zero_le, List.length_nil, List.length_cons, Nat.zero_add, true_or, or_true, false_or, or_false, true_and, and_true, and_self, mb_01, mb_t, mb_f, k4.1, r3', t1]
      refine w_assume gF (rl_c (I := I3) (fun k _ _ => by funext i; rw [mWI, if_neg (by omega)]) k5) (fun I5 m1 m2 => ?_)
      simp only [mmE, mmE0, mmH, mT, mR, mRf, mAl, mAs, mAz, mAn, Int.reduceToNat, Int32.reduceOfInt, Int64.reduceOfInt, Int.reduceAdd, swE, Nat.reduceDiv, Nat.reduceMod, Nat.reduceAdd, Nat.reduceMul, Nat.reduceEqDiff, Nat.reduceLeDiff, Nat.zero_le, List.length_nil, List.length_cons, Nat.zero_add, true_or, or_true, false_or, or_false, true_and, and_true, and_self, mb_01, mb_t, mb_f, Option.toList_some, Option.toList_none, List.cons_append, List.nil_append]
      have e5 : ∀ k, k < 113 ∨ 121 < k → I5 k = mm_wI I3 112 4 (nI a + 1) k := fun k hk => m2.2 k hk
      refine K I5 (fG_tr k1 (fG_tr fG_g (fG_rs m2))) (fun q a1 a2 a3 => ?_) ⟨?_, ?_, ?_, ?_, ?_⟩ ⟨?_, ?_, ?_, ?_, ?_, ?_⟩ m1
      · rw [e5 _ (by omega), og _ _ _ q a2, k2 q a1 a2 a3]
      · rw [e5 _ (by omega), cg]; exact k3.1
      · rw [e5 _ (by omega), cg]; exact k3.2.1
      · rw [e5 _ (by omega), cg]; exact k3.2.2.1
      · rw [e5 _ (by omega), cg]; exact k3.2.2.2.1
      · rw [e5 _ (by omega), cg]; exact k3.2.2.2.2
      · rw [e5 _ (by decide), gg, if_pos rfl, ← nI_succ]
      · rw [e5 _ (by decide), gg, if_neg (by decide), ← k6]; exact k4.2.1
      · rw [e5 _ (by decide), gg, if_neg (by decide)]; exact k4.2.2.1
      · rw [e5 _ (by decide), gg, if_neg (by decide)]; exact k4.2.2.2.1
      · rw [e5 _ (by decide), gg, if_neg (by decide)]; exact k4.2.2.2.2.1
      · rw [e5 _ (by decide), gg, if_neg (by decide)]; exact k4.2.2.2.2.2
    have wy1 : mm_wI I (4 + 2 * r) 6 1 (4 + 2 * r) 7 = nI w := by rw [cr, if_neg (by decide)]; exact g3
    have fc1 : mm_wI I (4 + 2 * r) 6 1 (4 + 2 * r) 0 = nI (sR s r).1 := by rw [cr, if_neg (by decide)]; exact hrow.1
    have hl1 : rl_rep (mm_wI I (4 + 2 * r) 6 1) (sNp s) S := rl_c (fun k _ _ => by funext i; rw [mWI, if_neg (by omega)]) hl
    have ca := fun (z : mm_S) (d : Nat) => c_at (z := z) (d := d) (J := J) (f := some (sR s r).1) hl1 (fun x hx => by injection hx with hx; omega)
    rw [eI_some] at ca
    simp only [wy1, w5, fc1, ca, mmE, mmE0, mmH, mT, mR, mRf, mAl, mAs, mAz, mAn, Int.reduceToNat, Int32.reduceOfInt, Int64.reduceOfInt, Int.reduceAdd, swE, Nat.reduceDiv, Nat.reduceMod, Nat.reduceAdd, Nat.reduceMul, Nat.reduceEqDiff, Nat.reduceLeDiff, Nat.zero_le, List.length_nil, List.length_cons, Nat.zero_add, true_or, or_true, false_or, or_false, true_and, and_true, and_self, mb_01, mb_t, mb_f, Option.toList_some, Option.toList_none, List.cons_append, List.nil_append, bk_18.2.2.2.2.1, t1, w3, true_implies, not_true_eq_false, not_false_eq_true, false_implies, and_true, true_and]
    by_cases q5 : w = 5
    · have q3 : ¬ w = 3 := by omega
      have wy2 : mm_wI (mm_wI I (4 + 2 * r) 6 1) (4 + 2 * r) 8 (nI (al_at S (some (sR s r).1))) (4 + 2 * r) 7 = nI w := by rw [cr, if_neg (by decide), cr, if_neg (by decide)]; exact g3
      simp only [eq_true q5, true_implies, not_true_eq_false, not_false_eq_true, false_implies, and_true, true_and, wy2, w3, q3]
      refine fin _ b (fG_tr (fG_c h1 (by omega) (by decide)) (fG_c h1 (by omega) (by decide))) (fun q _ _ hq => by rw [ot _ _ _ q hq, ot _ _ _ q hq]) ⟨?_, ?_, ?_, ?_, ?_⟩ ⟨?_, ?_, ?_, ?_, ?_, ?_⟩ (rl_c (fun k _ _ => by funext i; rw [mWI, if_neg (by omega), mWI, if_neg (by omega)]) hl) (by rw [if_neg q3]; rfl)
      · rw [cr, if_neg (by decide), cr, if_neg (by decide)]; exact g1
      · rw [cr, if_neg (by decide), cr, if_pos rfl]; rfl
      · rw [cr, if_neg (by decide), cr, if_neg (by decide)]; exact g3
      · rw [cr, if_pos rfl, if_pos q5]; rfl
      · rw [cr, if_neg (by decide), cr, if_neg (by decide)]; exact g5
      · rw [gc, gc]; exact n1
      · rw [gc, gc]; exact n2
      · rw [gc, gc]; exact n3
      · rw [gc, gc]; exact n4
      · rw [gc, gc]; exact n5
      · rw [gc, gc]; exact n6
    · rw [if_neg q5] at fin
      simp only [q5, true_implies, not_true_eq_false, not_false_eq_true, false_implies, and_true, true_and]
      by_cases q3 : w = 3
      · have sn : mm_wI I (4 + 2 * r) 6 1 112 6 = nI b := by rw [gc]; exact n2
        simp only [eq_true q3, true_implies, not_true_eq_false, not_false_eq_true, false_implies, and_true, true_and, sn]
        refine fin _ (b + 1) (fG_tr (fG_c h1 (by omega) (by decide)) fG_g) (fun q _ hq2 hq => by rw [og _ _ _ q hq2, ot _ _ _ q hq]) ⟨?_, ?_, ?_, ?_, ?_⟩ ⟨?_, ?_, ?_, ?_, ?_, ?_⟩ (rl_c (fun k _ _ => by funext i; rw [mWI, if_neg (by omega), mWI, if_neg (by omega)]) hl) (by rw [if_pos q3])
        · rw [cg, cr, if_neg (by decide)]; exact g1
        · rw [cg, cr, if_pos rfl]; rfl
        · rw [cg, cr, if_neg (by decide)]; exact g3
        · rw [cg, cr, if_neg (by decide)]; exact g4
        · rw [cg, cr, if_neg (by decide)]; exact g5
        · rw [gg, if_neg (by decide), gc]; exact n1
        · rw [gg, if_pos rfl, ← nI_succ]
        · rw [gg, if_neg (by decide), gc]; exact n3
        · rw [gg, if_neg (by decide), gc]; exact n4
        · rw [gg, if_neg (by decide), gc]; exact n5
        · rw [gg, if_neg (by decide), gc]; exact n6
      · simp only [q3, true_implies, not_true_eq_false, not_false_eq_true, false_implies, and_true, true_and]
        refine fin _ b (fG_c h1 (by omega) (by decide)) (fun q _ _ hq => by rw [ot _ _ _ q hq]) ⟨?_, ?_, ?_, ?_, ?_⟩ ⟨?_, ?_, ?_, ?_, ?_, ?_⟩ hl1 (by rw [if_neg q3]; rfl)
        · rw [cr, if_neg (by decide)]; exact g1
        · rw [cr, if_pos rfl]; rfl
        · rw [cr, if_neg (by decide)]; exact g3
        · rw [cr, if_neg (by decide)]; exact g4
        · rw [cr, if_neg (by decide)]; exact g5
        · rw [gc]; exact n1
        · rw [gc]; exact n2
        · rw [gc]; exact n3
        · rw [gc]; exact n4
        · rw [gc]; exact n5
        · rw [gc]; exact n6
end GT
