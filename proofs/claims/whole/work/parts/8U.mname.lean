/-! hints: the reference names a fact -/
def nml (f : Nat) : List Nat := [pt f 0, pt f 1, pt f 2, if kdN (kd f) = 3 then 0 else pt f 3]
def lexB (a b c d p q r t : Nat) : Bool := decide (a < p ∨ a = p ∧ (b < q ∨ b = q ∧ (c < r ∨ c = r ∧ d ≤ t)))
def lx_ok (k a b c d : Nat) : Bool := (n_number k a b c d).all fun f => kd f == k && lexB (pt f 0) (pt f 1) (pt f 2) (if kdN k = 3 then 0 else pt f 3) a b c d
theorem lx_all : ∀ k, k < 7 → ∀ a, a < 7 → ∀ b, b < 7 → ∀ c, c < 7 → ∀ d, d < 7 → lx_ok k a b c d = true := by decide +kernel
theorem lex_le {np n m : Nat} (h0 : 0 < np) (h7 : np ≤ 7) (hn : n < np ^ 4) (hm : m < np ^ 4) (h : n / np / np / np % np < m / np / np / np % np ∨ n / np / np / np % np = m / np / np / np % np ∧ (n / np / np % np < m / np / np % np ∨ n / np / np % np = m / np / np % np ∧ (n / np % np < m / np % np ∨ n / np % np = m / np % np ∧ n % np ≤ m % np))) : n ≤ m := by
  have : np = 1 ∨ np = 2 ∨ np = 3 ∨ np = 4 ∨ np = 5 ∨ np = 6 ∨ np = 7 := by omega
  rcases this with rfl | rfl | rfl | rfl | rfl | rfl | rfl
  · omega
  · rw [show (2 : Nat) ^ 4 = 16 by decide] at hn hm; omega
  · rw [show (3 : Nat) ^ 4 = 81 by decide] at hn hm; omega
  · rw [show (4 : Nat) ^ 4 = 256 by decide] at hn hm; omega
  · rw [show (5 : Nat) ^ 4 = 625 by decide] at hn hm; omega
  · rw [show (6 : Nat) ^ 4 = 1296 by decide] at hn hm; omega
  · rw [show (7 : Nat) ^ 4 = 2401 by decide] at hn hm; omega
theorem dg4 {np n : Nat} : dg np 4 n = [n / np / np / np % np, n / np / np % np, n / np % np, n % np] := rfl
/-- what stands at four letters -/
def nmF (np k : Nat) (l : List Nat) : Option Nat := n_fact np (nI k) (nI (ls_f l 0)) (nI (ls_f l 1)) (nI (ls_f l 2)) (nI (ls_f l 3))
theorem nmF_lex {np k n m f : Nat} (h0 : 0 < np) (h7 : np ≤ 7) (hk : k < 7) (hn : n < np ^ 4) (hm : m < np ^ 4) (e : dg np 4 m = nml f) (h : nmF np k (dg np 4 n) = some f) : k = kd f ∧ m ≤ n := by
  unfold nmF at h
  have dl := fun j => ls_dg (np := np) (w := 4) (n := n) (j := j) h0
  have d0 := dl 0
  have d1 := dl 1
  have d2 := dl 2
  have d3 := dl 3
  rw [n_fact_n hk d0 d1 d2 h7, inN_nI (by omega), nI_clamp (by omega)] at h
  rw [decide_eq_true d3, if_pos rfl] at h
  have key : ∀ x, x ≤ ls_f (dg np 4 n) 3 → n_number k (ls_f (dg np 4 n) 0) (ls_f (dg np 4 n) 1) (ls_f (dg np 4 n) 2) x = some f → k = kd f ∧ m ≤ n := by
    intro x hx q
    have t := lx_all k hk _ (show ls_f (dg np 4 n) 0 < 7 by omega) _ (show ls_f (dg np 4 n) 1 < 7 by omega) _ (show ls_f (dg np 4 n) 2 < 7 by omega) x (by omega)
    unfold lx_ok at t
    rw [q] at t
    simp only [Option.all_some, Bool.and_eq_true, beq_iff_eq] at t
    obtain ⟨t1, t2⟩ := t
    refine ⟨t1.symm, ?_⟩
    have t2 := of_decide_eq_true t2
    rw [← t1] at t2
    rw [dg4] at e
    unfold nml at e
    injection e with e1 e
    injection e with e2 e
    injection e with e3 e
    injection e with e4 e
    rw [← e1, ← e2, ← e3, ← e4] at t2
    have f0 : ls_f (dg np 4 n) 0 = n / np / np / np % np := by rw [dg4]; rfl
    have f1 : ls_f (dg np 4 n) 1 = n / np / np % np := by rw [dg4]; rfl
    have f2 : ls_f (dg np 4 n) 2 = n / np % np := by rw [dg4]; rfl
    have f3 : ls_f (dg np 4 n) 3 = n % np := by rw [dg4]; rfl
    rw [f0, f1, f2] at t2
    rw [f3] at hx
    refine lex_le h0 h7 hm hn ?_
    rcases t2 with t2 | ⟨t2, t2' | ⟨t2', t3 | ⟨t3, t4⟩⟩⟩
    · exact Or.inl t2
    · exact Or.inr ⟨t2, Or.inl t2'⟩
    · exact Or.inr ⟨t2, Or.inr ⟨t2', Or.inl t3⟩⟩
    · exact Or.inr ⟨t2, Or.inr ⟨t2', Or.inr ⟨t3, Nat.le_trans t4 hx⟩⟩⟩
  by_cases q3 : kdN k = 3
  · rw [if_pos q3] at h
    exact key 0 (by omega) h
  · rw [if_neg q3] at h
    exact key _ (Nat.le_refl _) h
theorem isP_pts {np f i : Nat} (h7 : np ≤ 7) (h : isP np f) (hi : i < kdN (kd f)) : pt f i < np := by
  obtain ⟨k, a, b, c, d, hk, ha, hb, hc, hd, e⟩ := h
  have t := lx_all k hk a (by omega) b (by omega) c (by omega) d (by omega)
  unfold lx_ok at t
  rw [e] at t
  simp only [Option.all_some, Bool.and_eq_true, beq_iff_eq] at t
  have ek := t.1
  have np0 : 0 < np := by omega
  have hn := nf_pt hk (show a < 7 by omega) (show b < 7 by omega) (show c < 7 by omega) (show d < 7 by omega) e
  have x2 : ∀ {a b : Nat}, a < np → b < np → (ex2 a b).1 < np ∧ (ex2 a b).2 < np := by
    intro a b ha hb
    unfold ex2
    split
    · exact ⟨hb, ha⟩
    · exact ⟨ha, hb⟩
  have x3 : ∀ {a b c : Nat}, a < np → b < np → c < np → (nf3 a b c).1 < np ∧ (nf3 a b c).2.1 < np ∧ (nf3 a b c).2.2 < np := by
    intro a b c ha hb hc
    have p := x2 ha hb
    have q := x2 p.2 hc
    have r := x2 p.1 q.1
    exact ⟨r.1, r.2, q.2⟩
  have x4 : (nf4 a b c d).1 < np ∧ (nf4 a b c d).2.1 < np ∧ (nf4 a b c d).2.2.1 < np ∧ (nf4 a b c d).2.2.2 < np := by
    have p := x3 ha hb hc
    have q := x2 p.2.2 hd
    have r := x2 p.2.1 q.1
    have s := x2 p.1 r.1
    exact ⟨s.1, s.2, r.2, q.2⟩
  have xP : (nfP a b c d).1 < np ∧ (nfP a b c d).2.1 < np ∧ (nfP a b c d).2.2.1 < np ∧ (nfP a b c d).2.2.2 < np := by
    have p := x2 ha hb
    have q := x2 hc hd
    unfold nfP
    dsimp only
    split
    · exact ⟨p.1, p.2, q.1, q.2⟩
    · exact ⟨q.1, q.2, p.1, p.2⟩
  have all : (nf k a b c d).1 < np ∧ (nf k a b c d).2.1 < np ∧ (nf k a b c d).2.2.1 < np ∧ (nf k a b c d).2.2.2 < np := by
    unfold nf
    by_cases k0 : k = 0
    · rw [if_pos k0]
      have p := x3 ha hb hc
      exact ⟨p.1, p.2.1, p.2.2, np0⟩
    rw [if_neg k0]
    by_cases k5 : k = 5
    · rw [if_pos k5]; exact x4
    rw [if_neg k5]
    by_cases k46 : k = 4 ∨ k = 6
    · rw [if_pos k46]
      have p := x2 hb hc
      exact ⟨ha, p.1, p.2, np0⟩
    · rw [if_neg k46]; exact xP
  have i4 : i < 4 := Nat.lt_of_lt_of_le hi (kdN_le _)
  have : i = 0 ∨ i = 1 ∨ i = 2 ∨ i = 3 := by omega
  rcases this with rfl | rfl | rfl | rfl
  · rw [hn.1]; exact all.1
  · rw [hn.2.1]; exact all.2.1
  · rw [hn.2.2.1]; exact all.2.2.1
  · rcases hn.2.2.2 with q | q
    · rw [ek, q] at hi
      omega
    · rw [q]; exact all.2.2.2
theorem nml_ex {np f : Nat} (h7 : np ≤ 7) (h : isP np f) : ∃ m, m < np ^ 4 ∧ dg np 4 m = nml f ∧ nmF np (kd f) (dg np 4 m) = some f := by
  have h0 := isP_pos h
  have fF := isP_F h7 h
  have k3 := kd34 (kd f)
  have p0 := isP_pts (i := 0) h7 h (by omega)
  have p1 := isP_pts (i := 1) h7 h (by omega)
  have p2 := isP_pts (i := 2) h7 h (by omega)
  have p3 : (if kdN (kd f) = 3 then 0 else pt f 3) < np := by
    split
    · exact h0
    · exact isP_pts (i := 3) h7 h (by omega)
  obtain ⟨m, m1, m2⟩ := dg_all h0 (nml f) (by
    intro x hx
    unfold nml at hx
    simp only [List.mem_cons, List.not_mem_nil, or_false] at hx
    rcases hx with rfl | rfl | rfl | rfl
    · exact p0
    · exact p1
    · exact p2
    · exact p3)
  refine ⟨m, m1, m2, ?_⟩
  have m2 : dg np 4 m = nml f := m2
  rw [m2]
  unfold nmF
  show n_fact np (nI (kd f)) (nI (pt f 0)) (nI (pt f 1)) (nI (pt f 2)) (nI (if kdN (kd f) = 3 then 0 else pt f 3)) = some f
  have pn := pt_num fF
  rw [n_fact_n (kd_lt f) p0 p1 p2 h7, inN_nI (by omega), nI_clamp (by omega), decide_eq_true p3, if_pos rfl]
  by_cases q : kdN (kd f) = 3
  · rw [if_pos q]
    rw [if_pos q] at pn
    exact pn
  · rw [if_neg q]
    exact pn
def hsM (I : mm_I) (f : Nat) : Prop := I 127 48 = nI (kd f) ∧ ∀ x, x < 4 → I 157 x = pI f x
def fK (I I' : mm_I) : Prop := (∀ k, k ≠ 127 → k ≠ 136 → k ≠ 157 → I' k = I k) ∧ ∀ j, j ≠ 48 → I' 127 j = I 127 j
theorem fK_rf {I : mm_I} : fK I I := ⟨fun _ _ _ _ => rfl, fun _ _ => rfl⟩
theorem fK_tr {I I' I'' : mm_I} (h : fK I I') (h' : fK I' I'') : fK I I'' := ⟨fun k a b c => (h'.1 k a b c).trans (h.1 k a b c), fun j a => (h'.2 j a).trans (h.2 j a)⟩
theorem fK_A {I I' : mm_I} (h : frA I I') : fK I I' := ⟨fun k _ b _ => h k b, fun j _ => by rw [h _ (by decide)]⟩
theorem sl_is {o : Option Nat} {f : Nat} (ho : ∀ g, o = some g → isF g = true) (hf : isF f = true) : (eI (o.map sl) = nI (sl f)) = (o = some f) := by
  have l1 := (un_sl hf).2
  cases o with
  | none => exact propext ⟨fun w => absurd w.symm (nI_m1' (by omega)), fun w => by cases w⟩
  | some g =>
    have hg := ho g rfl
    have l2 := (un_sl hg).2
    show (nI (sl g) = nI (sl f)) = _
    rw [eq_nI (by omega) (by omega)]
    exact propext ⟨fun w => congrArg some ((sl_inj hg hf).mp w), fun w => congrArg sl (Option.some.inj w)⟩
section MN
variable {z : mm_S} {d : Nat} {J : mm_J} {np f : Nat} {Q : Option Value → mm_I → mm_J → Prop}
theorem ix4 {x : Nat} (h : x < 4) : vp_in (nI x) 4 = True ∧ (nI x).toNatClampNeg = x ∧ (4 ≤ nI x) = False := ⟨eq_true (vp_in_nI h (by decide)), nI_clamp (by omega), eq_false (nI_ge (b := 4) h (by decide))⟩
theorem w_nm3 {a1 a2 a4 : Int32} {k : Nat} {l : Nat → Nat} (hk : k < 7) : ∀ (w j : Nat) (I : mm_I), j + w = 4 → (∀ x, x < 4 → I 136 x = nI (l x)) → (∀ x, x < j → I 157 x = if x < kdN k then nI (l x) else -5) → (∀ I' o5, (∀ c, c ≠ 157 → I' c = I c) → (∀ x, x < 4 → I' 157 x = if x < kdN k then nI (l x) else -5) → mm_at z (mm_call z (d + 1)) (mm_code 199) Q 126 [some (.ref 127), some (.int a1), some (.int a2), some (.int (nI k)), some (.int a4), o5] [] I' J) → mm_at z (mm_call z (d + 1)) (mm_code 199) Q 86 [some (.ref 127), some (.int a1), some (.int a2), some (.int (nI k)), some (.int a4), some (.int (nI j))] [] I J
  | 0, j, I, hj, hA, hH, K => by
    have ej : j = 4 := by omega
    subst ej
    rw [hk_199_86]
    have c1 : (4 ≤ nI 4) = True := by decide
    simp only [mmE, mmE0, mmH, mT, mR, mRf, mAl, mAs, mAz, mAn, Int.reduceToNat, Int32.reduceOfInt, Int64.reduceOfInt, Int.reduceAdd, swE, Nat.reduceDiv, Nat.reduceMod, Nat.reduceAdd, Nat.reduceMul, Nat.reduceEqDiff, Nat.reduceLeDiff, Nat.zero_le, List.length_nil, List.length_cons, Nat.zero_add, true_or, or_true, false_or, or_false, true_and, and_true, and_self, mb_01, mb_t, mb_f, c1, true_implies, not_true_eq_false, not_false_eq_true, false_implies, and_true, true_and]
    exact K I _ (fun _ _ => rfl) hH
  | w + 1, j, I, hj, hA, hH, K => by
    rw [hk_199_86]
    have k4 := kdN_le k
    have c2 : (nI (kdN k) ≤ nI j) = (kdN k ≤ j) := le_nI (by omega) (by omega)
    have a1' := hA j (by omega)
    have p1 : nI j + 1 = nI (j + 1) := (nI_succ j).symm
    simp only [bk_199.2.1, bk_199.2.2.1, mmE, mmE0, mmH, mT, mR, mRf, mAl, mAs, mAz, mAn, Int.reduceToNat, Int32.reduceOfInt, Int64.reduceOfInt, Int.reduceAdd, swE, Nat.reduceDiv, Nat.reduceMod, Nat.reduceAdd, Nat.reduceMul, Nat.reduceEqDiff, Nat.reduceLeDiff, Nat.zero_le, List.length_nil, List.length_cons, Nat.zero_add, true_or, or_true, false_or, or_false, true_and, and_true, and_self, mb_01, mb_t, mb_f, Option.toList_some, Option.toList_none, List.cons_append, List.nil_append, ix4 (show j < 4 by omega), ix6 (show j < 6 by omega), c_mPointsOf, pointsOf_n hk, c2, a1', p1, true_implies, not_true_eq_false, not_false_eq_true, false_implies, and_true, true_and]
    have go : ∀ v, v = (if j < kdN k then nI (l j) else -5) → mm_at z (mm_call z (d + 1)) (mm_code 199) Q 86 [some (.ref 127), some (.int a1), some (.int a2), some (.int (nI k)), some (.int a4), some (.int (nI (j + 1)))] [] (mm_wI I 157 j v) J := by
      intro v ev
      have wc : ∀ c, c ≠ 157 → mm_wI I 157 j v c = I c := fun c hc => by funext t; rw [mWI, if_neg hc]
      refine w_nm3 hk w (j + 1) _ (by omega) (fun x hx => by rw [wc _ (by decide)]; exact hA x hx) (fun x hx => ?_) (fun I' o5 f1 f2 => K I' o5 (fun c hc => (f1 c hc).trans (wc c hc)) f2)
      rw [mWI, if_pos rfl]
      by_cases q : x = j
      · rw [if_pos q, q, ev]
      · rw [if_neg q]
        exact hH x (by omega)
    by_cases q : kdN k ≤ j
    · simp only [eq_true q, true_implies, not_true_eq_false, not_false_eq_true, false_implies, and_true, true_and]
      exact go _ (by rw [if_neg (by omega)])
    · simp only [q, true_implies, not_true_eq_false, not_false_eq_true, false_implies, and_true, true_and]
      exact go _ (by rw [if_pos (by omega)])
theorem w_nm2 {a2 : Int32} {k m : Nat} (hk : k < 7) (h7 : np ≤ 7) (hf : isP np f) (hm : m < np ^ 4) (em : dg np 4 m = nml f) (em2 : nmF np (kd f) (dg np 4 m) = some f) : ∀ (w : Nat) (I : mm_I) (o5 : Option Value), w ≤ np ^ 4 → I 127 0 = nI np → (∀ I' o4 o5, fK I I' → ((k = kd f ∧ m < w) ∨ hsM I f → hsM I' f) → mm_at z (mm_call z (d + 2)) (mm_code 199) Q 132 [some (.ref 127), some (.int (nI (sl f))), some (.int a2), some (.int (nI k)), o4, o5] [] I' J) → mm_at z (mm_call z (d + 2)) (mm_code 199) Q 32 [some (.ref 127), some (.int (nI (sl f))), some (.int a2), some (.int (nI k)), some (.int (nI w - 1)), o5] [] I J
  | 0, I, o5, hw, hp, K => by
    rw [hk_199_32]
    have c1 : (nI 0 - 1 < 0) = True := by decide
    simp only [mmE, mmE0, mmH, mT, mR, mRf, mAl, mAs, mAz, mAn, Int.reduceToNat, Int32.reduceOfInt, Int64.reduceOfInt, Int.reduceAdd, swE, Nat.reduceDiv, Nat.reduceMod, Nat.reduceAdd, Nat.reduceMul, Nat.reduceEqDiff, Nat.reduceLeDiff, Nat.zero_le, List.length_nil, List.length_cons, Nat.zero_add, true_or, or_true, false_or, or_false, true_and, and_true, and_self, mb_01, mb_t, mb_f, c1, true_implies, not_true_eq_false, not_false_eq_true, false_implies, and_true, true_and]
    exact K I _ _ fK_rf (fun q => q.elim (fun q => absurd q.2 (Nat.not_lt_zero _)) id)
  | w + 1, I, o5, hw, hp, K => by
    have h0 := isP_pos hf
    have fF := isP_F h7 hf
    have b4 := p2401 (np := np) (w := 4) h7 (by omega)
    rw [hk_199_32]
    have e1 : nI (w + 1) - 1 = nI w := pd1 w
    have e2 : nI w + -1 = nI w - 1 := pdm w
    have c1 : (nI w < 0) = False := nneg (by omega)
    simp only [mmE, mmE0, mmH, mT, mR, mRf, mAl, mAs, mAz, mAn, Int.reduceToNat, Int32.reduceOfInt, Int64.reduceOfInt, Int.reduceAdd, swE, Nat.reduceDiv, Nat.reduceMod, Nat.reduceAdd, Nat.reduceMul, Nat.reduceEqDiff, Nat.reduceLeDiff, Nat.zero_le, List.length_nil, List.length_cons, Nat.zero_add, true_or, or_true, false_or, or_false, true_and, and_true, and_self, mb_01, mb_t, mb_f, e1, c1, true_implies, not_true_eq_false, not_false_eq_true, false_implies, and_true, true_and]
    refine w_assign (a := 0) (b := 4) (n := w) (z := z) (d := d + 1) h0 h7 (by omega) (by omega) (by omega) hp (fun I1 g1 g2 g3 => ?_)
    have hp1 : I1 127 0 = nI np := by rw [g1 _ (by decide)]; exact hp
    have at1 : ∀ x, x < 4 → I1 136 x = nI (ls_f (dg np 4 w) x) := fun x hx => by
      have := g3 x (by omega)
      rw [Nat.zero_add] at this
      exact this
    have fk1 : fK I I1 := fK_A g1
    have i6 := ix6 (x := 0) (by omega)
    have i61 := ix6 (x := 1) (by omega)
    have i62 := ix6 (x := 2) (by omega)
    have i63 := ix6 (x := 3) (by omega)
    have q0 : vp_in (0 : Int32) 6 = True ∧ (0 : Int32).toNatClampNeg = 0 := ⟨i6.1, i6.2.1⟩
    have q1 : vp_in (1 : Int32) 6 = True ∧ (1 : Int32).toNatClampNeg = 1 := ⟨i61.1, i61.2.1⟩
    have q2 : vp_in (2 : Int32) 6 = True ∧ (2 : Int32).toNatClampNeg = 2 := ⟨i62.1, i62.2.1⟩
    have q3 : vp_in (3 : Int32) 6 = True ∧ (3 : Int32).toNatClampNeg = 3 := ⟨i63.1, i63.2.1⟩
    have es : rm_slot np (nI k) (nI (ls_f (dg np 4 w) 0)) (nI (ls_f (dg np 4 w) 1)) (nI (ls_f (dg np 4 w) 2)) (nI (ls_f (dg np 4 w) 3)) = eI ((nmF np k (dg np 4 w)).map sl) := slot_fact h7
    have ei : (eI ((nmF np k (dg np 4 w)).map sl) = nI (sl f)) = (nmF np k (dg np 4 w) = some f) := sl_is (fun g hg => isP_F h7 (n_fact_P h7 hg)) fF
    simp only [mmE, mmE0, mmH, mT, mR, mRf, mAl, mAs, mAz, mAn, Int.reduceToNat, Int32.reduceOfInt, Int64.reduceOfInt, Int.reduceAdd, swE, Nat.reduceDiv, Nat.reduceMod, Nat.reduceAdd, Nat.reduceMul, Nat.reduceEqDiff, Nat.reduceLeDiff, Nat.zero_le, List.length_nil, List.length_cons, Nat.zero_add, true_or, or_true, false_or, or_false, true_and, and_true, and_self, mb_01, mb_t, mb_f, Option.toList_some, Option.toList_none, List.cons_append, List.nil_append, q0, q1, q2, q3, at1 0 (by omega), at1 1 (by omega), at1 2 (by omega), at1 3 (by omega), c_slot h7 hp1, es, ei, true_implies, not_true_eq_false, not_false_eq_true, false_implies, and_true, true_and]
    by_cases q : nmF np k (dg np 4 w) = some f
    · simp only [eq_true q, true_implies, not_true_eq_false, not_false_eq_true, false_implies, and_true, true_and]
      obtain ⟨x1, x2⟩ := nmF_lex h0 h7 hk (show w < np ^ 4 by omega) hm em q
      have wc : ∀ c, c ≠ 127 → mm_wI I1 127 48 (nI k) c = I1 c := fun c hc => by funext t; rw [mWI, if_neg hc]
      refine w_nm3 (z := z) (d := d + 1) (l := ls_f (dg np 4 w)) hk 4 0 _ (by omega) (fun x hx => by rw [wc _ (by decide)]; exact at1 x hx) (fun x hx => by omega) (fun I2 o5 k1 k2 => ?_)
      simp only [bk_199.2.2.2.1, mmE, mmE0, mmH, mT, mR, mRf, mAl, mAs, mAz, mAn, Int.reduceToNat, Int32.reduceOfInt, Int64.reduceOfInt, Int.reduceAdd, swE, Nat.reduceDiv, Nat.reduceMod, Nat.reduceAdd, Nat.reduceMul, Nat.reduceEqDiff, Nat.reduceLeDiff, Nat.zero_le, List.length_nil, List.length_cons, Nat.zero_add, true_or, or_true, false_or, or_false, true_and, and_true, and_self, mb_01, mb_t, mb_f, e2]
      have f2 : fK I1 I2 := ⟨fun c a b e => by rw [k1 c e, wc c a], fun j hj => by rw [k1 _ (by decide), mWI, if_pos rfl, if_neg hj]⟩
      refine w_nm2 hk h7 hf hm em em2 w I2 _ (by omega) (by rw [f2.2 _ (by decide)]; exact hp1) (fun I3 o4 o5 k3 k4 => K I3 o4 o5 (fK_tr fk1 (fK_tr f2 k3)) (fun _ => k4 ?_))
      by_cases e : m = w
      · refine Or.inr ⟨?_, fun x hx => ?_⟩
        · rw [k1 _ (by decide), mWI, if_pos rfl, if_pos rfl, x1]
        · rw [k2 x hx, ← e, em, x1]
          unfold pI
          by_cases qx : x < kdN (kd f)
          · rw [if_pos qx, if_pos qx]
            congr 1
            have : x = 0 ∨ x = 1 ∨ x = 2 ∨ x = 3 := by omega
            rcases this with rfl | rfl | rfl | rfl
            · rfl
            · rfl
            · rfl
            · show (if kdN (kd f) = 3 then 0 else pt f 3) = pt f 3
              rw [if_neg (by omega)]
          · rw [if_neg qx, if_neg qx]
      · exact Or.inl ⟨x1, by omega⟩
    · simp only [q, true_implies, not_true_eq_false, not_false_eq_true, false_implies, and_true, true_and, bk_199.2.2.2.1, mmE, mmE0, mmH, mT, mR, mRf, mAl, mAs, mAz, mAn, Int.reduceToNat, Int32.reduceOfInt, Int64.reduceOfInt, Int.reduceAdd, swE, Nat.reduceDiv, Nat.reduceMod, Nat.reduceAdd, Nat.reduceMul, Nat.reduceEqDiff, Nat.reduceLeDiff, Nat.zero_le, List.length_nil, List.length_cons, Nat.zero_add, true_or, or_true, false_or, or_false, true_and, and_true, and_self, mb_01, mb_t, mb_f, e2]
      refine w_nm2 hk h7 hf hm em em2 w I1 _ (by omega) hp1 (fun I3 o4 o5 k3 k4 => K I3 o4 o5 (fK_tr fk1 k3) (fun w' => k4 ?_))
      rcases w' with ⟨w1, w2⟩ | w'
      · refine Or.inl ⟨w1, ?_⟩
        have : m ≠ w := by
          intro e
          rw [e, ← w1] at em2
          exact q em2
        omega
      · refine Or.inr ⟨?_, fun x hx => ?_⟩
        · rw [g1 _ (by decide)]; exact w'.1
        · rw [g1 _ (by decide)]; exact w'.2 x hx
theorem w_nm1 {m : Nat} (h7 : np ≤ 7) (hf : isP np f) (hm : m < np ^ 4) (em : dg np 4 m = nml f) (em2 : nmF np (kd f) (dg np 4 m) = some f) : ∀ (w : Nat) (I : mm_I) (o4 o5 : Option Value), w ≤ 7 → kd f < w ∨ hsM I f → I 127 0 = nI np → (∀ I', fK I I' → hsM I' f → Q none I' J) → mm_at z (mm_call z (d + 2)) (mm_code 199) Q 23 [some (.ref 127), some (.int (nI (sl f))), some (.int (nI (np ^ 4))), some (.int (nI w - 1)), o4, o5] [] I J
  | 0, I, o4, o5, hw, hs, hp, K => by
    rw [hk_199_23]
    have c1 : (nI 0 - 1 < 0) = True := by decide
    simp only [bk_199.2.2.2.2.2, mmE, mmE0, mmH, mT, mR, mRf, mAl, mAs, mAz, mAn, Int.reduceToNat, Int32.reduceOfInt, Int64.reduceOfInt, Int.reduceAdd, swE, Nat.reduceDiv, Nat.reduceMod, Nat.reduceAdd, Nat.reduceMul, Nat.reduceEqDiff, Nat.reduceLeDiff, Nat.zero_le, List.length_nil, List.length_cons, Nat.zero_add, true_or, or_true, false_or, or_false, true_and, and_true, and_self, mb_01, mb_t, mb_f, c1, true_implies, not_true_eq_false, not_false_eq_true, false_implies, and_true, true_and]
    exact K I fK_rf (hs.resolve_left (Nat.not_lt_zero _))
  | w + 1, I, o4, o5, hw, hs, hp, K => by
    rw [hk_199_23]
    have e1 : nI (w + 1) - 1 = nI w := pd1 w
    have e2 : nI w + -1 = nI w - 1 := pdm w
    have c1 : (nI w < 0) = False := nneg (by omega)
    simp only [mmE, mmE0, mmH, mT, mR, mRf, mAl, mAs, mAz, mAn, Int.reduceToNat, Int32.reduceOfInt, Int64.reduceOfInt, Int.reduceAdd, swE, Nat.reduceDiv, Nat.reduceMod, Nat.reduceAdd, Nat.reduceMul, Nat.reduceEqDiff, Nat.reduceLeDiff, Nat.zero_le, List.length_nil, List.length_cons, Nat.zero_add, true_or, or_true, false_or, or_false, true_and, and_true, and_self, mb_01, mb_t, mb_f, e1, c1, true_implies, not_true_eq_false, not_false_eq_true, false_implies, and_true, true_and]
    refine w_nm2 (z := z) (d := d) (k := w) (by omega) h7 hf hm em em2 (np ^ 4) I _ (Nat.le_refl _) hp (fun I1 o4 o5 k1 k2 => ?_)
    simp only [bk_199.2.2.2.2.1, mmE, mmE0, mmH, mT, mR, mRf, mAl, mAs, mAz, mAn, Int.reduceToNat, Int32.reduceOfInt, Int64.reduceOfInt, Int.reduceAdd, swE, Nat.reduceDiv, Nat.reduceMod, Nat.reduceAdd, Nat.reduceMul, Nat.reduceEqDiff, Nat.reduceLeDiff, Nat.zero_le, List.length_nil, List.length_cons, Nat.zero_add, true_or, or_true, false_or, or_false, true_and, and_true, and_self, mb_01, mb_t, mb_f, e2]
    refine w_nm1 h7 hf hm em em2 w I1 _ _ (by omega) ?_ (by rw [k1.2 _ (by decide)]; exact hp) (fun I2 k3 k4 => K I2 (fK_tr k1 k3) k4)
    rcases hs with hs | hs
    · by_cases q : w = kd f
      · exact Or.inr (k2 (Or.inl ⟨q, hm⟩))
      · exact Or.inl (by omega)
    · exact Or.inr (k2 (Or.inr hs))
theorem w_name {I : mm_I} (h7 : np ≤ 7) (hf : isP np f) (hp : I 127 0 = nI np) (K : ∀ I', fK I I' → hsM I' f → Q none I' J) : mm_call z (d + 3) 199 [.ref 127, .int (nI (sl f))] I J Q := by
  obtain ⟨m, m1, m2, m3⟩ := nml_ex h7 hf
  have e4 : nI np * nI np * nI np * nI np = nI (np ^ 4) := by rw [nI_mul, nI_mul, nI_mul, Nat.pow_succ, Nat.pow_succ, Nat.pow_succ, Nat.pow_one]
  have e6 : (6 : Int32) = nI 7 - 1 := by decide
  simp only [ce_199, bk_199.1, mmE, mmE0, mmH, mT, mR, mRf, mAl, mAs, mAz, mAn, Int.reduceToNat, Int32.reduceOfInt, Int64.reduceOfInt, Int.reduceAdd, swE, Nat.reduceDiv, Nat.reduceMod, Nat.reduceAdd, Nat.reduceMul, Nat.reduceEqDiff, Nat.reduceLeDiff, Nat.zero_le, List.length_nil, List.length_cons, Nat.zero_add, true_or, or_true, false_or, or_false, true_and, and_true, and_self, mb_01, mb_t, mb_f, hp, e4]
  rw [e6]
  exact w_nm1 (z := z) (d := d) h7 hf m1 m2 m3 7 I _ _ (Nat.le_refl _) (Or.inl (kd_lt f)) hp K
end MN
