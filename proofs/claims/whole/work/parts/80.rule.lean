/-! the search of the class: a rule is made the one at hand -/
def tmk (ps : List Nat) : Int32 := ps.foldl (fun m p => m ||| (1 : Int32) <<< (nI p &&& 31)) 0
def bt (x : Int32) (v : Nat) : Bool := x >>> (nI v &&& 31) &&& 1 == 1
theorem bk3 : ((List.range 7).all fun a => (List.range 7).all fun b => (List.range 7).all fun c => [a, b, c].all (bt (tmk [a, b, c]))) = true := by decide +kernel
theorem bk4 : ((List.range 7).all fun a => (List.range 7).all fun b => (List.range 7).all fun c => (List.range 7).all fun d => [a, b, c, d].all (bt (tmk [a, b, c, d]))) = true := by decide +kernel
theorem bkm : ((List.range 7).all fun v => bt (-1) v) = true := by decide +kernel
def pts (f : Nat) : List Nat := (List.range' 0 (kdN (kd f))).map (pt f)
def alw (m f j : Nat) : Int32 := if ((List.range' 1 (kdN (kd f))).any fun i => pc (rul m).2 i == j) = true then tmk (pts f) else -1
theorem pts_bt {f : Nat} (hf : isF f = true) : (pts f).all (bt (tmk (pts f))) = true := by
  unfold pts
  rcases kd34 (kd f) with q | q
  · rw [q]
    have h := List.all_eq_true.mp bk3 (pt f 0) (List.mem_range.mpr (pt7 hf (by omega)))
    have h := List.all_eq_true.mp h (pt f 1) (List.mem_range.mpr (pt7 hf (by omega)))
    exact List.all_eq_true.mp h (pt f 2) (List.mem_range.mpr (pt7 hf (by omega)))
  · rw [q]
    have h := List.all_eq_true.mp bk4 (pt f 0) (List.mem_range.mpr (pt7 hf (by omega)))
    have h := List.all_eq_true.mp h (pt f 1) (List.mem_range.mpr (pt7 hf (by omega)))
    have h := List.all_eq_true.mp h (pt f 2) (List.mem_range.mpr (pt7 hf (by omega)))
    exact List.all_eq_true.mp h (pt f 3) (List.mem_range.mpr (pt7 hf (by omega)))
/-- what follows has the fact's points for its letters -/
theorem alw_ok {m f : Nat} {l : List Nat} (hm : m < 17) (hf : isF f = true) (hl7 : ∀ j, ls_f l j < 7) (h : rt_f (ls_f l) (rul m).2 = some f) (j : Nat) : bt (alw m f j) (ls_f l j) = true := by
  unfold alw
  split
  · rename_i q
    obtain ⟨i, hi, e⟩ := List.any_eq_true.mp q
    have e := beq_iff_eq.mp e
    rw [List.mem_range'_1] at hi
    have k7 := (tb_rul hm).2.2.2.2.2.1
    have hk : kd f = (rul m).2.1 := (nn_kd k7 (hl7 _) (hl7 _) (hl7 _) (hl7 _) h).1
    have ha := all_nf k7 (hl7 _) (hl7 _) (hl7 _) (hl7 _) h (bt (tmk (pts f)))
    have hp : ((List.range (kdN (rul m).2.1)).all fun i => bt (tmk (pts f)) (pt f i)) = true := by
      rw [List.all_eq_true]
      intro i hi
      refine List.all_eq_true.mp (pts_bt hf) (pt f i) (List.mem_map.mpr ⟨i, List.mem_range'_1.mpr ?_, rfl⟩)
      have := List.mem_range.mp hi
      rw [hk]
      omega
    rw [hp] at ha
    have ha := ha.symm
    simp only [Bool.and_eq_true] at ha
    obtain ⟨⟨⟨h1, h2⟩, h3⟩, h4⟩ := ha
    rw [← e]
    rw [hk] at hi
    rcases (show i = 1 ∨ i = 2 ∨ i = 3 ∨ i = 4 by have := kdN_le (rul m).2.1; omega) with rfl | rfl | rfl | rfl
    · exact h1
    · exact h2
    · exact h3
    · rw [if_pos (by rcases kd34 (rul m).2.1 with q | q <;> omega)] at h4
      exact h4
  · exact List.all_eq_true.mp bkm _ (List.mem_range.mpr (hl7 j))
section IR
variable {z : mm_S} {d : Nat} {I : mm_I} {J : mm_J} {np f bl : Nat} {S : al_S} {ls : List Nat} {Q : Option Value → mm_I → mm_J → Prop}
theorem w_ir1 {m : Nat} {o5 : Option Value} (hf : isF f = true) (ht : I 122 6 = nI f) : ∀ (w i : Nat) (x : Int32), i + w = kdN (kd f) → (∀ o4, mm_at z (mm_call z (d + 3)) (mm_code 72) Q 94 [some (.ref 122), some (.int (nI m)), some (.int (nI (kd f))), some (.int (((List.range' i w).map (pt f)).foldl (fun m p => m ||| (1 : Int32) <<< (nI p &&& 31)) x)), o4, o5] [] I J) → mm_at z (mm_call z (d + 3)) (mm_code 72) Q 65 [some (.ref 122), some (.int (nI m)), some (.int (nI (kd f))), some (.int x), some (.int (nI i)), o5] [] I J
  | 0, i, x, hi, K => by
    have k4 := kdN_le (kd f)
    rw [hk_72_65]
    have c1 : (nI (kdN (kd f)) ≤ nI i) = True := by rw [le_nI (by omega) (by omega)]; exact eq_true (by omega)
    simp only [mmE, mmE0, mmH, mT, mR, mRf, mAl, mAs, mAz, mAn, Int.reduceToNat, Int32.reduceOfInt, Int64.reduceOfInt, Int.reduceAdd, swE, Nat.reduceDiv, Nat.reduceMod, Nat.reduceAdd, Nat.reduceMul, Nat.reduceEqDiff, Nat.reduceLeDiff, Nat.zero_le, List.length_nil, List.length_cons, Nat.zero_add, true_or, or_true, false_or, or_false, true_and, and_true, and_self, mb_01, mb_t, mb_f, Option.toList_some, Option.toList_none, List.cons_append, List.nil_append, c_pointsOf, pointsOf_n (kd_lt f), c1, true_implies, not_true_eq_false, not_false_eq_true, false_implies, and_true, true_and]
    exact K _
  | w + 1, i, x, hi, K => by
    have k4 := kdN_le (kd f)
    rw [hk_72_65]
    have c1 : (nI (kdN (kd f)) ≤ nI i) = False := by rw [le_nI (by omega) (by omega)]; exact eq_false (by omega)
    simp only [mmE, mmE0, mmH, mT, mR, mRf, mAl, mAs, mAz, mAn, Int.reduceToNat, Int32.reduceOfInt, Int64.reduceOfInt, Int.reduceAdd, swE, Nat.reduceDiv, Nat.reduceMod, Nat.reduceAdd, Nat.reduceMul, Nat.reduceEqDiff, Nat.reduceLeDiff, Nat.zero_le, List.length_nil, List.length_cons, Nat.zero_add, true_or, or_true, false_or, or_false, true_and, and_true, and_self, mb_01, mb_t, mb_f, Option.toList_some, Option.toList_none, List.cons_append, List.nil_append, c_pointsOf, pointsOf_n (kd_lt f), c1, ht, c_pt hf (show i < kdN (kd f) by omega), true_implies, not_true_eq_false, not_false_eq_true, false_implies, and_true, true_and]
    rw [← nI_succ]
    refine w_ir1 hf ht w (i + 1) _ (by omega) (fun o4 => ?_)
    have := K o4
    rw [List.range'_succ, List.map_cons, List.foldl_cons] at this
    exact this
theorem w_ir2 {a b : Value} {x : Int32} {e : Option Value} : ∀ (w i : Nat) (I : mm_I), i + w = 6 → (∀ I' o4, (∀ k, k ≠ 125 → I' k = I k) → (∀ j, j < i → I' 125 j = I 125 j) → (∀ j, i ≤ j → j < 6 → I' 125 j = -1) → mm_at z (mm_call z d) (mm_code 72) Q 118 [some (.ref 122), some a, some b, some (.int x), o4, e] [] I' J) → mm_at z (mm_call z d) (mm_code 72) Q 97 [some (.ref 122), some a, some b, some (.int x), some (.int (nI i)), e] [] I J
  | 0, i, I, hi, K => by
    rw [hk_72_97]
    have c1 : (6 ≤ nI i) = True := by rw [show (6 : Int32) = nI 6 from rfl, le_nI (by omega) (by omega)]; exact eq_true (by omega)
    simp only [mmE, mmE0, mmH, mT, mR, mRf, mAl, mAs, mAz, mAn, Int.reduceToNat, Int32.reduceOfInt, Int64.reduceOfInt, Int.reduceAdd, swE, Nat.reduceDiv, Nat.reduceMod, Nat.reduceAdd, Nat.reduceMul, Nat.reduceEqDiff, Nat.reduceLeDiff, Nat.zero_le, List.length_nil, List.length_cons, Nat.zero_add, true_or, or_true, false_or, or_false, true_and, and_true, and_self, mb_01, mb_t, mb_f, c1, true_implies, not_true_eq_false, not_false_eq_true, false_implies, and_true, true_and]
    exact K I _ (fun _ _ => rfl) (fun _ _ => rfl) (fun j h1 h2 => by omega)
  | w + 1, i, I, hi, K => by
    rw [hk_72_97]
    have c1 : (6 ≤ nI i) = False := by rw [show (6 : Int32) = nI 6 from rfl, le_nI (by omega) (by omega)]; exact eq_false (by omega)
    simp only [mmE, mmE0, mmH, mT, mR, mRf, mAl, mAs, mAz, mAn, Int.reduceToNat, Int32.reduceOfInt, Int64.reduceOfInt, Int.reduceAdd, swE, Nat.reduceDiv, Nat.reduceMod, Nat.reduceAdd, Nat.reduceMul, Nat.reduceEqDiff, Nat.reduceLeDiff, Nat.zero_le, List.length_nil, List.length_cons, Nat.zero_add, true_or, or_true, false_or, or_false, true_and, and_true, and_self, mb_01, mb_t, mb_f, c1, ix6 (show i < 6 by omega), true_implies, not_true_eq_false, not_false_eq_true, false_implies, and_true, true_and]
    rw [← nI_succ]
    refine w_ir2 w (i + 1) _ (by omega) (fun I' o4 g1 g2 g3 => ?_)
    refine K I' o4 (fun k hk => ?_) (fun j hj => ?_) (fun j h1 h2 => ?_)
    · rw [g1 k hk]
      funext q
      rw [mWI, if_neg hk]
    · rw [g2 j (by omega), mWI, if_pos rfl, if_neg (by omega)]
    · by_cases q : j = i
      · rw [g2 j (by omega), mWI, if_pos rfl, if_pos q]
      · exact g3 j (by omega) h2
theorem w_ir3 {m : Nat} {x : Int32} (hm : m < 17) : ∀ (w i : Nat) (I : mm_I) (o5 : Option Value), 1 ≤ i → i + w = kdN (kd f) + 1 → I 122 9 = nI (fp (m + 1) - 1) → (∀ I', (∀ k, k ≠ 125 → I' k = I k) → (∀ j, j < 6 → I' 125 j = if ((List.range' i w).any fun i => pc (rul m).2 i == j) = true then x else I 125 j) → Q (some (.int 1)) I' J) → mm_at z (mm_call z (d + 1)) (mm_code 72) Q 121 [some (.ref 122), some (.int (nI m)), some (.int (nI (kd f))), some (.int x), some (.int (nI i)), o5] [] I J
  | 0, i, I, o5, h1, hi, hc, K => by
    have k4 := kdN_le (kd f)
    rw [hk_72_121]
    have c1 : (nI (kdN (kd f)) < nI i) = True := by rw [lt_nI (by omega) (by omega)]; exact eq_true (by omega)
    simp only [bk_72.2.2.2.2.2.2.2, mmE, mmE0, mmH, mT, mR, mRf, mAl, mAs, mAz, mAn, Int.reduceToNat, Int32.reduceOfInt, Int64.reduceOfInt, Int.reduceAdd, swE, Nat.reduceDiv, Nat.reduceMod, Nat.reduceAdd, Nat.reduceMul, Nat.reduceEqDiff, Nat.reduceLeDiff, Nat.zero_le, List.length_nil, List.length_cons, Nat.zero_add, true_or, or_true, false_or, or_false, true_and, and_true, and_self, mb_01, mb_t, mb_f, Option.toList_some, Option.toList_none, List.cons_append, List.nil_append, c_pointsOf, pointsOf_n (kd_lt f), c1, z01, true_implies, not_true_eq_false, not_false_eq_true, false_implies, and_true, true_and]
    exact K I (fun _ _ => rfl) (fun _ _ => rfl)
  | w + 1, i, I, o5, h1, hi, hc, K => by
    have k4 := kdN_le (kd f)
    obtain ⟨_, t2, t3, t4, _⟩ := tb_rul hm
    have hp48 : fp (m + 1) - 1 < 48 := by omega
    have p6 := (tb_prt _ hp48).2
    have pl := pc_le (t := prt (fp (m + 1) - 1)) h1 (show i ≤ 4 by omega)
    rw [hk_72_121]
    have c1 : (nI (kdN (kd f)) < nI i) = False := by rw [lt_nI (by omega) (by omega)]; exact eq_false (by omega)
    have c2 : (6 ≤ nI (pc (prt (fp (m + 1) - 1)) i)) = False := by rw [show (6 : Int32) = nI 6 from rfl, le_nI (by omega) (by omega)]; exact eq_false (by omega)
    simp only [bk_72.2.2.2.2.2.2.1, mmE, mmE0, mmH, mT, mR, mRf, mAl, mAs, mAz, mAn, Int.reduceToNat, Int32.reduceOfInt, Int64.reduceOfInt, Int.reduceAdd, swE, Nat.reduceDiv, Nat.reduceMod, Nat.reduceAdd, Nat.reduceMul, Nat.reduceEqDiff, Nat.reduceLeDiff, Nat.zero_le, List.length_nil, List.length_cons, Nat.zero_add, true_or, or_true, false_or, or_false, true_and, and_true, and_self, mb_01, mb_t, mb_f, Option.toList_some, Option.toList_none, List.cons_append, List.nil_append, c_pointsOf, pointsOf_n (kd_lt f), c1, hc, c_partAt hp48 (show i < 6 by omega), nneg (show pc (prt (fp (m + 1) - 1)) i < 2 ^ 31 by omega), c2, ix6 (show pc (prt (fp (m + 1) - 1)) i < 6 by omega), true_implies, not_true_eq_false, not_false_eq_true, false_implies, and_true, true_and]
    rw [← nI_succ]
    refine w_ir3 hm w (i + 1) _ _ (by omega) (by omega) (by rw [mWI, if_neg (by decide)]; exact hc) (fun I' g1 g2 => ?_)
    refine K I' (fun k hk => ?_) (fun j hj => ?_)
    · rw [g1 k hk]
      funext q
      rw [mWI, if_neg hk]
    · rw [g2 j hj, List.range'_succ, List.any_cons, mWI, if_pos rfl, t2]
      by_cases q1 : ((List.range' (i + 1) w).any fun i => pc (rul m).2 i == j) = true
      · rw [if_pos q1, q1, Bool.or_true, if_pos rfl]
      · rw [if_neg q1, Bool.eq_false_iff.mpr q1, Bool.or_false]
        by_cases q2 : j = pc (rul m).2 i
        · rw [if_pos q2, if_pos (beq_iff_eq.mpr q2.symm)]
        · rw [if_neg q2, if_neg (fun q => q2 (beq_iff_eq.mp q).symm)]
/-- cells that a search may change -/
def sfr (I I' : mm_I) : Prop := (∀ k, k ≠ 122 → k ≠ 123 → k ≠ 125 → I' k = I k) ∧ ∀ j, j ≠ 8 → j ≠ 9 → I' 122 j = I 122 j
theorem sfr_rf : sfr I I := ⟨fun _ _ _ _ => rfl, fun _ _ _ => rfl⟩
theorem sfr_tr {I' I'' : mm_I} (h : sfr I I') (h' : sfr I' I'') : sfr I I'' := ⟨fun k a b c => (h'.1 k a b c).trans (h.1 k a b c), fun j a b => (h'.2 j a b).trans (h.2 j a b)⟩
theorem srep_fr {I' : mm_I} (h : srep I np f bl S ls) (g : sfr I I') : srep I' np f bl S ls := by
  obtain ⟨⟨a1, a2, a3, a4⟩, ⟨b1, b2, b3⟩, c, e⟩ := h
  refine ⟨⟨?_, ?_, ?_, ?_⟩, ⟨b1, b2, fun i hi => ?_⟩, rl_c (fun k _ _ => g.1 k (by omega) (by omega) (by omega)) c, e⟩
  · rw [g.2 _ (by decide) (by decide)]; exact a1
  · rw [g.2 _ (by decide) (by decide)]; exact a2
  · rw [g.2 _ (by decide) (by decide)]; exact a3
  · rw [g.2 _ (by decide) (by decide)]; exact a4
  · rw [g.1 _ (by decide) (by decide) (by decide)]; exact b3 i hi
theorem w_isRule {m : Nat} (hm : m < 17) (h : srep I np f bl S ls) (K1 : (rul m).2.1 = kd f → ∀ I', sfr I I' → I' 123 = I 123 → srep I' np f bl S ls → srul I' m → (∀ j, j < 6 → I' 125 j = alw m f j) → Q (some (.int 1)) I' J) (K0 : (rul m).2.1 ≠ kd f → ∀ I', sfr I I' → srep I' np f bl S ls → Q (some (.int 0)) I' J) : mm_call z (d + 4) 72 [.ref 122, .int (nI m)] I J Q := by
  obtain ⟨_, t2, t3, t4, _⟩ := tb_rul hm
  have hF := isP_F h.2.2.1.2.2.1 h.2.2.2.2
  have f1 := isF_lt hF
  have c1 : (nI (m + 1) < Int32.ofNat 18) = True := eq_true (nI_lt (b := 18) (by omega) (by decide))
  have ixa : ∀ x, x < 18 → vp_in (nI x) 18 = True ∧ (nI x).toNatClampNeg = x := fun x hx => ⟨eq_true (vp_in_nI hx (by decide)), nI_clamp (by omega)⟩
  have e1 : nI m + 1 = nI (m + 1) := (nI_succ m).symm
  have c4 : nI (fp (m + 1)) - 1 = nI (fp (m + 1) - 1) := by rw [show (1 : Int32) = nI 1 from rfl, nI_sub (by omega)]
  simp only [ce_72, bk_72.1, bk_72.2.2.1, mmE, mmE0, mmH, mT, mR, mRf, mAl, mAs, mAz, mAn, Int.reduceToNat, Int32.reduceOfInt, Int64.reduceOfInt, Int.reduceAdd, swE, Nat.reduceDiv, Nat.reduceMod, Nat.reduceAdd, Nat.reduceMul, Nat.reduceEqDiff, Nat.reduceLeDiff, Nat.zero_le, List.length_nil, List.length_cons, Nat.zero_add, true_or, or_true, false_or, or_false, true_and, and_true, and_self, mb_01, mb_t, mb_f, Option.toList_some, Option.toList_none, List.cons_append, List.nil_append, nneg (show m < 2 ^ 31 by omega), c1, e1, ixa m (by omega), ixa (m + 1) (by omega), tb_first m (by omega), tb_first (m + 1) (by omega), c4, true_implies, not_true_eq_false, not_false_eq_true, false_implies, and_true, true_and]
  have w0 : sfr I (mm_wI (mm_wI I 122 8 (nI (fp m))) 122 9 (nI (fp (m + 1) - 1))) := by
    refine ⟨fun k a _ _ => ?_, fun j a b => ?_⟩
    · funext q
      rw [mWI, if_neg a, mWI, if_neg a]
    · rw [mWI, if_pos rfl, if_neg b, mWI, if_pos rfl, if_neg a]
  have hr0 : srul (mm_wI (mm_wI I 122 8 (nI (fp m))) 122 9 (nI (fp (m + 1) - 1))) m := by
    refine ⟨?_, ?_⟩
    · rw [mWI, if_pos rfl, if_neg (by decide), mWI, if_pos rfl, if_pos rfl]
    · rw [mWI, if_pos rfl, if_pos rfl]
  have l0 : mm_wI (mm_wI I 122 8 (nI (fp m))) 122 9 (nI (fp (m + 1) - 1)) 123 = I 123 := by
    funext q
    rw [mWI, if_neg (by decide), mWI, if_neg (by decide)]
  generalize mm_wI (mm_wI I 122 8 (nI (fp m))) 122 9 (nI (fp (m + 1) - 1)) = I0 at w0 hr0 l0 ⊢
  have h0 := srep_fr h w0
  have hp48 : fp (m + 1) - 1 < 48 := by omega
  have cp := fun (z : mm_S) (d : Nat) => c_partAt (z := z) (d := d) (I := I0) (J := J) hp48 (show 0 < 6 by omega)
  rw [show nI 0 = 0 from rfl, show pc (prt (fp (m + 1) - 1)) 0 = (prt (fp (m + 1) - 1)).1 from rfl, t2] at cp
  have k7 := (tb_rul hm).2.2.2.2.2.1
  have ke : (nI (rul m).2.1 = nI (kd f)) = ((rul m).2.1 = kd f) := eq_nI (by omega) (by have := kd_lt f; omega)
  simp only [bk_72.2.2.2.1, mmE, mmE0, mmH, mT, mR, mRf, mAl, mAs, mAz, mAn, Int.reduceToNat, Int32.reduceOfInt, Int64.reduceOfInt, Int.reduceAdd, swE, Nat.reduceDiv, Nat.reduceMod, Nat.reduceAdd, Nat.reduceMul, Nat.reduceEqDiff, Nat.reduceLeDiff, Nat.zero_le, List.length_nil, List.length_cons, Nat.zero_add, true_or, or_true, false_or, or_false, true_and, and_true, and_self, mb_01, mb_t, mb_f, Option.toList_some, Option.toList_none, List.cons_append, List.nil_append, h0.1.2.1, c_kindOf, kind_n f1, hr0.2, cp, ke, z01]
  by_cases q : (rul m).2.1 = kd f
  · simp only [eq_true q, true_implies, not_true_eq_false, not_false_eq_true, false_implies, and_true, true_and]
    refine w_ir1 (z := z) (d := d) (m := m) hF h0.1.2.1 (kdN (kd f)) 0 0 (by omega) (fun o4 => ?_)
    simp only [bk_72.2.2.2.2.1, mmE, mmE0, mmH, mT, mR, mRf, mAl, mAs, mAz, mAn, Int.reduceToNat, Int32.reduceOfInt, Int64.reduceOfInt, Int.reduceAdd, swE, Nat.reduceDiv, Nat.reduceMod, Nat.reduceAdd, Nat.reduceMul, Nat.reduceEqDiff, Nat.reduceLeDiff, Nat.zero_le, List.length_nil, List.length_cons, Nat.zero_add, true_or, or_true, false_or, or_false, true_and, and_true, and_self, mb_01, mb_t, mb_f]
    refine w_ir2 (z := z) (d := d + 3) 6 0 I0 rfl (fun I1 o4 g1 _ g3 => ?_)
    simp only [bk_72.2.2.2.2.2.1, mmE, mmE0, mmH, mT, mR, mRf, mAl, mAs, mAz, mAn, Int.reduceToNat, Int32.reduceOfInt, Int64.reduceOfInt, Int.reduceAdd, swE, Nat.reduceDiv, Nat.reduceMod, Nat.reduceAdd, Nat.reduceMul, Nat.reduceEqDiff, Nat.reduceLeDiff, Nat.zero_le, List.length_nil, List.length_cons, Nat.zero_add, true_or, or_true, false_or, or_false, true_and, and_true, and_self, mb_01, mb_t, mb_f]
    refine w_ir3 (z := z) (d := d + 2) (f := f) hm (kdN (kd f)) 1 I1 _ (by omega) (by omega) (by rw [g1 _ (by decide)]; exact hr0.2) (fun I2 k1 k2 => ?_)
    have e2 : ∀ k, k ≠ 125 → I2 k = I0 k := fun k hk => (k1 k hk).trans (g1 k hk)
    have w2 : sfr I0 I2 := ⟨fun k _ _ c => e2 k c, fun j _ _ => by rw [e2 _ (by decide)]⟩
    refine K1 q I2 (sfr_tr w0 w2) ((e2 _ (by decide)).trans l0) (srep_fr h0 w2) ⟨by rw [e2 _ (by decide)]; exact hr0.1, by rw [e2 _ (by decide)]; exact hr0.2⟩ (fun j hj => ?_)
    rw [k2 j hj, g3 j (by omega) hj]
    rfl
  · simp only [q, true_implies, not_true_eq_false, not_false_eq_true, false_implies, and_true, true_and]
    exact K0 q I0 w0 h0
end IR
