/-! the reference grades all rows -/
theorem find_snoc1 {p : Nat → Bool} {w : Nat} : (List.range' 1 (w + 1)).find? p = match (List.range' 1 w).find? p with
  | some i => some i
  | none => if p (w + 1) = true then some (w + 1) else none := by
  rw [List.range'_1_concat, List.find?_append, Nat.add_comm 1 w]
  cases (List.range' 1 w).find? p with
  | some i => rfl
  | none =>
    show List.find? p [w + 1] = _
    rw [List.find?_cons, List.find?_nil]
    cases p (w + 1) <;> rfl
def gstM (I : mm_I) (s : st_T) (G : Nat → gr_T) (n : Nat) : Prop := shM I s ∧ gMs I (sNr s) G ∧ gfM I s ∧ lv2 I s G ∧ I 127 43 = nI n
section MD
variable {z : mm_S} {d : Nat} {J : mm_J} {s : st_T} {G : Nat → gr_T} {Q : Option Value → mm_I → mm_J → Prop}
theorem w_nx0 {I : mm_I} {more : Int32} (hv : va s) (h : shM I s) (hG : gMs I (sNr s) G) : ∀ (w : Nat) (cur : Int32), w ≤ sNr s → (∀ o3, mm_at z (mm_call z (d + 1)) (mm_code 167) Q 127 [some (.ref 127), some (.int more), some (.int (gsel ((List.range' 1 w).find? (grd (sNr s) (osS s) G)) cur)), o3] [] I J) → mm_at z (mm_call z (d + 1)) (mm_code 167) Q 103 [some (.ref 127), some (.int more), some (.int cur), some (.int (nI w))] [] I J
  | 0, cur, hw, K => by
    rw [hk_167_103]
    have c1 : (nI 0 ≤ 0) = True := by decide
    simp only [mmE, mmE0, mmH, mT, mR, mRf, mAl, mAs, mAz, mAn, Int.reduceToNat, Int32.reduceOfInt, Int64.reduceOfInt, Int.reduceAdd, swE, Nat.reduceDiv, Nat.reduceMod, Nat.reduceAdd, Nat.reduceMul, Nat.reduceEqDiff, Nat.reduceLeDiff, Nat.zero_le, List.length_nil, List.length_cons, Nat.zero_add, true_or, or_true, false_or, or_false, true_and, and_true, and_self, mb_01, mb_t, mb_f, c1, true_implies, not_true_eq_false, not_false_eq_true, false_implies, and_true, true_and]
    exact K _
  | w + 1, cur, hw, K => by
    have v3 := hv.1.2.2.1
    rw [hk_167_103]
    have c1 : (nI (w + 1) ≤ 0) = False := by rw [show (0 : Int32) = nI 0 from rfl, le_nI (by omega) (by omega)]; exact eq_false (by omega)
    have e1 : nI (w + 1) + -1 = nI w := by rw [pdm, pd1]
    simp only [bk_167.2.2.2.1, bk_167.2.2.2.2.1, mmE, mmE0, mmH, mT, mR, mRf, mAl, mAs, mAz, mAn, Int.reduceToNat, Int32.reduceOfInt, Int64.reduceOfInt, Int.reduceAdd, swE, Nat.reduceDiv, Nat.reduceMod, Nat.reduceAdd, Nat.reduceMul, Nat.reduceEqDiff, Nat.reduceLeDiff, Nat.zero_le, List.length_nil, List.length_cons, Nat.zero_add, true_or, or_true, false_or, or_false, true_and, and_true, and_self, mb_01, mb_t, mb_f, Option.toList_some, Option.toList_none, List.cons_append, List.nil_append, c1, c_may (show 1 ≤ w + 1 by omega) hw hv h hG, mb_0, e1, true_implies, not_true_eq_false, not_false_eq_true, false_implies, and_true, true_and]
    have key := fun cur' => w_nx0 (more := more) hv h hG w cur' (by omega)
    have eF := find_snoc1 (p := grd (sNr s) (osS s) G) (w := w)
    cases eg : grd (sNr s) (osS s) G (w + 1) with
    | false =>
      rw [eg, if_neg (by decide)] at eF
      simp only [true_implies, not_true_eq_false, not_false_eq_true, false_implies, and_true, true_and]
      refine key cur (fun o3 => ?_)
      have := K o3
      rw [eF] at this
      cases e2 : (List.range' 1 w).find? (grd (sNr s) (osS s) G) with
      | none => rw [e2] at this; exact this
      | some i => rw [e2] at this; exact this
    | true =>
      rw [eg, if_pos rfl] at eF
      simp only [Bool.true_eq_false, true_implies, not_true_eq_false, not_false_eq_true, false_implies, and_true, true_and]
      refine key (nI (w + 1)) (fun o3 => ?_)
      have := K o3
      rw [eF] at this
      cases e2 : (List.range' 1 w).find? (grd (sNr s) (osS s) G) with
      | none => rw [e2] at this; exact this
      | some i => rw [e2] at this; exact this
/-- what grading may change -/
def fN (I I' : mm_I) : Prop := (∀ k, k ≠ 127 → k ≠ 136 → k ≠ 137 → (k < 150 ∨ 156 < k) → I' k = I k) ∧ ∀ j, j ≠ 47 → j ≠ 43 → j ≠ 44 → j ≠ 37 → I' 127 j = I 127 j
theorem fN_tr {I I' I'' : mm_I} (h : fN I I') (h' : fN I' I'') : fN I I'' := ⟨fun k a b c e => (h'.1 k a b c e).trans (h.1 k a b c e), fun j a b c e => (h'.2 j a b c e).trans (h.2 j a b c e)⟩
theorem fN_rf {I : mm_I} : fN I I := ⟨fun _ _ _ _ _ => rfl, fun _ _ _ _ _ => rfl⟩
theorem fN_M {I I' : mm_I} {r : Nat} (h : fM I I' r) : fN I I' := ⟨fun k a b c e => h.1 k a b c (by omega), fun j a b _ _ => h.2.1 j a b⟩
theorem shM_N {I I' : mm_I} (h : shM I s) (g : fN I I') : shM I' s := by
  obtain ⟨⟨a1, a2, a3⟩, b, c, e⟩ := h
  refine ⟨⟨?_, ?_, ?_⟩, mfigs_c (g.1 _ (by decide) (by decide) (by decide) (by decide)) (g.1 _ (by decide) (by decide) (by decide) (by decide)) (g.1 _ (by decide) (by decide) (by decide) (by decide)) b, fun r r1 r2 => mrow_c (fun k _ _ => g.1 k (by omega) (by omega) (by omega) (by omega)) (c r r1 r2), mtab_c (fun k _ _ => g.1 k (by omega) (by omega) (by omega) (by omega)) (fun k _ _ => by rw [g.1 k (by omega) (by omega) (by omega) (by omega)]) e⟩
  · rw [g.2 _ (by decide) (by decide) (by decide) (by decide)]; exact a1
  · rw [g.2 _ (by decide) (by decide) (by decide) (by decide)]; exact a2
  · rw [g.2 _ (by decide) (by decide) (by decide) (by decide)]; exact a3
theorem gX_b {r t : Nat} (ht : t ≤ 40) (h1 : 1 ≤ t) : (gXS s G t r).1 ≤ 40 ∧ (gXS s G t r).2.1 ≤ 2 ∧ ((gXS s G t r).1 = 0 → (gXS s G t r).2.1 = 0) := by
  refine ⟨ht, ?_, fun q => ?_⟩
  · show (if wyS s G r = 0 then (if agS s (sR s r).1 = none then 2 else 0) else 1) ≤ 2
    split
    · split <;> omega
    · omega
  · have : t = 0 := q
    omega
theorem w_mg_loop (hv : va s) : ∀ (w n : Nat) (I : mm_I) (o2 o3 : Option Value), n + w = sNr s → gstM I s (gsS s n) n → (∀ I' o2 o3, fN I I' → shM I' s → gMs I' (sNr s) (gsS s (sNr s)) → mm_at z (mm_call z (d + 10)) (mm_code 167) Q 149 [some (.ref 127), some (.int 0), o2, o3] [] I' J) → mm_at z (mm_call z (d + 10)) (mm_code 167) Q 92 [some (.ref 127), some (.int 1), o2, o3] [] I J
  | w, n, I, o2, o3, hn, hs, K => by
    have v3 := hv.1.2.2.1
    obtain ⟨h, hG, hg, hl, ho⟩ := hs
    have e10 : ((1 : Int32) = 0) = False := by decide
    rw [hk_167_92]
    simp only [mmE, mmE0, mmH, mT, mR, mRf, mAl, mAs, mAz, mAn, Int.reduceToNat, Int32.reduceOfInt, Int64.reduceOfInt, Int.reduceAdd, swE, Nat.reduceDiv, Nat.reduceMod, Nat.reduceAdd, Nat.reduceMul, Nat.reduceEqDiff, Nat.reduceLeDiff, Nat.zero_le, List.length_nil, List.length_cons, Nat.zero_add, true_or, or_true, false_or, or_false, true_and, and_true, and_self, mb_01, mb_t, mb_f, e10, h.1.2.2, true_implies, not_true_eq_false, not_false_eq_true, false_implies, and_true, true_and]
    refine w_nx0 (z := z) (d := d + 9) hv h hG (sNr s) 0 (Nat.le_refl _) (fun o3 => ?_)
    have eN : (List.range' 1 (sNr s)).find? (grd (sNr s) (osS s) (gsS s n)) = gnx (sNr s) (osS s) (gsS s n) := rfl
    rw [eN]
    cases e : gnx (sNr s) (osS s) (gsS s n) with
    | none =>
      have c1 : ((0 : Int32) ≤ 0) = True := by decide
      simp only [gsel, bk_167.2.2.2.2.2.1, bk_167.2.2.2.2.2.2.1, bk_167.2.2.2.2.2.2.2.1, bk_167.2.2.2.2.2.2.2.2.1, mmE, mmE0, mmH, mT, mR, mRf, mAl, mAs, mAz, mAn, Int.reduceToNat, Int32.reduceOfInt, Int64.reduceOfInt, Int.reduceAdd, swE, Nat.reduceDiv, Nat.reduceMod, Nat.reduceAdd, Nat.reduceMul, Nat.reduceEqDiff, Nat.reduceLeDiff, Nat.zero_le, List.length_nil, List.length_cons, Nat.zero_add, true_or, or_true, false_or, or_false, true_and, and_true, and_self, mb_01, mb_t, mb_f, c1, true_implies, not_true_eq_false, not_false_eq_true, false_implies, and_true, true_and]
      rw [hk_167_92]
      simp only [mmE, mmE0, mmH, mT, mR, mRf, mAl, mAs, mAz, mAn, Int.reduceToNat, Int32.reduceOfInt, Int64.reduceOfInt, Int.reduceAdd, swE, Nat.reduceDiv, Nat.reduceMod, Nat.reduceAdd, Nat.reduceMul, Nat.reduceEqDiff, Nat.reduceLeDiff, Nat.zero_le, List.length_nil, List.length_cons, Nat.zero_add, true_or, or_true, false_or, or_false, true_and, and_true, and_self, mb_01, mb_t, mb_f, true_implies, not_true_eq_false, not_false_eq_true, false_implies, and_true, true_and]
      have st := grs_stay (X := gXS s) e (sNr s - n)
      rw [show n + (sNr s - n) = sNr s by omega] at st
      have st' : gsS s (sNr s) = gsS s n := st
      rw [st'] at K
      exact K I _ _ fN_rf h hG
    | some r =>
      obtain ⟨r1, r2, _, r4, _⟩ := gnx_some e
      cases w with
      | zero =>
        exfalso
        have := grs_end (nr := sNr s) (os := osS s) (X := gXS s) (fun _ _ _ => rfl)
        rw [show n = sNr s by omega] at e
        have e' : gnx (sNr s) (osS s) (grs (sNr s) (osS s) (gXS s) (sNr s)) = some r := e
        rw [this] at e'
        cases e'
      | succ w =>
        have h0 : gsS s n r = gr0 := ((grs_inv (nr := sNr s) (os := osS s) (X := gXS s) (fun _ _ _ => rfl) n r).2.1) r4
        have c1 : (nI r ≤ 0) = False := by rw [show (0 : Int32) = nI 0 from rfl, le_nI (by omega) (by omega)]; exact eq_false (by omega)
        simp only [gsel, bk_167.2.2.2.2.2.1, bk_167.2.2.2.2.2.2.2.1, mmE, mmE0, mmH, mT, mR, mRf, mAl, mAs, mAz, mAn, Int.reduceToNat, Int32.reduceOfInt, Int64.reduceOfInt, Int.reduceAdd, swE, Nat.reduceDiv, Nat.reduceMod, Nat.reduceAdd, Nat.reduceMul, Nat.reduceEqDiff, Nat.reduceLeDiff, Nat.zero_le, List.length_nil, List.length_cons, Nat.zero_add, true_or, or_true, false_or, or_false, true_and, and_true, and_self, mb_01, mb_t, mb_f, c1, e10, true_implies, not_true_eq_false, not_false_eq_true, false_implies, and_true, true_and]
        refine w_gradeRow r1 r2 (show n < 40 by omega) h0 hv h hG hg hl ho (fun I1 k1 k2 k3 k4 => ?_)
        simp only [bk_167.2.2.2.2.2.2.2.2.1, mmE, mmE0, mmH, mT, mR, mRf, mAl, mAs, mAz, mAn, Int.reduceToNat, Int32.reduceOfInt, Int64.reduceOfInt, Int.reduceAdd, swE, Nat.reduceDiv, Nat.reduceMod, Nat.reduceAdd, Nat.reduceMul, Nat.reduceEqDiff, Nat.reduceLeDiff, Nat.zero_le, List.length_nil, List.length_cons, Nat.zero_add, true_or, or_true, false_or, or_false, true_and, and_true, and_self, mb_01, mb_t, mb_f, Option.toList_some, Option.toList_none, List.cons_append, List.nil_append]
        have eS : gsS s (n + 1) = gup (gsS s n) r (gXS s (gsS s n) (n + 1) r) := grs_some (X := gXS s) e
        rw [← eS] at k4
        refine w_mg_loop hv w (n + 1) I1 _ _ (by omega) ⟨shM_M h k1, fun q a b => ?_, gfM_M hg k1, k4, k3⟩ (fun I2 o2 o3 m1 m2 m3 => K I2 o2 o3 (fN_tr (fN_M k1) m1) m2 m3)
        rw [eS, gup_at]
        by_cases eq : q = r
        · rw [if_pos eq, eq]
          exact ⟨k2, gX_b (by omega) (by omega)⟩
        · rw [if_neg eq]
          refine ⟨?_, (hG q a b).2⟩
          unfold gM
          rw [k1.2.2 _ q (by decide) (by decide) eq, k1.2.2 _ q (by decide) (by decide) eq, k1.2.2 _ q (by decide) (by decide) eq, k1.2.2 _ q (by decide) (by decide) eq, k1.2.2 _ q (by decide) (by decide) eq]
          exact (hG q a b).1
theorem w_gfm_loop (hv : va s) : ∀ (w i : Nat) (I : mm_I) (o2 o3 : Option Value), i + w = sNf s → shM I s → (∀ f, f < i → I 156 f = mb (gfS s f)) → (∀ I' o1, (∀ k, k ≠ 156 → I' k = I k) → gfM I' s → mm_at z (mm_call z (d + 5)) (mm_code 167) Q 38 [some (.ref 127), o1, o2, o3] [] I' J) → mm_at z (mm_call z (d + 5)) (mm_code 167) Q 13 [some (.ref 127), some (.int (nI i)), o2, o3] [] I J
  | 0, i, I, o2, o3, hi, h, hf, K => by
    have v2 := hv.1.2.1
    rw [hk_167_13]
    have c1 : (nI (sNf s) ≤ nI i) = True := by rw [le_nI (by omega) (by omega)]; exact eq_true (by omega)
    simp only [mmE, mmE0, mmH, mT, mR, mRf, mAl, mAs, mAz, mAn, Int.reduceToNat, Int32.reduceOfInt, Int64.reduceOfInt, Int.reduceAdd, swE, Nat.reduceDiv, Nat.reduceMod, Nat.reduceAdd, Nat.reduceMul, Nat.reduceEqDiff, Nat.reduceLeDiff, Nat.zero_le, List.length_nil, List.length_cons, Nat.zero_add, true_or, or_true, false_or, or_false, true_and, and_true, and_self, mb_01, mb_t, mb_f, h.1.2.1, c1, true_implies, not_true_eq_false, not_false_eq_true, false_implies, and_true, true_and]
    exact K I _ (fun _ _ => rfl) (fun f hf' => hf f (by omega))
  | w + 1, i, I, o2, o3, hi, h, hf, K => by
    have v2 := hv.1.2.1
    rw [hk_167_13]
    have c1 : (nI (sNf s) ≤ nI i) = False := by rw [le_nI (by omega) (by omega)]; exact eq_false (by omega)
    simp only [mmE, mmE0, mmH, mT, mR, mRf, mAl, mAs, mAz, mAn, Int.reduceToNat, Int32.reduceOfInt, Int64.reduceOfInt, Int.reduceAdd, swE, Nat.reduceDiv, Nat.reduceMod, Nat.reduceAdd, Nat.reduceMul, Nat.reduceEqDiff, Nat.reduceLeDiff, Nat.zero_le, List.length_nil, List.length_cons, Nat.zero_add, true_or, or_true, false_or, or_false, true_and, and_true, and_self, mb_01, mb_t, mb_f, Option.toList_some, Option.toList_none, List.cons_append, List.nil_append, h.1.2.1, c1, c_mIsGood (show i < sNf s by omega) hv h, ix6 (show i < 6 by omega), mb_01, true_implies, not_true_eq_false, not_false_eq_true, false_implies, and_true, true_and]
    rw [← nI_succ]
    have fw : fN I (mm_wI I 156 i (mb (gfS s i))) := ⟨fun k _ _ _ e => by funext t; rw [mWI, if_neg (by omega)], fun j _ _ _ _ => by rw [mWI, if_neg (by decide)]⟩
    refine w_gfm_loop hv w (i + 1) _ _ _ (by omega) (shM_N h fw) (fun f hf' => ?_) (fun I' o1 k1 k2 => K I' o1 (fun k hk => ?_) k2)
    · rw [mWI, if_pos rfl]
      by_cases e : f = i
      · rw [if_pos e, e]
      · rw [if_neg e]; exact hf f (by omega)
    · rw [k1 k hk]; funext t; rw [mWI, if_neg hk]
theorem w_rst_loop (hv : va s) : ∀ (w r : Nat) (I : mm_I) (o2 o3 : Option Value), 1 ≤ r → r + w = sNr s + 1 → shM I s → (∀ q, 1 ≤ q → q < r → gM I q gr0) → (∀ I' o1, (∀ k, (k < 150 ∨ 154 < k) → I' k = I k) → (∀ q, 1 ≤ q → q ≤ sNr s → gM I' q gr0) → mm_at z (mm_call z d) (mm_code 167) Q 90 [some (.ref 127), o1, o2, o3] [] I' J) → mm_at z (mm_call z d) (mm_code 167) Q 40 [some (.ref 127), some (.int (nI r)), o2, o3] [] I J
  | 0, r, I, o2, o3, h1, hr, h, hg, K => by
    have v3 := hv.1.2.2.1
    rw [hk_167_40]
    have c1 : (nI (sNr s) < nI r) = True := by rw [lt_nI (by omega) (by omega)]; exact eq_true (by omega)
    simp only [mmE, mmE0, mmH, mT, mR, mRf, mAl, mAs, mAz, mAn, Int.reduceToNat, Int32.reduceOfInt, Int64.reduceOfInt, Int.reduceAdd, swE, Nat.reduceDiv, Nat.reduceMod, Nat.reduceAdd, Nat.reduceMul, Nat.reduceEqDiff, Nat.reduceLeDiff, Nat.zero_le, List.length_nil, List.length_cons, Nat.zero_add, true_or, or_true, false_or, or_false, true_and, and_true, and_self, mb_01, mb_t, mb_f, h.1.2.2, c1, true_implies, not_true_eq_false, not_false_eq_true, false_implies, and_true, true_and]
    exact K I _ (fun _ _ => rfl) (fun q a b => hg q a (by omega))
  | w + 1, r, I, o2, o3, h1, hr, h, hg, K => by
    have v3 := hv.1.2.2.1
    rw [hk_167_40]
    have c1 : (nI (sNr s) < nI r) = False := by rw [lt_nI (by omega) (by omega)]; exact eq_false (by omega)
    simp only [mmE, mmE0, mmH, mT, mR, mRf, mAl, mAs, mAz, mAn, Int.reduceToNat, Int32.reduceOfInt, Int64.reduceOfInt, Int.reduceAdd, swE, Nat.reduceDiv, Nat.reduceMod, Nat.reduceAdd, Nat.reduceMul, Nat.reduceEqDiff, Nat.reduceLeDiff, Nat.zero_le, List.length_nil, List.length_cons, Nat.zero_add, true_or, or_true, false_or, or_false, true_and, and_true, and_self, mb_01, mb_t, mb_f, h.1.2.2, c1, ix41 (show r < 41 by omega), true_implies, not_true_eq_false, not_false_eq_true, false_implies, and_true, true_and]
    rw [← nI_succ]
    have fw : fM I (mm_wI (mm_wI (mm_wI (mm_wI (mm_wI I 154 r 0) 150 r 0) 151 r 0) 152 r 0) 153 r (-5)) r := fM_tr (fM_a (by decide)) (fM_tr (fM_a (by decide)) (fM_tr (fM_a (by decide)) (fM_tr (fM_a (by decide)) (fM_a (by decide)))))
    refine w_rst_loop hv w (r + 1) _ _ _ (by omega) (by omega) (shM_M h fw) (fun q a b => ?_) (fun I' o1 k1 k2 => K I' o1 (fun k hk => ?_) k2)
    · by_cases e : q = r
      · rw [e]
        refine ⟨?_, ?_, ?_, ?_, ?_⟩
        · simp [mWI, gr0]; rfl
        · simp [mWI, gr0]; rfl
        · simp [mWI, gr0]; rfl
        · simp [mWI, gr0]; rfl
        · simp [mWI, gr0]
      · unfold gM
        rw [fw.2.2 _ q (by decide) (by decide) e, fw.2.2 _ q (by decide) (by decide) e, fw.2.2 _ q (by decide) (by decide) e, fw.2.2 _ q (by decide) (by decide) e, fw.2.2 _ q (by decide) (by decide) e]
        exact hg q a (by omega)
    · rw [k1 k hk]
      funext t
      rw [mWI, if_neg (by omega), mWI, if_neg (by omega), mWI, if_neg (by omega), mWI, if_neg (by omega), mWI, if_neg (by omega)]
end MD
