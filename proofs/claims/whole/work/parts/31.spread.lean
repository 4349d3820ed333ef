/-! what holds of a state and is kept by every offer of a level is kept by the use of a fact -/
theorem fold_ind {α β : Type} {P : α → Prop} {f : α → β → α} (h : ∀ S b, P S → P (f S b)) : ∀ (l : List β) (S : α), P S → P (l.foldl f S)
  | [], _, q => q
  | b :: t, S, q => fold_ind h t (f S b) (h S b q)
theorem al_use_ind {P : al_S → Prop} {np now f : Nat} (hs : ∀ S o c, P S → P (al_try S now o c)) {S : al_S} (h : P S) : P (al_use np now f S) := by
  have h2 : ∀ S o c1 c2, P S → P (al_two S now o c1 c2) := fun S o c1 c2 q => hs _ _ _ (hs _ _ _ q)
  have hch : ∀ p q via gives S, P S → P (al_ch np now p q via gives S) := fun p q via gives S q0 => fold_ind (fun S r q1 => hs _ _ _ q1) _ _ q0
  have hsl : ∀ base p q S, P S → P (al_sl np now base p q S) := fun base p q S q0 => fold_ind (fun S r q1 => h2 _ _ _ _ q1) _ _ q0
  have hom : ∀ m p ab S, P S → P (al_om now m p ab S) := fun m p ab S q0 => hs _ _ _ q0
  unfold al_use
  split
  · refine fold_ind (fun S c q => ?_) _ _ h
    unfold al_line
    split
    · refine fold_ind (fun S c q => ?_) _ _ q
      unfold al_len
      split
      · exact q
      · exact h2 _ _ _ _ q
    · exact fold_ind (fun S c q => h2 _ _ _ _ q) _ _ (fold_ind (fun S c q => h2 _ _ _ _ q) _ _ (hs _ _ _ q))
  split
  · unfold al_par
    dsimp only
    split
    · exact hs _ _ _ (hsl _ _ _ _ (hsl _ _ _ _ (hch _ _ _ _ _ (hch _ _ _ _ _ (hch _ _ _ _ _ (hch _ _ _ _ _ h))))))
    · exact hsl _ _ _ _ (hsl _ _ _ _ (hch _ _ _ _ _ (hch _ _ _ _ _ (hch _ _ _ _ _ (hch _ _ _ _ _ h)))))
  split
  · unfold al_perp
    exact hom _ _ _ _ (hom _ _ _ _ (hom _ _ _ _ (hom _ _ _ _ (hsl _ _ _ _ (hsl _ _ _ _ (hch _ _ _ _ _ (hch _ _ _ _ _ (hch _ _ _ _ _ (hch _ _ _ _ _ h)))))))))
  split
  · have hr : ∀ o a b S, P S → P ((List.range' 0 np).foldl (al_rounds np now o a b) S) := by
      intro o a b S q0
      refine fold_ind (fun S c q => ?_) _ _ q0
      unfold al_rounds
      split
      · exact fold_ind (fun S c q => hs _ _ _ q) _ _ q
      · exact q
    unfold al_eq
    dsimp only
    split
    · exact hch _ _ _ _ _ (hch _ _ _ _ _ h)
    · exact hr _ _ _ _ (hr _ _ _ _ (fold_ind (fun S c q => hs _ _ _ q) _ _ (hs _ _ _ (hch _ _ _ _ _ (hch _ _ _ _ _ h)))))
  split
  · have hj : ∀ m a b S, P S → P ((List.range' 0 np).foldl (al_joins np now m a b) S) := by
      intro m a b S q0
      refine fold_ind (fun S c q => ?_) _ _ q0
      exact fold_ind (fun S c q => hs _ _ _ q) _ _ q
    unfold al_mid
    exact fold_ind (fun S c q => hs _ _ _ q) _ _ (hj _ _ _ _ (hj _ _ _ _ (hs _ _ _ (hs _ _ _ h))))
  split
  · refine fold_ind (fun S c q => ?_) _ _ h
    unfold al_c1
    split
    · exact q
    · refine fold_ind (fun S c q => ?_) _ _ q
      unfold al_c2
      split
      · exact q
      · split
        · refine fold_ind (fun S c q => ?_) _ _ q
          unfold al_c3
          split
          · exact hs _ _ _ q
          · exact q
        · exact q
  · exact hs _ _ _ h
/-- the use of a fact at a level leaves the rows of that level and of those below -/
theorem al_use_que {np now f : Nat} {S : al_S} {k : Nat} (hk : k ≤ now) : (al_use np now f S).2 k = S.2 k := by
  refine al_use_ind (P := fun T => T.2 k = S.2 k) (fun T o c q => ?_) rfl
  unfold al_try
  split
  · unfold al_offer
    split
    · exact q
    · split
      · dsimp only
        split
        · show (if k = 1 + max now o then _ else T.2 k) = _
          rw [if_neg (by omega)]
          exact q
        · exact q
      · exact q
  · exact q
def al_sps (np n : Nat) (S : al_S) (f : Nat) : al_S := if S.1 f = n then al_use np n f S else S
def al_sp1 (np : Nat) (S : al_S) (n : Nat) : al_S := (((S.2 n).foldl (al_sps np n) S).1, al_up ((S.2 n).foldl (al_sps np n) S).2 n [])
def al_spread (np depth : Nat) (S : al_S) : al_S := (List.range' 0 depth).foldl (al_sp1 np) S
theorem al_sps_que {np n f : Nat} {S : al_S} {k : Nat} (hk : k ≤ n) : (al_sps np n S f).2 k = S.2 k := by
  unfold al_sps
  split
  · exact al_use_que hk
  · rfl
/-- what spread may change -/
def rs_fr (I I' : mm_I) : Prop := (∀ j, j ≠ 5 → I' 113 j = I 113 j) ∧ ∀ k, k < 113 ∨ 121 < k → I' k = I k
theorem rs_fr_rf {I : mm_I} : rs_fr I I := ⟨fun _ _ => rfl, fun _ _ => rfl⟩
theorem rs_fr_tr {I I' I'' : mm_I} (h : rs_fr I I') (h' : rs_fr I' I'') : rs_fr I I'' := ⟨fun j hj => (h'.1 j hj).trans (h.1 j hj), fun k hk => (h'.2 k hk).trans (h.2 k hk)⟩
theorem rl_rs {I I' : mm_I} (h : rl_fr I I') : rs_fr I I' := ⟨fun j _ => by rw [h.1], fun k hk => h.2 k (by rcases hk with q | q; exact Or.inl (by omega); exact Or.inr q)⟩
section LJ
variable {z : mm_S} {d : Nat} {I : mm_I} {J : mm_J} {np : Nat} {S : al_S} {Q : Option Value → mm_I → mm_J → Prop}
theorem rl_now (h : rl_rep I np S) (x : Int32) : rl_rep (mm_wI I 113 5 x) np S := by
  obtain ⟨h1, h2, h3, h4, h5⟩ := h
  refine ⟨?_, ?_, h3, fun f hf => ?_, fun l hl => ?_⟩
  · rw [mWI, if_pos rfl, if_neg (by decide)]
    exact h1
  · rw [mWI, if_pos rfl, if_neg (by decide)]
    exact h2
  · rw [mWI, if_neg (by decide)]
    exact h4 f hf
  · obtain ⟨g1, g2, g3, g4⟩ := h5 l hl
    refine ⟨by rw [mWI, if_neg (by decide)]; exact g1, g2, g3, fun i f hi => ?_⟩
    rw [mWI, if_neg (by omega)]
    exact g4 i f hi
theorem rl_wipe (h : rl_rep I np S) {n : Nat} (hn : n < 5) : rl_rep (mm_wI I 121 n 0) np (S.1, al_up S.2 n []) := by
  obtain ⟨h1, h2, h3, h4, h5⟩ := h
  refine ⟨?_, ?_, h3, fun f hf => ?_, fun l hl => ?_⟩
  · rw [mWI, if_neg (by decide)]
    exact h1
  · rw [mWI, if_neg (by decide)]
    exact h2
  · rw [mWI, if_neg (by decide)]
    exact h4 f hf
  · obtain ⟨g1, g2, g3, g4⟩ := h5 l hl
    dsimp only
    by_cases e : l = n
    · subst e
      rw [show al_up S.2 l [] l = [] from if_pos rfl]
      refine ⟨by rw [mWI, if_pos rfl, if_pos rfl]; rfl, by simp, fun f hf => (by cases hf), fun i f hi => (by simp at hi)⟩
    · rw [show al_up S.2 n [] l = S.2 l from if_neg e]
      refine ⟨by rw [mWI, if_pos rfl, if_neg e]; exact g1, g2, g3, fun i f hi => ?_⟩
      rw [mWI, if_neg (by omega)]
      exact g4 i f hi
theorem w_sp_in {n : Nat} {dep : Value} (hn5 : n < 5) : ∀ (l : List Nat) (i : Nat) (S : al_S) (I : mm_I) (o4 : Option Value), (S.2 n).drop i = l → i ≤ (S.2 n).length → rl_rep I np S → I 113 5 = nI n → (∀ I' o3 o4, rl_rep I' np (l.foldl (al_sps np n) S) → (l.foldl (al_sps np n) S).2 n = S.2 n → rs_fr I I' → mm_at z (mm_call z (d + 4)) (mm_code 33) Q 68 [some (.ref 113), some dep, some (.int (nI n)), o3, o4] [] I' J) →
    mm_at z (mm_call z (d + 4)) (mm_code 33) Q 19 [some (.ref 113), some dep, some (.int (nI n)), some (.int (nI i)), o4] [] I J := by
  have t1 : (nI n).toNatClampNeg = n := nI_clamp (by omega)
  have t2 : vp_in (nI n) 5 = True := eq_true (vp_in_nI hn5 (by decide))
  obtain ⟨t3, t4⟩ := mTq n hn5
  intro l
  induction l with
  | nil =>
    intro i S I o4 hl hi h hn k
    have hk := k I (some (.int (nI i))) o4 h rfl rs_fr_rf
    obtain ⟨g1, g2, g3, g4⟩ := h.2.2.2.2 n hn5
    have hlen : (S.2 n).length ≤ i := List.drop_eq_nil_iff.mp hl
    have hcap : (S.2 n).length ≤ 910 := by
      have h3 := nd_le (m := al_facts) g2 (fun x hx => List.mem_filter.mpr ⟨List.mem_range.mpr (isF_lt (g3 x hx).1), (g3 x hx).1⟩)
      rw [al_facts_len] at h3
      exact h3
    have e1 : (nI (S.2 n).length ≤ nI i) = True := eq_true (nI_le hlen (by omega))
    rw [hk_33_19]
    simp only [t1, t2, g1, e1, true_implies, not_true_eq_false, false_implies, mmE, mmE0, mmH, mT, mR, mRf, mAl, mAs, mAz, mAn, Int.reduceToNat, Int32.reduceOfInt, Int64.reduceOfInt, Int.reduceAdd, swE, Nat.reduceDiv, Nat.reduceMod, Nat.reduceAdd, Nat.reduceMul, Nat.reduceEqDiff, Nat.reduceLeDiff, Nat.zero_le, List.length_nil, List.length_cons, Nat.zero_add, true_or, or_true, false_or, or_false, true_and, and_true, and_self, mb_01, mb_t, mb_f]
    exact hk
  | cons f l ih =>
    intro i S I o4 hl hi h hn k
    obtain ⟨g1, g2, g3, g4⟩ := h.2.2.2.2 n hn5
    have hlt : i < (S.2 n).length := by
      rcases Nat.lt_or_ge i (S.2 n).length with q | q
      · exact q
      · rw [List.drop_eq_nil_iff.mpr q] at hl
        cases hl
    have hget : (S.2 n)[i]? = some f := by
      have := List.getElem?_drop (xs := S.2 n) (i := i) (j := 0)
      rw [hl] at this
      simpa using this.symm
    have hdrop : (S.2 n).drop (i + 1) = l := by
      have := congrArg (List.drop 1) hl
      rw [List.drop_drop] at this
      simpa [Nat.add_comm] using this
    have hcap : (S.2 n).length ≤ 910 := by
      have h3 := nd_le (m := al_facts) g2 (fun x hx => List.mem_filter.mpr ⟨List.mem_range.mpr (isF_lt (g3 x hx).1), (g3 x hx).1⟩)
      rw [al_facts_len] at h3
      exact h3
    have hF : isF f = true := (g3 f (List.mem_of_getElem? hget)).1
    have hf := isF_lt hF
    have hq := g4 i f hget
    have e1 : (nI (S.2 n).length ≤ nI i) = False := eq_false (nI_ge hlt (by omega))
    have e2 : ((910 : Int32) ≤ nI i) = False := eq_false (nI_ge (b := 910) (by omega) (by decide))
    have t5 : (nI i).toNatClampNeg = i := nI_clamp (by omega)
    have t6 : vp_in (nI i) 910 = True := eq_true (vp_in_nI (by omega) (by decide))
    have cat := fun QQ => c_at (z := z) (d := d + 3) (J := J) (f := some f) h (fun x e => by cases e; exact hf) QQ
    rw [eI_some] at cat
    have e3 : nI i + 1 = nI (i + 1) := (nI_succ i).symm
    have h6 := (h.2.2.2.1 f hf).2
    have e4 : (nI (al_at S (some f)) = nI n) = (S.1 f = n) := eq_nI (a := S.1 f) (by omega) (by omega)
    have hk2 : ∀ I1, rl_rep I1 np (al_sps np n S f) → rl_fr I I1 → ∀ o4, mm_at z (mm_call z (d + 4)) (mm_code 33) Q 19 [some (.ref 113), some dep, some (.int (nI n)), some (.int (nI (i + 1))), o4] [] I1 J := by
      intro I1 h1 fr1 o4
      have hqu : (al_sps np n S f).2 n = S.2 n := al_sps_que (Nat.le_refl n)
      refine ih (i + 1) _ I1 o4 (by rw [hqu]; exact hdrop) (by rw [hqu]; omega) h1 (by rw [fr1.1]; exact hn) (fun I' o3 o4 h2 hq2 fr2 => k I' o3 o4 h2 (hq2.trans hqu) (rs_fr_tr (rl_rs fr1) fr2))
    rw [hk_33_19]
    simp only [bk_33.2.1, t1, t2, t3, t4, t5, t6, g1, e1, e2, hq, cat, e4, e3, mRf, true_implies, not_true_eq_false, false_implies, not_false_eq_true, mmE, mmE0, mmH, mT, mR, mRf, mAl, mAs, mAz, mAn, Int.reduceToNat, Int32.reduceOfInt, Int64.reduceOfInt, Int.reduceAdd, swE, Nat.reduceDiv, Nat.reduceMod, Nat.reduceAdd, Nat.reduceMul, Nat.reduceEqDiff, Nat.reduceLeDiff, Nat.zero_le, List.length_nil, List.length_cons, Nat.zero_add, true_or, or_true, false_or, or_false, true_and, and_true, and_self, mb_01, mb_t, mb_f]
    refine ⟨fun q => ?_, fun q => ?_⟩
    · refine hk2 I ?_ ⟨rfl, fun _ _ => rfl⟩ _
      unfold al_sps
      rw [if_neg q]
      exact h
    · refine w_use hF (by omega) h hn (fun I1 h1 fr1 => ?_)
      simp only [bk_33.2.1, e3, mmE, mmE0, mmH, mT, mR, mRf, mAl, mAs, mAz, mAn, Int.reduceToNat, Int32.reduceOfInt, Int64.reduceOfInt, Int.reduceAdd, swE, Nat.reduceDiv, Nat.reduceMod, Nat.reduceAdd, Nat.reduceMul, Nat.reduceEqDiff, Nat.reduceLeDiff, Nat.zero_le, List.length_nil, List.length_cons, Nat.zero_add, true_or, or_true, false_or, or_false, true_and, and_true, and_self, mb_01, mb_t, mb_f]
      refine hk2 I1 ?_ fr1 _
      unfold al_sps
      rw [if_pos q]
      exact h1
theorem w_sp_out {dep : Nat} (hd : dep ≤ 5) : ∀ (w n : Nat) (S : al_S) (I : mm_I) (o3 o4 : Option Value), n + w = dep → rl_rep I np S → (∀ I', rl_rep I' np ((List.range' n w).foldl (al_sp1 np) S) → rs_fr I I' → Q none I' J) →
    mm_at z (mm_call z (d + 4)) (mm_code 33) Q 2 [some (.ref 113), some (.int (nI dep)), some (.int (nI n)), o3, o4] [] I J := by
  intro w
  induction w with
  | zero =>
    intro n S I o3 o4 hw h k
    have hk := k I h rs_fr_rf
    have e1 : (nI dep ≤ nI n) = True := eq_true (nI_le (by omega) (by omega))
    rw [hk_33_2]
    simp only [bk_33.2.2.2, e1, true_implies, not_true_eq_false, false_implies, mmE, mmE0, mmH, mT, mR, mRf, mAl, mAs, mAz, mAn, Int.reduceToNat, Int32.reduceOfInt, Int64.reduceOfInt, Int.reduceAdd, swE, Nat.reduceDiv, Nat.reduceMod, Nat.reduceAdd, Nat.reduceMul, Nat.reduceEqDiff, Nat.reduceLeDiff, Nat.zero_le, List.length_nil, List.length_cons, Nat.zero_add, true_or, or_true, false_or, or_false, true_and, and_true, and_self, mb_01, mb_t, mb_f]
    exact hk
  | succ w ih =>
    intro n S I o3 o4 hw h k
    have e1 : (nI dep ≤ nI n) = False := eq_false (nI_ge (by omega) (by omega))
    have e2 : ((5 : Int32) ≤ nI n) = False := eq_false (nI_ge (b := 5) (by omega) (by decide))
    have t1 : (nI n).toNatClampNeg = n := nI_clamp (by omega)
    have t2 : vp_in (nI n) 5 = True := eq_true (vp_in_nI (by omega) (by decide))
    have e3 : nI n + 1 = nI (n + 1) := (nI_succ n).symm
    have h1 := rl_now h (nI n)
    have hfr1 : rs_fr I (mm_wI I 113 5 (nI n)) := ⟨fun j hj => by rw [mWI, if_pos rfl, if_neg hj], fun k hk => by funext j; rw [mWI, if_neg (by omega)]⟩
    have hin := w_sp_in (z := z) (d := d) (J := J) (Q := Q) (dep := .int (nI dep)) (by omega : n < 5) (S.2 n) 0 S (mm_wI I 113 5 (nI n)) o4 rfl (Nat.zero_le _) h1 (by rw [mWI, if_pos rfl, if_pos rfl]) (fun I1 p3 p4 h2 hqu fr2 => by
      simp only [bk_33.2.2.1, t1, t2, e3, mmE, mmE0, mmH, mT, mR, mRf, mAl, mAs, mAz, mAn, Int.reduceToNat, Int32.reduceOfInt, Int64.reduceOfInt, Int.reduceAdd, swE, Nat.reduceDiv, Nat.reduceMod, Nat.reduceAdd, Nat.reduceMul, Nat.reduceEqDiff, Nat.reduceLeDiff, Nat.zero_le, List.length_nil, List.length_cons, Nat.zero_add, true_or, or_true, false_or, or_false, true_and, and_true, and_self, mb_01, mb_t, mb_f]
      have h3 := rl_wipe h2 (by omega : n < 5)
      have hfr3 : rs_fr I1 (mm_wI I1 121 n 0) := ⟨fun j hj => by rw [mWI, if_neg (by decide)], fun k hk => by funext j; rw [mWI, if_neg (by omega)]⟩
      refine ih (n + 1) (al_sp1 np S n) _ _ _ (by omega) h3 (fun I' h4 fr4 => k I' (by rw [List.range'_succ]; exact h4) (rs_fr_tr hfr1 (rs_fr_tr fr2 (rs_fr_tr hfr3 fr4)))))
    rw [hk_33_2]
    simp only [e1, e2, true_implies, not_true_eq_false, false_implies, not_false_eq_true, mmE, mmE0, mmH, mT, mR, mRf, mAl, mAs, mAz, mAn, Int.reduceToNat, Int32.reduceOfInt, Int64.reduceOfInt, Int.reduceAdd, swE, Nat.reduceDiv, Nat.reduceMod, Nat.reduceAdd, Nat.reduceMul, Nat.reduceEqDiff, Nat.reduceLeDiff, Nat.zero_le, List.length_nil, List.length_cons, Nat.zero_add, true_or, or_true, false_or, or_false, true_and, and_true, and_self, mb_01, mb_t, mb_f]
    exact hin
theorem w_spread {dep : Nat} (hd : dep ≤ 5) (h : rl_rep I np S) (k : ∀ I', rl_rep I' np (al_spread np dep S) → rs_fr I I' → Q none I' J) : mm_call z (d + 5) 33 [.ref 113, .int (nI dep)] I J Q := by
  simp only [ce_33, bk_33.1, mmE, mmE0, mmH, mT, mR, mRf, mAl, mAs, mAz, mAn, Int.reduceToNat, Int32.reduceOfInt, Int64.reduceOfInt, Int.reduceAdd, swE, Nat.reduceDiv, Nat.reduceMod, Nat.reduceAdd, Nat.reduceMul, Nat.reduceEqDiff, Nat.reduceLeDiff, Nat.zero_le, List.length_nil, List.length_cons, Nat.zero_add, true_or, or_true, false_or, or_false, true_and, and_true, and_self, mb_01, mb_t, mb_f]
  exact w_sp_out hd dep 0 S I none none (by omega) h k
end LJ
