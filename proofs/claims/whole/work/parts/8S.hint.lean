/-! levels and hints: what they are, and the class -/
def lvI (n : Nat) : Int32 := if n ≤ 5 then nI n else -5
theorem ok_all {np : Nat} {P : Nat → Prop} {S : al_S} (hnp : np ≤ 7) (h : al_ok np P S) (hs : ∀ f, f < 1180 → (al_spread np 5 S).1 f ≤ 6) : ∀ f, f < 1180 → (al_spread np 5 S).1 f = rt_lvl np P f := by
  intro f hf
  obtain ⟨k1, k2⟩ := ok_spread hnp (Nat.le_refl 5) h
  obtain ⟨e1, e2⟩ := al_lvl (f := f) (Nat.le_refl 5) k1 k2
  by_cases q : (al_spread np 5 S).1 f ≤ 5
  · exact e2 q
  · have q2 : ¬ rt_lvl np P f ≤ 5 := fun w => q (e1.mpr w)
    have := hs f hf
    have := rt_lvl_6 (np := np) (S0 := P) (f := f)
    omega
theorem S0_P {s : st_T} {G : Nat → gr_T} (hv : va s) : ∀ g, S0 (sNr s) (sR s) G g → isP (sNp s) g := by
  rintro g ⟨r, r1, r2, _, rfl⟩
  exact (hv.2.2.2.1 r r1 r2).1
theorem lvF_P {s : st_T} {f : Nat} (hv : va s) (h : lvF s f ≤ 5) : isP (sNp s) f := rt_lv_isP (S0_P hv) ((rt_lvl_le (Nat.le_refl 5)).mp h)
theorem gpf_in {V : Nat → Nat} : ∀ (ps : List Nat) (b : Nat), ps.foldl (fun b q => if V b < V q then q else b) b = b ∨ ps.foldl (fun b q => if V b < V q then q else b) b ∈ ps
  | [], b => Or.inl rfl
  | q :: ps, b => by
    rw [List.foldl_cons]
    rcases gpf_in ps (if V b < V q then q else b) with e | e
    · rw [e]
      by_cases w : V b < V q
      · rw [if_pos w]; exact Or.inr List.mem_cons_self
      · rw [if_neg w]; exact Or.inl rfl
    · exact Or.inr (List.mem_cons_of_mem _ e)
theorem gpm_in {V : Nat → Nat} {ps : List Nat} (h : ps ≠ []) : gpm V ps ∈ ps := by
  cases ps with
  | nil => exact absurd rfl h
  | cons p ps =>
    rcases gpf_in (V := V) ps p with e | e
    · show ps.foldl _ p ∈ _
      rw [e]
      exact List.mem_cons_self
    · exact List.mem_cons_of_mem _ e
theorem gpf_c {V V' : Nat → Nat} : ∀ (ps : List Nat) (b : Nat), V b = V' b → (∀ x ∈ ps, V x = V' x) → ps.foldl (fun b q => if V b < V q then q else b) b = ps.foldl (fun b q => if V' b < V' q then q else b) b
  | [], b, _, _ => rfl
  | q :: ps, b, h1, h2 => by
    have hq := h2 q List.mem_cons_self
    rw [List.foldl_cons, List.foldl_cons, h1, hq]
    refine gpf_c ps _ ?_ (fun x hx => h2 x (List.mem_cons_of_mem _ hx))
    split
    · exact hq
    · exact h1
theorem gpm_c {V V' : Nat → Nat} {ps : List Nat} (h : ∀ x ∈ ps, V x = V' x) : gpm V ps = gpm V' ps := by
  cases ps with
  | nil => rfl
  | cons p ps => exact gpf_c ps p (h p List.mem_cons_self) (fun x hx => h x (List.mem_cons_of_mem _ hx))
theorem fl_good {np m f : Nat} {kn : Nat → Bool} {l : List Nat} (h : fl np m f kn = some l) : lal np m l ∧ gG m f kn l = true := by
  obtain ⟨t, t1, t2, t3, t4⟩ := ff_some _ _ _ h
  rw [List.nil_append] at t3
  subst t3
  exact ⟨⟨t1, t2⟩, t4⟩
theorem gG_pr {m f : Nat} {kn : Nat → Bool} {l : List Nat} (h : gG m f kn l = true) {t : rt_T} (ht : t ∈ (rul m).1) : ∃ g, rt_f (ls_f l) t = some g ∧ kn g = true := by
  unfold gG at h
  rw [Bool.and_eq_true] at h
  have := List.all_eq_true.mp h.1 t ht
  cases e : rt_f (ls_f l) t with
  | none => rw [e] at this; cases this
  | some g => rw [e] at this; exact ⟨g, rfl, this⟩
theorem hpm_c {np f : Nat} {V V' : Nat → Nat} (hnp : np ≤ 7) (hf : isF f = true) (h : ∀ g, isF g = true → V g = V' g) : hpm np V f = hpm np V' f := by
  unfold hpm
  refine fs_congr (fun m hm => ?_)
  rw [List.mem_range'_1] at hm
  have hm17 : m < 17 := by omega
  have e : fl np m f (fun g => decide (V g < V f)) = fl np m f fun g => decide (V' g < V' f) := fl_congr hnp hm17 (fun g hg => by rw [h g hg, h f hf])
  rw [e]
  cases el : fl np m f fun g => decide (V' g < V' f) with
  | none => rfl
  | some l =>
    show some _ = some _
    congr 1
    obtain ⟨k1, k2⟩ := fl_good el
    refine gpm_c (fun x hx => ?_)
    obtain ⟨t, ht, rfl⟩ := List.mem_map.mp hx
    obtain ⟨g, g1, _⟩ := gG_pr k2 ht
    rw [g1]
    exact h g (rul_rt hm17 (Or.inl ht) (fun j => ls_7 hnp k1.2 j) g1)
/-- a fact of a level has a premise by which a hint goes on -/
def hOk (np : Nat) (V : Nat → Nat) : Prop := ∀ f, isP np f → 1 ≤ V f → V f ≤ 5 → ∃ m l, m < 17 ∧ (∀ k, k < m → fl np k f (fun g => decide (V g < V f)) = none) ∧ fl np m f (fun g => decide (V g < V f)) = some l ∧ ∃ q, hpm np V f = some q ∧ q = gpm V ((rul m).1.map fun t => (rt_f (ls_f l) t).getD 0) ∧ V q < V f ∧ isP np q
theorem fs_least {β : Type} {F : Nat → Option β} : ∀ (w m : Nat), (List.range' m w).findSome? F ≠ none → ∃ k b, m ≤ k ∧ k < m + w ∧ (∀ j, m ≤ j → j < k → F j = none) ∧ F k = some b ∧ (List.range' m w).findSome? F = some b
  | 0, m, h => absurd rfl h
  | w + 1, m, h => by
    rw [List.range'_succ, List.findSome?_cons] at h ⊢
    cases e : F m with
    | some b => exact ⟨m, b, by omega, by omega, fun j _ _ => by omega, e, rfl⟩
    | none =>
      rw [e] at h
      obtain ⟨k, b, k1, k2, k3, k4, k5⟩ := fs_least w (m + 1) h
      refine ⟨k, b, by omega, by omega, fun j j1 j2 => ?_, k4, k5⟩
      by_cases q : j = m
      · rw [q]; exact e
      · exact k3 j (by omega) j2
theorem hOk_lvl {np : Nat} {P : Nat → Prop} (hnp : np ≤ 7) : hOk np (rt_lvl np P) := by
  intro f hf h1 h5
  have ex : ∃ m l, m < 17 ∧ lal np m l ∧ gG m f (fun g => decide (rt_lvl np P g < rt_lvl np P f)) l = true := by
    refine inst_iff.mp ?_
    have q := (rt_lvl_le (np := np) (S0 := P) (f := f) h5).mp (Nat.le_refl _)
    generalize e : rt_lvl np P f = k at q h1 h5
    cases k with
    | zero => omega
    | succ j =>
      rcases q with q | ⟨ps, q1, q2⟩
      · have := (rt_lvl_le (np := np) (S0 := P) (f := f) (k := j) (by omega)).mpr q
        omega
      · refine ⟨ps, q1, fun p hp => decide_eq_true ?_⟩
        have := (rt_lvl_le (np := np) (S0 := P) (f := p) (k := j) (by omega)).mpr (q2 p hp)
        omega
  have ne : (List.range' 0 17).findSome? (fun m => (fl np m f fun g => decide (rt_lvl np P g < rt_lvl np P f)).map fun l => gpm (rt_lvl np P) ((rul m).1.map fun t => (rt_f (ls_f l) t).getD 0)) ≠ none := by
    intro w
    obtain ⟨m, l, hm, hl, hG⟩ := ex
    rw [List.findSome?_eq_none_iff] at w
    have := w m (by rw [List.mem_range'_1]; omega)
    rw [Option.map_eq_none_iff] at this
    have := ff_no _ _ this l hl.1 hl.2
    rw [List.nil_append, hG] at this
    cases this
  obtain ⟨m, b, _, m2, m3, m4, m5⟩ := fs_least _ _ ne
  have hm : m < 17 := by omega
  cases el : fl np m f fun g => decide (rt_lvl np P g < rt_lvl np P f) with
  | none => rw [el] at m4; cases m4
  | some l =>
    rw [el] at m4
    obtain ⟨k1, k2⟩ := fl_good el
    have eb : b = gpm (rt_lvl np P) ((rul m).1.map fun t => (rt_f (ls_f l) t).getD 0) := (Option.some.inj m4).symm
    have nn : ((rul m).1.map fun t => (rt_f (ls_f l) t).getD 0) ≠ [] := by
      rw [rul_hd hm]
      exact List.cons_ne_nil _ _
    have hin := gpm_in (V := rt_lvl np P) nn
    obtain ⟨t, ht, e⟩ := List.mem_map.mp hin
    obtain ⟨g, g1, g2⟩ := gG_pr k2 ht
    rw [g1] at e
    have e : g = b := by rw [eb, ← e]; rfl
    subst e
    refine ⟨m, l, hm, fun k hk => ?_, el, g, m5, eb, of_decide_eq_true g2, ?_⟩
    · have := m3 k (by omega) hk
      rw [Option.map_eq_none_iff] at this
      exact this
    · obtain ⟨_, _, _, _, t5, _, l6⟩ := tb_rul hm
      have wt := t5 t ht
      have eL : ltr m = pw (rul m).2 + 1 := rfl
      have k1' := k1.1
      have ll : ∀ j, j ≤ pw t → ls_f l j < np := fun j hj => getD_lt2 k1.2 (by omega)
      unfold pw at ll
      refine ⟨t.1, _, _, _, _, rul_k7 hm ht, ll _ (by omega), ll _ (by omega), ll _ (by omega), ll _ (by omega), g1⟩
theorem hnt_P {np : Nat} {V : Nat → Nat} (h : hOk np V) : ∀ (w f : Nat), isP np f → V f ≤ 5 → isP np (hnt np V w f)
  | 0, f, hf, _ => hf
  | w + 1, f, hf, h5 => by
    unfold hnt
    by_cases q : V f ≤ 1
    · rw [if_pos q]; exact hf
    · rw [if_neg q]
      obtain ⟨_, _, _, _, _, g, e, _, g1, g2⟩ := h f hf (by omega) h5
      rw [e]
      exact hnt_P h w g g2 (by omega)
theorem hnt_S {np : Nat} {V : Nat → Nat} {w f g : Nat} (q : ¬ V f ≤ 1) (e : hpm np V f = some g) : hnt np V (w + 1) f = hnt np V w g := by
  show (if V f ≤ 1 then f else hnt np V w ((hpm np V f).getD f)) = _
  rw [if_neg q, e]
  rfl
theorem hnt_1 {np : Nat} {V : Nat → Nat} {w f : Nat} (q : V f ≤ 1) : hnt np V w f = f := by
  cases w with
  | zero => rfl
  | succ w =>
    show (if V f ≤ 1 then f else hnt np V w ((hpm np V f).getD f)) = _
    rw [if_pos q]
def cntL (V : Nat → Nat) (m : Nat) : Nat := (List.range' 0 1180).countP fun f => V f == m
noncomputable def o_level (s : st_T) (k a b c e : Int32) : op_T := (match n_fact (sNp s) k a b c e with
  | none => -2
  | some f => if sGd s = true then lvI (lvF s f) else -3, s)
noncomputable def o_reached (s : st_T) (x : Int32) : op_T := (if inN 6 x then (if sGd s = true then nI (cntL (lvF s) x.toNatClampNeg) else -3) else -2, s)
noncomputable def hnA (o : Option Nat) (x : Nat) : Int32 := match o with
  | none => -5
  | some f => if x = 1 then nI (kd f) else pI f (x - 2)
noncomputable def o_hint (s : st_T) (x : Int32) : op_T := (if inN 6 x then (if sGd s = true then (if sHg s = true then (if x = 0 then lvI (lvF s (sR s 0).1) else hnA (hntF s (sR s 0).1) x.toNatClampNeg) else -5) else -3) else -2, s)
section LH
variable {z : mm_S} {d : Nat} {I : mm_I} {J : mm_J} {s : st_T} {np : Nat} {S : al_S} {Q : Option Value → mm_I → mm_J → Prop}
theorem w_clev {f : Nat} {P : Nat → Prop} (hf : f < 1180) (hl : rl_rep I np S) (ho : al_ok np P S) (K : ∀ I' S', rs_fr I I' → rl_rep I' np S' → al_ok np P S' → (∀ g, g < 1180 → S'.1 g = rt_lvl np P g) → Q (some (.int (lvI (rt_lvl np P f)))) I' J) : mm_call z (d + 6) 28 [.ref 112, .int (nI f)] I J Q := by
  have hnp := hl.2.2.1
  simp only [ce_28, bk_28.1, mmE, mmE0, mmH, mT, mR, mRf, mAl, mAs, mAz, mAn, Int.reduceToNat, Int32.reduceOfInt, Int64.reduceOfInt, Int.reduceAdd, swE, Nat.reduceDiv, Nat.reduceMod, Nat.reduceAdd, Nat.reduceMul, Nat.reduceEqDiff, Nat.reduceLeDiff, Nat.zero_le, List.length_nil, List.length_cons, Nat.zero_add, true_or, or_true, false_or, or_false, true_and, and_true, and_self, mb_01, mb_t, mb_f]
  refine w_spread (dep := 5) (by omega) hl (fun I1 l1 f1 => ?_)
  have k1 := (ok_spread hnp (Nat.le_refl 5) ho).1
  have k2 := ok_all hnp ho (fun g hg => (l1.2.2.2.1 g hg).2)
  have ca := fun (z : mm_S) (d : Nat) => c_at (z := z) (d := d) (J := J) (f := some f) l1 (fun x hx => by injection hx with hx; omega)
  have ea : al_at (al_spread np 5 S) (some f) = rt_lvl np P f := k2 f hf
  rw [eI_some, ea] at ca
  have l6 := rt_lvl_6 (np := np) (S0 := P) (f := f)
  have c5 : (nI (rt_lvl np P f) ≤ 5) = (rt_lvl np P f ≤ 5) := le_nI (b := 5) (by omega) (by omega)
  have := K I1 _ f1 l1 k1 k2
  simp only [bk_28.2.1, bk_28.2.2, mmE, mmE0, mmH, mT, mR, mRf, mAl, mAs, mAz, mAn, Int.reduceToNat, Int32.reduceOfInt, Int64.reduceOfInt, Int.reduceAdd, swE, Nat.reduceDiv, Nat.reduceMod, Nat.reduceAdd, Nat.reduceMul, Nat.reduceEqDiff, Nat.reduceLeDiff, Nat.zero_le, List.length_nil, List.length_cons, Nat.zero_add, true_or, or_true, false_or, or_false, true_and, and_true, and_self, mb_01, mb_t, mb_f, Option.toList_some, Option.toList_none, List.cons_append, List.nil_append, ca, c5]
  unfold lvI at this
  by_cases q : rt_lvl np P f ≤ 5
  · rw [if_pos q] at this
    simp only [eq_true q, true_implies, not_true_eq_false, not_false_eq_true, false_implies, and_true, true_and]
    exact this
  · rw [if_neg q] at this
    simp only [q, true_implies, not_true_eq_false, not_false_eq_true, false_implies, and_true, true_and]
    exact this
theorem ix1180 {x : Nat} (h : x < 1180) : vp_in (nI x) 1180 = True ∧ (nI x).toNatClampNeg = x ∧ (1180 ≤ nI x) = False := ⟨eq_true (vp_in_nI h (by decide)), nI_clamp (by omega), eq_false (nI_ge (b := 1180) h (by decide))⟩
theorem w_cnt_loop {m : Nat} (hm : m < 6) (hl : rl_rep I np S) : ∀ (w i a : Nat), i + w = 1180 → Q (some (.int (nI (a + (List.range' i w).countP fun f => S.1 f == m)))) I J → mm_at z (mm_call z d) (mm_code 53) Q 4 [some (.ref 113), some (.int (nI m)), some (.int (nI a)), some (.int (nI i))] [] I J
  | 0, i, a, hi, k => by
    have ei : i = 1180 := by omega
    subst ei
    rw [hk_53_4]
    have c1 : (1180 ≤ nI 1180) = True := by decide
    simp only [bk_53.2.2, mmE, mmE0, mmH, mT, mR, mRf, mAl, mAs, mAz, mAn, Int.reduceToNat, Int32.reduceOfInt, Int64.reduceOfInt, Int.reduceAdd, swE, Nat.reduceDiv, Nat.reduceMod, Nat.reduceAdd, Nat.reduceMul, Nat.reduceEqDiff, Nat.reduceLeDiff, Nat.zero_le, List.length_nil, List.length_cons, Nat.zero_add, true_or, or_true, false_or, or_false, true_and, and_true, and_self, mb_01, mb_t, mb_f, c1, true_implies, not_true_eq_false, not_false_eq_true, false_implies, and_true, true_and]
    exact k
  | w + 1, i, a, hi, k => by
    rw [hk_53_4]
    obtain ⟨l1, l2⟩ := hl.2.2.2.1 i (by omega)
    have e1 : (nI (S.1 i) = nI m) = (S.1 i = m) := eq_nI (by omega) (by omega)
    have p1 : nI a + 1 = nI (a + 1) := (nI_succ a).symm
    have p2 : nI i + 1 = nI (i + 1) := (nI_succ i).symm
    rw [List.range'_succ, List.countP_cons] at k
    have ih := fun a => w_cnt_loop hm hl w (i + 1) a (by omega)
    simp only [bk_53.2.1, mmE, mmE0, mmH, mT, mR, mRf, mAl, mAs, mAz, mAn, Int.reduceToNat, Int32.reduceOfInt, Int64.reduceOfInt, Int.reduceAdd, swE, Nat.reduceDiv, Nat.reduceMod, Nat.reduceAdd, Nat.reduceMul, Nat.reduceEqDiff, Nat.reduceLeDiff, Nat.zero_le, List.length_nil, List.length_cons, Nat.zero_add, true_or, or_true, false_or, or_false, true_and, and_true, and_self, mb_01, mb_t, mb_f, ix1180 (show i < 1180 by omega), l1, e1, p1, p2, true_implies, not_true_eq_false, not_false_eq_true, false_implies, and_true, true_and]
    by_cases q : S.1 i = m
    · rw [if_pos (beq_iff_eq.mpr q)] at k
      simp only [eq_true q, true_implies, not_true_eq_false, not_false_eq_true, false_implies, and_true, true_and]
      refine ih (a + 1) ?_
      rw [Nat.add_assoc, Nat.add_comm 1]
      exact k
    · rw [if_neg (fun w => q (beq_iff_eq.mp w)), Nat.add_zero] at k
      simp only [q, true_implies, not_true_eq_false, not_false_eq_true, false_implies, and_true, true_and]
      exact ih a k
/-- what changes with levels and hints -/
def fH (I I' : mm_I) : Prop := (∀ k, (k < 112 ∨ 125 < k) → I' k = I k) ∧ ∀ j, j ≠ 10 → j ≠ 11 → I' 112 j = I 112 j
theorem fH_tr {I' I'' : mm_I} (h : fH I I') (h' : fH I' I'') : fH I I'' := ⟨fun k a => (h'.1 k a).trans (h.1 k a), fun j a b => (h'.2 j a b).trans (h.2 j a b)⟩
theorem fH_rs {I' : mm_I} (h : rs_fr I I') : fH I I' := ⟨fun k hk => h.2 k (by omega), fun j _ _ => by rw [h.2 _ (by decide)]⟩
theorem repC_H {I' : mm_I} (hv : va s) (h : repC I J s) (hg : sGd s = true) (f : fH I I') (hl : ∃ S, rl_rep I' (sNp s) S ∧ al_ok (sNp s) (S0 (sNr s) (sR s) (sG s)) S) (hh : I' 112 10 = -1 ∨ ∃ g, isP (sNp s) g ∧ I' 112 10 = nI g ∧ I' 112 11 = eI (hntF s g)) : repC I' J s ∧ frC I J I' J := by
  have v3 := hv.1.2.2.1
  have fg : fG I I' := fun k j a b => by rw [f.1 k (by omega)]
  obtain ⟨h1, ⟨h2, h3, h4⟩, ⟨h5, h6⟩, _, _⟩ := h.2.2.2.2.2.2.2 hg
  refine ⟨repC_G hv h fg rfl rfl rfl rfl rfl rfl rfl rfl rfl rfl ?_ (fun _ => ⟨fun r r1 r2 => ?_, ⟨?_, ?_, ?_⟩, ⟨?_, fun i hi => ?_⟩, hl, hh⟩), frC_G fg⟩
  · rw [f.2 _ (by decide) (by decide)]; exact h.2.2.2.2.2.2.1
  · unfold gC
    rw [f.1 _ (by omega)]
    exact h1 r r1 r2
  · rw [f.2 _ (by decide) (by decide)]; exact h2
  · rw [f.2 _ (by decide) (by decide)]; exact h3
  · rw [f.2 _ (by decide) (by decide)]; exact h4
  · rw [f.2 _ (by decide) (by decide)]; exact h5
  · rw [f.1 _ (by decide)]; exact h6 i hi
theorem w_lvC {f : Nat} (hf : f < 1180) (hv : inv s) (h : repC I J s) (hg : sGd s = true) (K : ∀ I', repC I' J s → frC I J I' J → Q (some (.int (lvI (lvF s f)))) I' J) : mm_call z (d + 6) 28 [.ref 112, .int (nI f)] I J Q := by
  obtain ⟨_, _, _, ⟨S, l1, o1⟩, hh⟩ := h.2.2.2.2.2.2.2 hg
  refine w_clev hf l1 o1 (fun I1 S1 f1 l2 o2 _ => ?_)
  obtain ⟨a, b⟩ := repC_H hv.1 h hg (fH_rs f1) ⟨S1, l2, o2⟩ (by rw [f1.2 _ (by decide)]; exact hh)
  exact K I1 a b
theorem pC_level {k a b c e : Int32} (hv : inv s) (h : repC I J s) : mm_call z (d + 7) 121 [.ref 0, .int k, .int a, .int b, .int c, .int e] I J (okC I J (o_level s k a b c e)) := by
  obtain ⟨⟨a1, a2, a3, a4⟩, _, _, _, _, _, hg, _⟩ := id h
  have v1 := hv.1.1.1
  unfold o_level
  simp only [ce_121, bk_121.1, mmE, mmE0, mmH, mT, mR, mRf, mAl, mAs, mAz, mAn, Int.reduceToNat, Int32.reduceOfInt, Int64.reduceOfInt, Int.reduceAdd, swE, Nat.reduceDiv, Nat.reduceMod, Nat.reduceAdd, Nat.reduceMul, Nat.reduceEqDiff, Nat.reduceLeDiff, Nat.zero_le, List.length_nil, List.length_cons, Nat.zero_add, true_or, or_true, false_or, or_false, true_and, and_true, and_self, mb_01, mb_t, mb_f, Option.toList_some, Option.toList_none, List.cons_append, List.nil_append, c_factOf v1 a1]
  cases en : n_fact (sNp s) k a b c e with
  | none =>
    simp only [eI_none, true_implies, not_true_eq_false, not_false_eq_true, false_implies, and_true, true_and]
    exact ⟨rfl, h, frC_rf⟩
  | some g =>
    have g1 := isF_lt (isP_F v1 (n_fact_P v1 en))
    have gm : (nI g = -1) = False := eq_false (nI_m1' (by omega))
    simp only [eI_some, gm, true_implies, not_true_eq_false, not_false_eq_true, false_implies, and_true, true_and, bk_121.2.1, bk_121.2.2.1, bk_121.2.2.2, mmE, mmE0, mmH, mT, mR, mRf, mAl, mAs, mAz, mAn, Int.reduceToNat, Int32.reduceOfInt, Int64.reduceOfInt, Int.reduceAdd, swE, Nat.reduceDiv, Nat.reduceMod, Nat.reduceAdd, Nat.reduceMul, Nat.reduceEqDiff, Nat.reduceLeDiff, Nat.zero_le, List.length_nil, List.length_cons, Nat.zero_add, true_or, or_true, false_or, or_false, true_and, and_true, and_self, mb_01, mb_t, mb_f, hg, mb0]
    cases eg : sGd s with
    | false =>
      simp only [true_implies, not_true_eq_false, not_false_eq_true, false_implies, and_true, true_and, Bool.false_eq_true, if_false]
      exact ⟨rfl, h, frC_rf⟩
    | true =>
      simp only [true_implies, not_true_eq_false, not_false_eq_true, false_implies, and_true, true_and, Bool.true_eq_false, if_true]
      refine w_lvC g1 hv h eg (fun I1 k1 k2 => ?_)
      simp only [bk_121.2.2.2, mmE, mmE0, mmH, mT, mR, mRf, mAl, mAs, mAz, mAn, Int.reduceToNat, Int32.reduceOfInt, Int64.reduceOfInt, Int.reduceAdd, swE, Nat.reduceDiv, Nat.reduceMod, Nat.reduceAdd, Nat.reduceMul, Nat.reduceEqDiff, Nat.reduceLeDiff, Nat.zero_le, List.length_nil, List.length_cons, Nat.zero_add, true_or, or_true, false_or, or_false, true_and, and_true, and_self, mb_01, mb_t, mb_f, Option.toList_some, Option.toList_none, List.cons_append, List.nil_append]
      exact ⟨rfl, k1, k2⟩
theorem rng6 {x : Int32} : (¬ x < 0 ∧ x ≤ 5) = (inN 6 x = true) := by
  rw [i32lt, i32le]
  unfold inN
  rw [decide_eq_true_eq]
  show (¬ x.toInt < 0 ∧ x.toInt ≤ 5) = (0 ≤ x.toInt ∧ x.toInt < 6)
  exact propext (by omega)
theorem pC_reached {x : Int32} (hv : inv s) (h : repC I J s) : mm_call z (d + 7) 122 [.ref 0, .int x] I J (okC I J (o_reached s x)) := by
  obtain ⟨⟨a1, a2, a3, a4⟩, _, _, _, _, _, hg, hr⟩ := id h
  have v1 := hv.1.1.1
  unfold o_reached
  have hk : ∀ v, okC I J (v, s) (some (.int v)) I J := fun v => ⟨rfl, h, frC_rf⟩
  simp only [ce_122, bk_122.1, bk_122.2.1, mmE, mmE0, mmH, mT, mR, mRf, mAl, mAs, mAz, mAn, Int.reduceToNat, Int32.reduceOfInt, Int64.reduceOfInt, Int.reduceAdd, swE, Nat.reduceDiv, Nat.reduceMod, Nat.reduceAdd, Nat.reduceMul, Nat.reduceEqDiff, Nat.reduceLeDiff, Nat.zero_le, List.length_nil, List.length_cons, Nat.zero_add, true_or, or_true, false_or, or_false, true_and, and_true, and_self, mb_01, mb_t, mb_f]
  cases ei : inN 6 x with
  | false =>
    by_cases q : x < 0
    · simp only [eq_true q, true_implies, not_true_eq_false, not_false_eq_true, false_implies, and_true, true_and, Bool.false_eq_true, if_false]; exact hk _
    · have q2 : ¬ x ≤ 5 := fun w => by
        have : (¬ x < 0 ∧ x ≤ 5) := ⟨q, w⟩
        rw [rng6, ei] at this
        cases this
      simp only [q, q2, true_implies, not_true_eq_false, not_false_eq_true, false_implies, and_true, true_and, Bool.false_eq_true, if_false]; exact hk _
  | true =>
    have q := rng6 (x := x)
    rw [ei, eq_self] at q
    have q := of_eq_true q
    simp only [q.1, eq_true q.2, true_implies, not_true_eq_false, not_false_eq_true, false_implies, and_true, true_and, if_true, bk_122.2.2.1, bk_122.2.2.2.1, bk_122.2.2.2.2, mmE, mmE0, mmH, mT, mR, mRf, mAl, mAs, mAz, mAn, Int.reduceToNat, Int32.reduceOfInt, Int64.reduceOfInt, Int.reduceAdd, swE, Nat.reduceDiv, Nat.reduceMod, Nat.reduceAdd, Nat.reduceMul, Nat.reduceEqDiff, Nat.reduceLeDiff, Nat.zero_le, List.length_nil, List.length_cons, Nat.zero_add, true_or, or_true, false_or, or_false, true_and, and_true, and_self, mb_01, mb_t, mb_f, hg, mb0]
    cases eg : sGd s with
    | false =>
      simp only [true_implies, not_true_eq_false, not_false_eq_true, false_implies, and_true, true_and, Bool.false_eq_true, if_false]
      exact hk _
    | true =>
      obtain ⟨m, hm, rfl⟩ := inN_t ei
      obtain ⟨_, _, _, ⟨S, l1, o1⟩, hh⟩ := hr eg
      simp only [true_implies, not_true_eq_false, not_false_eq_true, false_implies, and_true, true_and, Bool.true_eq_false, if_true, ce_30, bk_30, mmE, mmE0, mmH, mT, mR, mRf, mAl, mAs, mAz, mAn, Int.reduceToNat, Int32.reduceOfInt, Int64.reduceOfInt, Int.reduceAdd, swE, Nat.reduceDiv, Nat.reduceMod, Nat.reduceAdd, Nat.reduceMul, Nat.reduceEqDiff, Nat.reduceLeDiff, Nat.zero_le, List.length_nil, List.length_cons, Nat.zero_add, true_or, or_true, false_or, or_false, true_and, and_true, and_self, mb_01, mb_t, mb_f]
      refine w_spread (dep := 5) (by omega) l1 (fun I1 l2 f1 => ?_)
      have k1 := (ok_spread v1 (Nat.le_refl 5) o1).1
      have k2 := ok_all v1 o1 (fun g hg => (l2.2.2.2.1 g hg).2)
      obtain ⟨r1, r2⟩ := repC_H hv.1 h eg (fH_rs f1) ⟨_, l2, k1⟩ (by rw [f1.2 _ (by decide)]; exact hh)
      simp only [mmE, mmE0, mmH, mT, mR, mRf, mAl, mAs, mAz, mAn, Int.reduceToNat, Int32.reduceOfInt, Int64.reduceOfInt, Int.reduceAdd, swE, Nat.reduceDiv, Nat.reduceMod, Nat.reduceAdd, Nat.reduceMul, Nat.reduceEqDiff, Nat.reduceLeDiff, Nat.zero_le, List.length_nil, List.length_cons, Nat.zero_add, true_or, or_true, false_or, or_false, true_and, and_true, and_self, mb_01, mb_t, mb_f, Option.toList_some, Option.toList_none, List.cons_append, List.nil_append, ce_53, bk_53.1]
      refine w_cnt_loop (z := z) (np := sNp s) hm l2 1180 0 0 (by omega) ?_
      simp only [bk_122.2.2.2.2, mmE, mmE0, mmH, mT, mR, mRf, mAl, mAs, mAz, mAn, Int.reduceToNat, Int32.reduceOfInt, Int64.reduceOfInt, Int.reduceAdd, swE, Nat.reduceDiv, Nat.reduceMod, Nat.reduceAdd, Nat.reduceMul, Nat.reduceEqDiff, Nat.reduceLeDiff, Nat.zero_le, List.length_nil, List.length_cons, Nat.zero_add, true_or, or_true, false_or, or_false, true_and, and_true, and_self, mb_01, mb_t, mb_f, Option.toList_some, Option.toList_none, List.cons_append, List.nil_append]
      refine ⟨?_, r1, r2⟩
      rw [nI_clamp (show m < 2 ^ 31 by omega)]
      show some (Value.int (nI _)) = some (Value.int (nI (cntL (lvF s) m)))
      congr 3
      unfold cntL
      refine List.countP_congr (fun g hg => ?_)
      rw [List.mem_range'_1] at hg
      rw [k2 g (by omega)]
      exact Iff.rfl
theorem sls_c {I' : mm_I} {ls : List Nat} (f : ∀ k, 113 ≤ k → k ≤ 125 → I' k = I k) (h : sls I np S ls) : sls I' np S ls := by
  obtain ⟨⟨a, b⟩, ⟨c, e, g⟩, l⟩ := h
  refine ⟨⟨?_, ?_⟩, ⟨c, e, fun i hi => ?_⟩, rl_c (fun k _ _ => f k (by omega) (by omega)) l⟩
  · rw [f _ (by decide) (by decide)]; exact a
  · rw [f _ (by decide) (by decide)]; exact b
  · rw [f _ (by decide) (by decide)]; exact g i hi
theorem w_hl {V : Nat → Nat} {goal : Int32} (hO : hOk np V) (hV : ∀ g, g < 1180 → S.1 g = V g) (hnp : np ≤ 7) : ∀ (w i f : Nat) (I : mm_I), i + w = 5 → isP np f → V f ≤ 5 → sls I np S [] → I 112 11 = nI f → (∀ I', (∀ k, k ≠ 112 → (k < 122 ∨ 125 < k) → I' k = I k) → (∀ j, j ≠ 11 → I' 112 j = I 112 j) → I' 112 11 = nI (hnt np V w f) → Q (some (.int (nI (hnt np V w f)))) I' J) → mm_at z (mm_call z (d + 6)) (mm_code 29) Q 51 [some (.ref 112), some (.int goal), some (.int (nI i))] [] I J
  | 0, i, f, I, hi, hf, h5, hs, hh, K => by
    have ei : i = 5 := by omega
    subst ei
    rw [hk_29_51]
    have c1 : (5 ≤ nI 5) = True := by decide
    simp only [bk_29.2.2.2.2, mmE, mmE0, mmH, mT, mR, mRf, mAl, mAs, mAz, mAn, Int.reduceToNat, Int32.reduceOfInt, Int64.reduceOfInt, Int.reduceAdd, swE, Nat.reduceDiv, Nat.reduceMod, Nat.reduceAdd, Nat.reduceMul, Nat.reduceEqDiff, Nat.reduceLeDiff, Nat.zero_le, List.length_nil, List.length_cons, Nat.zero_add, true_or, or_true, false_or, or_false, true_and, and_true, and_self, mb_01, mb_t, mb_f, c1, hh, true_implies, not_true_eq_false, not_false_eq_true, false_implies, and_true, true_and]
    exact K I (fun _ _ _ => rfl) (fun _ _ => rfl) hh
  | w + 1, i, f, I, hi, hf, h5, hs, hh, K => by
    have fF := isP_F hnp hf
    have f1 := isF_lt fF
    rw [hk_29_51]
    have c1 : (5 ≤ nI i) = False := by rw [show (5 : Int32) = nI 5 from rfl, le_nI (by omega) (by omega)]; exact eq_false (by omega)
    have gm : (nI f = -1) = False := eq_false (nI_m1' (by omega))
    have ca := fun (z : mm_S) (d : Nat) => c_at (z := z) (d := d) (J := J) (f := some f) hs.2.2 (fun x hx => by injection hx with hx; omega)
    have ea : al_at S (some f) = V f := hV f f1
    rw [eI_some, ea] at ca
    have c2 : (nI (V f) ≤ 1) = (V f ≤ 1) := le_nI (b := 1) (by omega) (by omega)
    simp only [bk_29.2.2.2.2, mmE, mmE0, mmH, mT, mR, mRf, mAl, mAs, mAz, mAn, Int.reduceToNat, Int32.reduceOfInt, Int64.reduceOfInt, Int.reduceAdd, swE, Nat.reduceDiv, Nat.reduceMod, Nat.reduceAdd, Nat.reduceMul, Nat.reduceEqDiff, Nat.reduceLeDiff, Nat.zero_le, List.length_nil, List.length_cons, Nat.zero_add, true_or, or_true, false_or, or_false, true_and, and_true, and_self, mb_01, mb_t, mb_f, Option.toList_some, Option.toList_none, List.cons_append, List.nil_append, c1, hh, gm, ca, c2, true_implies, not_true_eq_false, not_false_eq_true, false_implies, and_true, true_and]
    by_cases q : V f ≤ 1
    · rw [hnt_1 q] at K
      simp only [eq_true q, true_implies, not_true_eq_false, not_false_eq_true, false_implies, and_true, true_and]
      exact K I (fun _ _ _ => rfl) (fun _ _ => rfl) hh
    · obtain ⟨_, _, _, _, _, g, e, _, g1, g2⟩ := hO f hf (by omega) h5
      rw [hnt_S q e] at K
      simp only [q, true_implies, not_true_eq_false, not_false_eq_true, false_implies, and_true, true_and]
      refine w_premiseOf hf (by rw [hV f f1]; omega) hs (fun I1 k1 k2 => ?_)
      rw [hpm_c (V' := V) hnp fF (fun g hg => hV g (isF_lt hg)), e, eI_some]
      have e1 : I1 112 = I 112 := k1 _ (by decide)
      have wc : ∀ k, k ≠ 112 → mm_wI I1 112 11 (nI g) k = I1 k := fun k hk => by funext t; rw [mWI, if_neg hk]
      simp only [mmE, mmE0, mmH, mT, mR, mRf, mAl, mAs, mAz, mAn, Int.reduceToNat, Int32.reduceOfInt, Int64.reduceOfInt, Int.reduceAdd, swE, Nat.reduceDiv, Nat.reduceMod, Nat.reduceAdd, Nat.reduceMul, Nat.reduceEqDiff, Nat.reduceLeDiff, Nat.zero_le, List.length_nil, List.length_cons, Nat.zero_add, true_or, or_true, false_or, or_false, true_and, and_true, and_self, mb_01, mb_t, mb_f, Option.toList_some, Option.toList_none, List.cons_append, List.nil_append]
      rw [← nI_succ]
      refine w_hl hO hV hnp w (i + 1) g _ (by omega) g2 (by omega) (sls_c (fun k a b => wc k (by omega)) k2) (by rw [mWI, if_pos rfl, if_pos rfl]) (fun I2 m1 m2 m3 => K I2 (fun k a b => ?_) (fun j hj => ?_) m3)
      · rw [m1 k a b, wc k a, k1 k b]
      · rw [m2 j hj, mWI, if_pos rfl, if_neg hj, e1]
theorem w_hintTo {g : Nat} (hP : isP (sNp s) g) (hv : inv s) (h : repC I J s) (hg : sGd s = true) (K : ∀ I', repC I' J s → frC I J I' J → Q (some (.int (eI (hntF s g)))) I' J) : mm_call z (d + 7) 29 [.ref 112, .int (nI g)] I J Q := by
  obtain ⟨_, _, _, ⟨S, l1, o1⟩, hh⟩ := h.2.2.2.2.2.2.2 hg
  have v1 := hv.1.1.1
  have g1 := isF_lt (isP_F v1 hP)
  simp only [ce_29, bk_29.1, mmE, mmE0, mmH, mT, mR, mRf, mAl, mAs, mAz, mAn, Int.reduceToNat, Int32.reduceOfInt, Int64.reduceOfInt, Int.reduceAdd, swE, Nat.reduceDiv, Nat.reduceMod, Nat.reduceAdd, Nat.reduceMul, Nat.reduceEqDiff, Nat.reduceLeDiff, Nat.zero_le, List.length_nil, List.length_cons, Nat.zero_add, true_or, or_true, false_or, or_false, true_and, and_true, and_self, mb_01, mb_t, mb_f]
  by_cases q : I 112 10 = nI g
  · simp only [eq_true q, true_implies, not_true_eq_false, not_false_eq_true, false_implies, and_true, true_and]
    rcases hh with w | ⟨g', p1, p2, p3⟩
    · exfalso
      rw [w] at q
      exact nI_m1' (show g < 2 ^ 31 by omega) q.symm
    · have g2 := isF_lt (isP_F v1 p1)
      rw [p2, eq_nI (by omega) (by omega)] at q
      subst q
      rw [p3]
      exact K I h frC_rf
  · simp only [q, true_implies, not_true_eq_false, not_false_eq_true, false_implies, and_true, true_and, bk_29.2.1, mmE, mmE0, mmH, mT, mR, mRf, mAl, mAs, mAz, mAn, Int.reduceToNat, Int32.reduceOfInt, Int64.reduceOfInt, Int.reduceAdd, swE, Nat.reduceDiv, Nat.reduceMod, Nat.reduceAdd, Nat.reduceMul, Nat.reduceEqDiff, Nat.reduceLeDiff, Nat.zero_le, List.length_nil, List.length_cons, Nat.zero_add, true_or, or_true, false_or, or_false, true_and, and_true, and_self, mb_01, mb_t, mb_f]
    have wc : ∀ k, k ≠ 112 → mm_wI I 112 10 (nI g) k = I k := fun k hk => by funext t; rw [mWI, if_neg hk]
    refine w_clev g1 (rl_c (fun k a b => wc k (by omega)) l1) o1 (fun I1 S1 f1 l2 o2 e2 => ?_)
    have G1 : ∀ j, I1 112 j = if j = 10 then nI g else I 112 j := fun j => by rw [f1.2 _ (by decide), mWI, if_pos rfl]
    have sh1 : I1 1 = I 1 := by rw [f1.2 _ (by decide), wc _ (by decide)]
    have hO : hOk (sNp s) (lvF s) := hOk_lvl v1
    have elv : lvF s g = rt_lvl (sNp s) (S0 (sNr s) (sR s) (sG s)) g := rfl
    rw [← elv]
    have l6 : lvF s g ≤ 6 := rt_lvl_6
    have c0 : (lvI (lvF s g) ≤ 0) = (lvF s g = 0 ∨ 5 < lvF s g) := by
      unfold lvI
      by_cases q5 : lvF s g ≤ 5
      · rw [if_pos q5, show (0 : Int32) = nI 0 from rfl, le_nI (by omega) (by omega)]
        exact propext (by omega)
      · rw [if_neg q5]
        exact propext ⟨fun _ => Or.inr (by omega), fun _ => by decide⟩
    have fin : ∀ (x : Int32) (I2 : mm_I), I2 = mm_wI I1 112 11 x → (∀ I3, (∀ k, k ≠ 122 → I3 k = I2 k) → sls I3 (sNp s) S1 [] → mm_at z (mm_call z (d + 6)) (mm_code 29) Q 51 [some (.ref 112), some (.int (nI g)), some (.int (nI 0))] [] I3 J) → mm_at z (mm_call z (d + 6)) (mm_code 29) Q 32 [some (.ref 112), some (.int (nI g)), none] [.int x, .ref 112] I1 J := by
      intro x I2 e k
      subst e
      have w2 : ∀ k, k ≠ 112 → mm_wI I1 112 11 x k = I1 k := fun k hk => by funext t; rw [mWI, if_neg hk]
      have sp : mm_wI I1 112 11 x 1 0 = nI (sNp s) := by rw [w2 _ (by decide), sh1]; exact h.1.1
      simp only [bk_29.2.2.2.1, mmE, mmE0, mmH, mT, mR, mRf, mAl, mAs, mAz, mAn, Int.reduceToNat, Int32.reduceOfInt, Int64.reduceOfInt, Int.reduceAdd, swE, Nat.reduceDiv, Nat.reduceMod, Nat.reduceAdd, Nat.reduceMul, Nat.reduceEqDiff, Nat.reduceLeDiff, Nat.zero_le, List.length_nil, List.length_cons, Nat.zero_add, true_or, or_true, false_or, or_false, true_and, and_true, and_self, mb_01, mb_t, mb_f, sp]
      refine w_srestart (rl_c (fun k a b => w2 k (by omega)) l2) (fun I3 k1 k2 => ?_)
      simp only [mmE, mmE0, mmH, mT, mR, mRf, mAl, mAs, mAz, mAn, Int.reduceToNat, Int32.reduceOfInt, Int64.reduceOfInt, Int.reduceAdd, swE, Nat.reduceDiv, Nat.reduceMod, Nat.reduceAdd, Nat.reduceMul, Nat.reduceEqDiff, Nat.reduceLeDiff, Nat.zero_le, List.length_nil, List.length_cons, Nat.zero_add, true_or, or_true, false_or, or_false, true_and, and_true, and_self, mb_01, mb_t, mb_f, Option.toList_some, Option.toList_none, List.cons_append, List.nil_append]
      exact k I3 k2 k1
    simp only [bk_29.2.2.1, mmE, mmE0, mmH, mT, mR, mRf, mAl, mAs, mAz, mAn, Int.reduceToNat, Int32.reduceOfInt, Int64.reduceOfInt, Int.reduceAdd, swE, Nat.reduceDiv, Nat.reduceMod, Nat.reduceAdd, Nat.reduceMul, Nat.reduceEqDiff, Nat.reduceLeDiff, Nat.zero_le, List.length_nil, List.length_cons, Nat.zero_add, true_or, or_true, false_or, or_false, true_and, and_true, and_self, mb_01, mb_t, mb_f, Option.toList_some, Option.toList_none, List.cons_append, List.nil_append, c0]
    by_cases q5 : lvF s g = 0 ∨ 5 < lvF s g
    · have en : hntF s g = none := by unfold hntF; rw [if_pos q5]
      rw [en] at K
      simp only [eq_true q5, true_implies, not_true_eq_false, not_false_eq_true, false_implies, and_true, true_and]
      refine fin _ _ rfl (fun I3 k1 k2 => ?_)
      have e3 : ∀ j, I3 112 j = if j = 11 then -1 else if j = 10 then nI g else I 112 j := fun j => by rw [k1 _ (by decide), mWI, if_pos rfl, G1]
      have e11 : I3 112 11 = -1 := by rw [e3, if_pos rfl]
      have e12 : I3 112 10 = nI g := by rw [e3, if_neg (by decide), if_pos rfl]
      rw [hk_29_51]
      have c1 : (5 ≤ nI 0) = False := by decide
      simp only [bk_29.2.2.2.2, mmE, mmE0, mmH, mT, mR, mRf, mAl, mAs, mAz, mAn, Int.reduceToNat, Int32.reduceOfInt, Int64.reduceOfInt, Int.reduceAdd, swE, Nat.reduceDiv, Nat.reduceMod, Nat.reduceAdd, Nat.reduceMul, Nat.reduceEqDiff, Nat.reduceLeDiff, Nat.zero_le, List.length_nil, List.length_cons, Nat.zero_add, true_or, or_true, false_or, or_false, true_and, and_true, and_self, mb_01, mb_t, mb_f, c1, e11, true_implies, not_true_eq_false, not_false_eq_true, false_implies, and_true, true_and]
      have fh : fH I I3 := by
        refine ⟨fun k hk => ?_, fun j j1 j2 => ?_⟩
        · rw [k1 k (by omega)]
          funext t
          rw [mWI, if_neg (by omega), f1.2 k (by omega), wc k (by omega)]
        · rw [e3, if_neg j2, if_neg j1]
      obtain ⟨r1, r2⟩ := repC_H hv.1 h hg fh ⟨S1, k2.2.2, o2⟩ (Or.inr ⟨g, hP, e12, by rw [e11, en]; rfl⟩)
      exact K I3 r1 r2
    · have en : hntF s g = some (hnt (sNp s) (lvF s) 5 g) := by unfold hntF; rw [if_neg q5]
      rw [en] at K
      simp only [q5, true_implies, not_true_eq_false, not_false_eq_true, false_implies, and_true, true_and]
      refine fin _ _ rfl (fun I3 k1 k2 => ?_)
      have e3 : ∀ j, I3 112 j = if j = 11 then nI g else if j = 10 then nI g else I 112 j := fun j => by rw [k1 _ (by decide), mWI, if_pos rfl, G1]
      refine w_hl (z := z) (d := d) hO e2 v1 5 0 g I3 (by omega) hP (by omega) k2 (by rw [e3, if_pos rfl]) (fun I4 m1 m2 m3 => ?_)
      have fh : fH I I4 := by
        refine ⟨fun k hk => ?_, fun j j1 j2 => ?_⟩
        · rw [m1 k (by omega) (by omega), k1 k (by omega)]
          funext t
          rw [mWI, if_neg (by omega), f1.2 k (by omega), wc k (by omega)]
        · rw [m2 j j2, e3, if_neg j2, if_neg j1]
      obtain ⟨r1, r2⟩ := repC_H hv.1 h hg fh ⟨S1, rl_c (fun k a b => m1 k (by omega) (by omega)) k2.2.2, o2⟩ (Or.inr ⟨g, hP, by rw [m2 _ (by decide), e3, if_neg (by decide), if_pos rfl], by rw [m3, en]; rfl⟩)
      exact K I4 r1 r2
theorem pC_hint {x : Int32} (hv : inv s) (h : repC I J s) : mm_call z (d + 8) 120 [.ref 0, .int x] I J (okC I J (o_hint s x)) := by
  obtain ⟨⟨a1, a2, a3, a4⟩, _, _, _, _, hgo, hg, hr⟩ := id h
  have v1 := hv.1.1.1
  unfold o_hint
  have hk : ∀ v, okC I J (v, s) (some (.int v)) I J := fun v => ⟨rfl, h, frC_rf⟩
  simp only [ce_120, bk_120.1, bk_120.2.1, mmE, mmE0, mmH, mT, mR, mRf, mAl, mAs, mAz, mAn, Int.reduceToNat, Int32.reduceOfInt, Int64.reduceOfInt, Int.reduceAdd, swE, Nat.reduceDiv, Nat.reduceMod, Nat.reduceAdd, Nat.reduceMul, Nat.reduceEqDiff, Nat.reduceLeDiff, Nat.zero_le, List.length_nil, List.length_cons, Nat.zero_add, true_or, or_true, false_or, or_false, true_and, and_true, and_self, mb_01, mb_t, mb_f]
  cases ei : inN 6 x with
  | false =>
    by_cases q : x < 0
    · simp only [eq_true q, true_implies, not_true_eq_false, not_false_eq_true, false_implies, and_true, true_and, Bool.false_eq_true, if_false]; exact hk _
    · have q2 : ¬ x ≤ 5 := fun w => by
        have : (¬ x < 0 ∧ x ≤ 5) := ⟨q, w⟩
        rw [rng6, ei] at this
        cases this
      simp only [q, q2, true_implies, not_true_eq_false, not_false_eq_true, false_implies, and_true, true_and, Bool.false_eq_true, if_false]; exact hk _
  | true =>
    have q := rng6 (x := x)
    rw [ei, eq_self] at q
    have q := of_eq_true q
    simp only [q.1, eq_true q.2, true_implies, not_true_eq_false, not_false_eq_true, false_implies, and_true, true_and, if_true, bk_120.2.2.1, bk_120.2.2.2.1, mmE, mmE0, mmH, mT, mR, mRf, mAl, mAs, mAz, mAn, Int.reduceToNat, Int32.reduceOfInt, Int64.reduceOfInt, Int.reduceAdd, swE, Nat.reduceDiv, Nat.reduceMod, Nat.reduceAdd, Nat.reduceMul, Nat.reduceEqDiff, Nat.reduceLeDiff, Nat.zero_le, List.length_nil, List.length_cons, Nat.zero_add, true_or, or_true, false_or, or_false, true_and, and_true, and_self, mb_01, mb_t, mb_f, hg, a4, mb0]
    cases eg : sGd s with
    | false =>
      simp only [true_implies, not_true_eq_false, not_false_eq_true, false_implies, and_true, true_and, Bool.false_eq_true, if_false]
      exact hk _
    | true =>
      cases eh : sHg s with
      | false =>
        simp only [true_implies, not_true_eq_false, not_false_eq_true, false_implies, and_true, true_and, Bool.false_eq_true, Bool.true_eq_false, if_false, if_true]
        exact hk _
      | true =>
        obtain ⟨m, hm, rfl⟩ := inN_t ei
        have hP := (hv.1.2.2.2.2 eh).1
        have f0 := (hgo eh).1
        rw [nI_clamp (show m < 2 ^ 31 by omega)]
        simp only [true_implies, not_true_eq_false, not_false_eq_true, false_implies, and_true, true_and, Bool.true_eq_false, if_true, bk_120.2.2.2.2.1, bk_120.2.2.2.2.2.1, mmE, mmE0, mmH, mT, mR, mRf, mAl, mAs, mAz, mAn, Int.reduceToNat, Int32.reduceOfInt, Int64.reduceOfInt, Int.reduceAdd, swE, Nat.reduceDiv, Nat.reduceMod, Nat.reduceAdd, Nat.reduceMul, Nat.reduceEqDiff, Nat.reduceLeDiff, Nat.zero_le, List.length_nil, List.length_cons, Nat.zero_add, true_or, or_true, false_or, or_false, true_and, and_true, and_self, mb_01, mb_t, mb_f, f0, n0E (show m < 2 ^ 31 by omega)]
        by_cases q0 : m = 0
        · simp only [eq_true q0, true_implies, not_true_eq_false, not_false_eq_true, false_implies, and_true, true_and, if_true]
          refine w_lvC (isF_lt (isP_F v1 hP)) hv h eg (fun I1 k1 k2 => ?_)
          simp only [mmE, mmE0, mmH, mT, mR, mRf, mAl, mAs, mAz, mAn, Int.reduceToNat, Int32.reduceOfInt, Int64.reduceOfInt, Int.reduceAdd, swE, Nat.reduceDiv, Nat.reduceMod, Nat.reduceAdd, Nat.reduceMul, Nat.reduceEqDiff, Nat.reduceLeDiff, Nat.zero_le, List.length_nil, List.length_cons, Nat.zero_add, true_or, or_true, false_or, or_false, true_and, and_true, and_self, mb_01, mb_t, mb_f, Option.toList_some, Option.toList_none, List.cons_append, List.nil_append]
          exact ⟨rfl, k1, k2⟩
        · simp only [q0, true_implies, not_true_eq_false, not_false_eq_true, false_implies, and_true, true_and, if_false]
          refine w_hintTo hP hv h eg (fun I1 k1 k2 => ?_)
          simp only [mmE, mmE0, mmH, mT, mR, mRf, mAl, mAs, mAz, mAn, Int.reduceToNat, Int32.reduceOfInt, Int64.reduceOfInt, Int.reduceAdd, swE, Nat.reduceDiv, Nat.reduceMod, Nat.reduceAdd, Nat.reduceMul, Nat.reduceEqDiff, Nat.reduceLeDiff, Nat.zero_le, List.length_nil, List.length_cons, Nat.zero_add, true_or, or_true, false_or, or_false, true_and, and_true, and_self, mb_01, mb_t, mb_f, Option.toList_some, Option.toList_none, List.cons_append, List.nil_append]
          cases en : hntF s (sR s 0).1 with
          | none =>
            simp only [eI_none, true_implies, not_true_eq_false, not_false_eq_true, false_implies, and_true, true_and]
            exact ⟨rfl, k1, k2⟩
          | some t =>
            have tP : isP (sNp s) t := by
              unfold hntF at en
              by_cases q5 : lvF s (sR s 0).1 = 0 ∨ 5 < lvF s (sR s 0).1
              · rw [if_pos q5] at en; cases en
              · rw [if_neg q5] at en
                injection en with en
                rw [← en]
                exact hnt_P (V := lvF s) (hOk_lvl v1) 5 _ hP (by omega)
            have tF := isP_F v1 tP
            have t1 := isF_lt tF
            have tm : (nI t = -1) = False := eq_false (nI_m1' (by omega))
            have e1 : (nI m = 1) = (m = 1) := eq_nI (b := 1) (by omega) (by omega)
            simp only [eI_some, tm, true_implies, not_true_eq_false, not_false_eq_true, false_implies, and_true, true_and, bk_120.2.2.2.2.2.2.1, bk_120.2.2.2.2.2.2.2.1, bk_120.2.2.2.2.2.2.2.2, mmE, mmE0, mmH, mT, mR, mRf, mAl, mAs, mAz, mAn, Int.reduceToNat, Int32.reduceOfInt, Int64.reduceOfInt, Int.reduceAdd, swE, Nat.reduceDiv, Nat.reduceMod, Nat.reduceAdd, Nat.reduceMul, Nat.reduceEqDiff, Nat.reduceLeDiff, Nat.zero_le, List.length_nil, List.length_cons, Nat.zero_add, true_or, or_true, false_or, or_false, true_and, and_true, and_self, mb_01, mb_t, mb_f, Option.toList_some, Option.toList_none, List.cons_append, List.nil_append, e1]
            by_cases q1 : m = 1
            · subst q1
              simp only [true_implies, not_true_eq_false, not_false_eq_true, false_implies, and_true, true_and, c_kindOf, kind_n t1, mmE, mmE0, mmH, mT, mR, mRf, mAl, mAs, mAz, mAn, Int.reduceToNat, Int32.reduceOfInt, Int64.reduceOfInt, Int.reduceAdd, swE, Nat.reduceDiv, Nat.reduceMod, Nat.reduceAdd, Nat.reduceMul, Nat.reduceEqDiff, Nat.reduceLeDiff, Nat.zero_le, List.length_nil, List.length_cons, Nat.zero_add, true_or, or_true, false_or, or_false, true_and, and_true, and_self, mb_01, mb_t, mb_f, Option.toList_some, Option.toList_none, List.cons_append, List.nil_append]
              exact ⟨rfl, k1, k2⟩
            · have es : nI m - 2 = nI (m - 2) := nI_sub (b := 2) (by omega)
              simp only [q1, true_implies, not_true_eq_false, not_false_eq_true, false_implies, and_true, true_and, es]
              have eA : hnA (some t) m = pI t (m - 2) := by show (if m = 1 then nI (kd t) else pI t (m - 2)) = _; rw [if_neg q1]
              by_cases q2 : m - 2 < kdN (kd t)
              · simp only [c_pt tF q2, mmE, mmE0, mmH, mT, mR, mRf, mAl, mAs, mAz, mAn, Int.reduceToNat, Int32.reduceOfInt, Int64.reduceOfInt, Int.reduceAdd, swE, Nat.reduceDiv, Nat.reduceMod, Nat.reduceAdd, Nat.reduceMul, Nat.reduceEqDiff, Nat.reduceLeDiff, Nat.zero_le, List.length_nil, List.length_cons, Nat.zero_add, true_or, or_true, false_or, or_false, true_and, and_true, and_self, mb_01, mb_t, mb_f, Option.toList_some, Option.toList_none, List.cons_append, List.nil_append]
                refine ⟨?_, k1, k2⟩
                rw [eA]
                unfold pI
                rw [if_pos q2]
              · simp only [c_pt_no tF (Nat.le_of_not_lt q2) (show m - 2 < 2 ^ 31 by omega), mmE, mmE0, mmH, mT, mR, mRf, mAl, mAs, mAz, mAn, Int.reduceToNat, Int32.reduceOfInt, Int64.reduceOfInt, Int.reduceAdd, swE, Nat.reduceDiv, Nat.reduceMod, Nat.reduceAdd, Nat.reduceMul, Nat.reduceEqDiff, Nat.reduceLeDiff, Nat.zero_le, List.length_nil, List.length_cons, Nat.zero_add, true_or, or_true, false_or, or_false, true_and, and_true, and_self, mb_01, mb_t, mb_f, Option.toList_some, Option.toList_none, List.cons_append, List.nil_append]
                refine ⟨?_, k1, k2⟩
                rw [eA]
                unfold pI
                rw [if_neg q2]
end LH
