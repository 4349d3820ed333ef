/-! the search of the class: its calls -/
theorem ff_congr {np : Nat} {G G' : List Nat → Bool} (h : ∀ l : List Nat, (∀ x ∈ l, x < np) → G l = G' l) : ∀ (w : Nat) (s : List Nat), (∀ x ∈ s, x < np) → ff np G w s = ff np G' w s
  | 0, s, hs => by
    show (if G s = true then some s else none) = (if G' s = true then some s else none)
    rw [h s hs]
  | w + 1, s, hs => by
    rw [ff_succ, ff_succ]
    refine fs_congr (fun v hv => ff_congr h w _ (fun x hx => ?_))
    rcases List.mem_append.mp hx with q | q
    · exact hs x q
    · rw [List.mem_singleton.mp q]; exact List.mem_range.mp hv
theorem rul_rt {m g : Nat} {t : rt_T} {l : List Nat} (hm : m < 17) (ht : t ∈ (rul m).1 ∨ t = (rul m).2) (hl7 : ∀ j, ls_f l j < 7) (h : rt_f (ls_f l) t = some g) : isF g = true := by
  obtain ⟨t1, t2, t3, t4, _⟩ := tb_rul hm
  rcases ht with ht | ht
  · rw [← t1] at ht
    obtain ⟨p, hp, rfl⟩ := List.mem_map.mp ht
    rw [List.mem_range'_1] at hp
    exact (rt_f_lt (show p < 48 by omega) hl7 h).1
  · rw [ht, ← t2] at h
    exact (rt_f_lt (show fp (m + 1) - 1 < 48 by omega) hl7 h).1
theorem fl_congr {np m f : Nat} {kn kn' : Nat → Bool} (hnp : np ≤ 7) (hm : m < 17) (h : ∀ g, isF g = true → kn g = kn' g) : fl np m f kn = fl np m f kn' := by
  unfold fl
  refine ff_congr (fun l hl => ?_) _ _ (fun x hx => by cases hx)
  unfold gG
  congr 1
  rw [Bool.eq_iff_iff, List.all_eq_true, List.all_eq_true]
  have key : ∀ t ∈ (rul m).1, gkn kn (rt_f (ls_f l) t) = gkn kn' (rt_f (ls_f l) t) := by
    intro t ht
    cases e : rt_f (ls_f l) t with
    | none => rfl
    | some g => exact h g (rul_rt hm (Or.inl ht) (ls_7 hnp hl) e)
  constructor
  · intro q t ht
    rw [← key t ht]; exact q t ht
  · intro q t ht
    rw [key t ht]; exact q t ht
theorem dA_le {w : Nat} (h : w ≤ 5) : dA w ≤ 22409 := by
  rcases (show w = 0 ∨ w = 1 ∨ w = 2 ∨ w = 3 ∨ w = 4 ∨ w = 5 by omega) with rfl | rfl | rfl | rfl | rfl | rfl <;> decide
section PR
variable {z : mm_S} {d : Nat} {I : mm_I} {J : mm_J} {np f bl : Nat} {S : al_S} {ls : List Nat} {Q : Option Value → mm_I → mm_J → Prop}
theorem w_find {m : Nat} (hm : m < 17) (h : srep I np f bl S ls) (K : match fl np m f (skn bl S ls) with
    | some lf => ∀ I', sfr I I' → srep I' np f bl S ls → srul I' m → (∀ j, j < ltr m → I' 123 j = nI (ls_f lf j)) → Q (some (.int 1)) I' J
    | none => ∀ I', sfr I I' → srep I' np f bl S ls → Q (some (.int 0)) I' J) : mm_call z (d + 5) 71 [.ref 122, .int (nI m)] I J Q := by
  obtain ⟨t1, t2, t3, t4, t5, k7, l6⟩ := tb_rul hm
  have hnp := h.2.2.1.2.2.1
  have hp48 : fp (m + 1) - 1 < 48 := by omega
  have L1 : 1 ≤ ltr m := by unfold ltr; omega
  simp only [ce_71, bk_71.1, mmE, mmE0, mmH, mT, mR, mRf, mAl, mAs, mAz, mAn, Int.reduceToNat, Int32.reduceOfInt, Int64.reduceOfInt, Int.reduceAdd, swE, Nat.reduceDiv, Nat.reduceMod, Nat.reduceAdd, Nat.reduceMul, Nat.reduceEqDiff, Nat.reduceLeDiff, Nat.zero_le, List.length_nil, List.length_cons, Nat.zero_add, true_or, or_true, false_or, or_false, true_and, and_true, and_self, mb_01, mb_t, mb_f]
  refine w_isRule hm h (fun hk I1 g1 g2 h1 r1 a1 => ?_) (fun hk I1 g1 h1 => ?_)
  · have cp := fun (z : mm_S) (d : Nat) => c_partAt (z := z) (d := d) (I := I1) (J := J) hp48 (show 5 < 6 by omega)
    rw [show nI 5 = 5 from rfl, t2, show pc (rul m).2 5 = ltr m - 1 from rfl] at cp
    have e10 : ((1 : Int32) = 0) = False := by decide
    have x06 : vp_in 0 6 = True := (ix6 (x := 0) (by omega)).1
    simp only [bk_71.2.1, mmE, mmE0, mmH, mT, mR, mRf, mAl, mAs, mAz, mAn, Int.reduceToNat, Int32.reduceOfInt, Int64.reduceOfInt, Int.reduceAdd, swE, Nat.reduceDiv, Nat.reduceMod, Nat.reduceAdd, Nat.reduceMul, Nat.reduceEqDiff, Nat.reduceLeDiff, Nat.zero_le, List.length_nil, List.length_cons, Nat.zero_add, true_or, or_true, false_or, or_false, true_and, and_true, and_self, mb_01, mb_t, mb_f, Option.toList_some, Option.toList_none, List.cons_append, List.nil_append, e10, r1.2, cp, x06, c06, true_implies, not_true_eq_false, not_false_eq_true, false_implies, and_true, true_and]
    have f2 : frL I1 (mm_wI I1 123 0 (-1)) := fun k hk => by funext x; rw [mWI, if_neg hk]
    have dl := dA_le (w := ltr m - 1) (by omega)
    have dn := Nat.mul_le_mul hnp dl
    have := dfs_all (z := z) (d := d) (J := J) (Q := Q) (np := np) (f := f) (bl := bl) (S := S) (ls := ls) hm (ltr m - 1) np [] 0 0 (mm_wI I1 123 0 (-1)) (by show 0 + (ltr m - 1 + 1) = ltr m; omega) (by omega) (fun x hx => by cases hx) (fun q hq => by cases hq) (by omega) (srep_fr h1 (frL_s f2)) ⟨by rw [f2 _ (by decide)]; exact r1.1, by rw [f2 _ (by decide)]; exact r1.2⟩ (fun j hj => by rw [f2 _ (by decide)]; exact a1 j hj) (fun j hj => by cases hj) (by show mm_wI I1 123 0 (-1) 123 0 = _; rw [mWI, if_pos rfl, if_pos rfl]; rfl)
    refine this ?_
    have ef : (List.range' 0 np).findSome? (fun u => ff np (gG m f (skn bl S ls)) (ltr m - 1) ([] ++ [u])) = fl np m f (skn bl S ls) := by
      unfold fl
      rw [← List.range_eq_range', show ltr m = ltr m - 1 + 1 by omega, ff_succ]
      rfl
    rw [ef]
    cases e : fl np m f (skn bl S ls) with
    | some lf =>
      rw [e] at K
      intro I3 k1 k2
      have s3 := sfr_tr (frL_s f2) (frL_s k1)
      exact K I3 (sfr_tr g1 s3) (srep_fr h1 s3) ⟨by rw [k1 _ (by decide), f2 _ (by decide)]; exact r1.1, by rw [k1 _ (by decide), f2 _ (by decide)]; exact r1.2⟩ k2
    | none =>
      rw [e] at K
      intro I3 t3 k1 k2 k3
      have s3 := sfr_tr (frL_s f2) (frL_s k1)
      rw [hk_71_31]
      have c1 : (1000000 ≤ nI t3) = False := by rw [show (1000000 : Int32) = nI 1000000 from rfl, le_nI (by omega) (by omega)]; exact eq_false (by omega)
      have c2 : ((nI ([] : List Nat).length - 1 : Int32) < 0) = True := pd0
      simp only [bk_71.2.2.2.2.2, mmE, mmE0, mmH, mT, mR, mRf, mAl, mAs, mAz, mAn, Int.reduceToNat, Int32.reduceOfInt, Int64.reduceOfInt, Int.reduceAdd, swE, Nat.reduceDiv, Nat.reduceMod, Nat.reduceAdd, Nat.reduceMul, Nat.reduceEqDiff, Nat.reduceLeDiff, Nat.zero_le, List.length_nil, List.length_cons, Nat.zero_add, true_or, or_true, false_or, or_false, true_and, and_true, and_self, mb_01, mb_t, mb_f, c1, pd0, z01, true_implies, not_true_eq_false, not_false_eq_true, false_implies, and_true, true_and]
      exact K I3 (sfr_tr g1 s3) (srep_fr h1 s3)
  · simp only [mmE, mmE0, mmH, mT, mR, mRf, mAl, mAs, mAz, mAn, Int.reduceToNat, Int32.reduceOfInt, Int64.reduceOfInt, Int.reduceAdd, swE, Nat.reduceDiv, Nat.reduceMod, Nat.reduceAdd, Nat.reduceMul, Nat.reduceEqDiff, Nat.reduceLeDiff, Nat.zero_le, List.length_nil, List.length_cons, Nat.zero_add, true_or, or_true, false_or, or_false, true_and, and_true, and_self, mb_01, mb_t, mb_f, Option.toList_some, Option.toList_none, List.cons_append, List.nil_append, z01, true_implies, not_true_eq_false, not_false_eq_true, false_implies, and_true, true_and]
    have e : fl np m f (skn bl S ls) = none := by
      unfold fl
      refine ff_none _ _ (fun t ht hx => ?_)
      cases e : gG m f (skn bl S ls) ([] ++ t) with
      | false => rfl
      | true =>
        exfalso
        unfold gG at e
        rw [Bool.and_eq_true] at e
        have hl7 : ∀ j, ls_f ([] ++ t) j < 7 := ls_7 hnp (fun x hx' => hx x hx')
        exact hk (nn_kd k7 (hl7 _) (hl7 _) (hl7 _) (hl7 _) (beq_iff_eq.mp e.2)).1.symm
    rw [e] at K
    exact K I1 g1 h1
/-- the search before a target -/
def sls (I : mm_I) (np : Nat) (S : al_S) (ls : List Nat) : Prop := (I 122 5 = nI np ∧ I 122 3 = nI ls.length) ∧ (ls.length ≤ 6 ∧ (∀ x ∈ ls, x < 1180) ∧ ∀ i, i < ls.length → I 124 i = nI (ls.getD i 0)) ∧ rl_rep I np S
theorem w_ffl {m : Nat} (hm : m < 17) (hf : isP np f) (h : sls I np S ls) (k : ∀ I', (∀ k, k < 122 ∨ 125 < k → I' k = I k) → Q (some (.int (mb (fl np m f fun g => ls.contains g).isSome))) I' J) : mm_call z (d + 6) 70 [.ref 122, .int (nI f), .int (nI m)] I J Q := by
  simp only [ce_70, bk_70, mmE, mmE0, mmH, mT, mR, mRf, mAl, mAs, mAz, mAn, Int.reduceToNat, Int32.reduceOfInt, Int64.reduceOfInt, Int.reduceAdd, swE, Nat.reduceDiv, Nat.reduceMod, Nat.reduceAdd, Nat.reduceMul, Nat.reduceEqDiff, Nat.reduceLeDiff, Nat.zero_le, List.length_nil, List.length_cons, Nat.zero_add, true_or, or_true, false_or, or_false, true_and, and_true, and_self, mb_01, mb_t, mb_f]
  obtain ⟨⟨a1, a2⟩, b, c⟩ := h
  have w0 : ∀ k, k ≠ 122 → mm_wI (mm_wI I 122 6 (nI f)) 122 7 0 k = I k := fun k hk => by funext q; rw [mWI, if_neg hk, mWI, if_neg hk]
  have h0 : srep (mm_wI (mm_wI I 122 6 (nI f)) 122 7 0) np f 0 S ls := by
    refine ⟨⟨?_, ?_, ?_, ?_⟩, ⟨b.1, b.2.1, fun i hi => ?_⟩, rl_c (fun k _ _ => w0 k (by omega)) c, by omega, hf⟩
    · rw [mWI, if_pos rfl, if_neg (by decide), mWI, if_pos rfl, if_neg (by decide)]; exact a1
    · rw [mWI, if_pos rfl, if_neg (by decide), mWI, if_pos rfl, if_pos rfl]
    · rw [mWI, if_pos rfl, if_pos rfl]; rfl
    · rw [mWI, if_pos rfl, if_neg (by decide), mWI, if_pos rfl, if_neg (by decide)]; exact a2
    · rw [w0 _ (by decide)]; exact b.2.2 i hi
  refine w_find hm h0 ?_
  have e0 : skn 0 S ls = fun g => ls.contains g := by
    funext g
    unfold skn
    rw [if_neg (by omega)]
  rw [e0]
  cases e : fl np m f (fun g => ls.contains g) with
  | some lf =>
    rw [e] at k
    intro I1 g1 _ _ _
    simp only [mmE, mmE0, mmH, mT, mR, mRf, mAl, mAs, mAz, mAn, Int.reduceToNat, Int32.reduceOfInt, Int64.reduceOfInt, Int.reduceAdd, swE, Nat.reduceDiv, Nat.reduceMod, Nat.reduceAdd, Nat.reduceMul, Nat.reduceEqDiff, Nat.reduceLeDiff, Nat.zero_le, List.length_nil, List.length_cons, Nat.zero_add, true_or, or_true, false_or, or_false, true_and, and_true, and_self, mb_01, mb_t, mb_f, Option.toList_some, Option.toList_none, List.cons_append, List.nil_append, z01]
    exact k I1 (fun c hc => (g1.1 c (by omega) (by omega) (by omega)).trans (w0 c (by omega)))
  | none =>
    rw [e] at k
    intro I1 g1 _
    simp only [mmE, mmE0, mmH, mT, mR, mRf, mAl, mAs, mAz, mAn, Int.reduceToNat, Int32.reduceOfInt, Int64.reduceOfInt, Int.reduceAdd, swE, Nat.reduceDiv, Nat.reduceMod, Nat.reduceAdd, Nat.reduceMul, Nat.reduceEqDiff, Nat.reduceLeDiff, Nat.zero_le, List.length_nil, List.length_cons, Nat.zero_add, true_or, or_true, false_or, or_false, true_and, and_true, and_self, mb_01, mb_t, mb_f, Option.toList_some, Option.toList_none, List.cons_append, List.nil_append, z01]
    exact k I1 (fun c hc => (g1.1 c (by omega) (by omega) (by omega)).trans (w0 c (by omega)))
/-- the search is made ready, a fact is listed -/
theorem w_srestart (hl : rl_rep I np S) (k : ∀ I', sls I' np S [] → (∀ k, k ≠ 122 → I' k = I k) → Q none I' J) : mm_call z (d + 1) 68 [.ref 122, .int (nI np)] I J Q := by
  simp only [ce_68, bk_68, mmE, mmE0, mmH, mT, mR, mRf, mAl, mAs, mAz, mAn, Int.reduceToNat, Int32.reduceOfInt, Int64.reduceOfInt, Int.reduceAdd, swE, Nat.reduceDiv, Nat.reduceMod, Nat.reduceAdd, Nat.reduceMul, Nat.reduceEqDiff, Nat.reduceLeDiff, Nat.zero_le, List.length_nil, List.length_cons, Nat.zero_add, true_or, or_true, false_or, or_false, true_and, and_true, and_self, mb_01, mb_t, mb_f]
  have w0 : ∀ k, k ≠ 122 → mm_wI (mm_wI I 122 5 (nI np)) 122 3 0 k = I k := fun k hk => by funext q; rw [mWI, if_neg hk, mWI, if_neg hk]
  refine k _ ⟨⟨?_, ?_⟩, ⟨by show 0 ≤ 6; omega, (fun x hx => by cases hx), fun i hi => by cases hi⟩, rl_c (fun k _ _ => w0 k (by omega)) hl⟩ w0
  · rw [mWI, if_pos rfl, if_neg (by decide), mWI, if_pos rfl, if_pos rfl]
  · rw [mWI, if_pos rfl, if_pos rfl]; rfl
theorem w_list {g : Nat} (hg : g < 1180) (hl : ls.length < 6) (h : sls I np S ls) (k : ∀ I', sls I' np S (ls ++ [g]) → (∀ k, k ≠ 122 → k ≠ 124 → I' k = I k) → Q none I' J) : mm_call z (d + 1) 69 [.ref 122, .int (nI g)] I J Q := by
  obtain ⟨⟨a1, a2⟩, ⟨b1, b2, b3⟩, c⟩ := h
  have c1 : (nI ls.length < 6) = True := eq_true (nI_lt (b := 6) hl (by decide))
  have c4 : mm_wI I 124 ls.length (nI g) 122 3 = nI ls.length := by rw [mWI, if_neg (by decide)]; exact a2
  simp only [ce_69, bk_69, mmE, mmE0, mmH, mT, mR, mRf, mAl, mAs, mAz, mAn, Int.reduceToNat, Int32.reduceOfInt, Int64.reduceOfInt, Int.reduceAdd, swE, Nat.reduceDiv, Nat.reduceMod, Nat.reduceAdd, Nat.reduceMul, Nat.reduceEqDiff, Nat.reduceLeDiff, Nat.zero_le, List.length_nil, List.length_cons, Nat.zero_add, true_or, or_true, false_or, or_false, true_and, and_true, and_self, mb_01, mb_t, mb_f, a2, nneg (show ls.length < 2 ^ 31 by omega), c1, ix6 hl, c4, true_implies, not_true_eq_false, not_false_eq_true, false_implies, and_true, true_and]
  rw [← nI_succ]
  have w0 : ∀ k, k ≠ 122 → k ≠ 124 → mm_wI (mm_wI I 124 ls.length (nI g)) 122 3 (nI (ls.length + 1)) k = I k := fun k hk hk2 => by funext q; rw [mWI, if_neg hk, mWI, if_neg hk2]
  have hle : (ls ++ [g]).length = ls.length + 1 := by rw [List.length_append]; rfl
  refine k _ ⟨⟨?_, ?_⟩, ⟨by rw [hle]; omega, fun x hx => ?_, fun i hi => ?_⟩, rl_c (fun k _ _ => w0 k (by omega) (by omega)) c⟩ w0
  · rw [mWI, if_pos rfl, if_neg (by decide), mWI, if_neg (by decide)]; exact a1
  · rw [mWI, if_pos rfl, if_pos rfl, hle]
  · rcases List.mem_append.mp hx with q | q
    · exact b2 x q
    · rw [List.mem_singleton.mp q]; exact hg
  · rw [hle] at hi
    rw [mWI, if_neg (by decide), mWI, if_pos rfl]
    by_cases e : i = ls.length
    · rw [if_pos e, e, List.getD_eq_getElem?_getD, List.getElem?_append_right (Nat.le_refl _), Nat.sub_self]
      rfl
    · rw [if_neg e, List.getD_eq_getElem?_getD, List.getElem?_append_left (by omega), ← List.getD_eq_getElem?_getD]
      exact b3 i (by omega)
/-- the greatest premise -/
def bst (V : Nat → Nat) (b : Option Nat) (g : Nat) : Option Nat := match b with
  | none => some g
  | some b => if V b < V g then some g else some b
theorem bst_gpm {V : Nat → Nat} : ∀ (ps : List Nat), ps ≠ [] → ps.foldl (bst V) none = some (gpm V ps)
  | [], h => absurd rfl h
  | p :: ps, _ => by
    show ps.foldl (bst V) (some p) = some (ps.foldl _ p)
    have : ∀ (ps : List Nat) (p : Nat), ps.foldl (bst V) (some p) = some (ps.foldl (fun b q => if V b < V q then q else b) p) := by
      intro ps
      induction ps with
      | nil => intro p; rfl
      | cons q qs ih =>
        intro p
        rw [List.foldl_cons, List.foldl_cons, ← ih]
        congr 1
        show (if V p < V q then some q else some p) = some (if V p < V q then q else p)
        split <;> rfl
    exact this ps p
theorem w_gp_loop {m : Nat} {lf : List Nat} (hm : m < 17) (hl7 : ∀ j, ls_f lf j < 7) (hL : ∀ j, j < ltr m → I 123 j = nI (ls_f lf j)) (h : srep I np f bl S ls) (hr : srul I m) (hk : ∀ t ∈ (rul m).1, ∃ g, rt_f (ls_f lf) t = some g) : ∀ (w p : Nat) (b : Option Nat) (o3 : Option Value), (∀ x, b = some x → x < 1180) → fp m ≤ p → p + w = fp (m + 1) - 1 → Q (some (.int (eI (((List.range' p w).map fun p => (rt_f (ls_f lf) (prt p)).getD 0).foldl (bst S.1) b)))) I J → mm_at z (mm_call z (d + 3)) (mm_code 79) Q 7 [some (.ref 122), some (.int (eI b)), some (.int (nI p)), o3] [] I J
  | 0, p, b, o3, hb, h1, h2, k => by
    obtain ⟨t1, t2, t3, t4, t5, k7, l6⟩ := tb_rul hm
    rw [hk_79_7]
    have c1 : (nI (fp (m + 1) - 1) ≤ nI p) = True := by rw [le_nI (by omega) (by omega)]; exact eq_true (by omega)
    simp only [bk_79.2.2.2, mmE, mmE0, mmH, mT, mR, mRf, mAl, mAs, mAz, mAn, Int.reduceToNat, Int32.reduceOfInt, Int64.reduceOfInt, Int.reduceAdd, swE, Nat.reduceDiv, Nat.reduceMod, Nat.reduceAdd, Nat.reduceMul, Nat.reduceEqDiff, Nat.reduceLeDiff, Nat.zero_le, List.length_nil, List.length_cons, Nat.zero_add, true_or, or_true, false_or, or_false, true_and, and_true, and_self, mb_01, mb_t, mb_f, hr.2, c1, true_implies, not_true_eq_false, not_false_eq_true, false_implies, and_true, true_and]
    exact k
  | w + 1, p, b, o3, hb, h1, h2, k => by
    obtain ⟨t1, t2, t3, t4, t5, k7, l6⟩ := tb_rul hm
    have hp48 : p < 48 := by omega
    have pm := prt_mem hm h1 (show p < fp (m + 1) - 1 by omega)
    have hL' : ltr m = pw (rul m).2 + 1 := rfl
    have hpw : pw (prt p) < ltr m := by have := t5 _ pm; omega
    obtain ⟨g, hg⟩ := hk _ pm
    have g1 := isF_lt (rt_f_lt hp48 hl7 hg).1
    rw [hk_79_7]
    have c1 : (nI (fp (m + 1) - 1) ≤ nI p) = False := by rw [le_nI (by omega) (by omega)]; exact eq_false (by omega)
    have cf := fun (Q : Option Value → mm_I → mm_J → Prop) => c_factAt (z := z) (d := d) (J := J) hp48 hl7 hL hpw Q
    rw [hg, eI_some] at cf
    have ca := fun (z : mm_S) (d : Nat) => c_at (z := z) (d := d) (J := J) (f := some g) h.2.2.1 (fun x hx => by injection hx with hx; omega)
    rw [eI_some] at ca
    have sg := (h.2.2.1.2.2.2.1 g g1).2
    rw [List.range'_succ, List.map_cons, List.foldl_cons, hg] at k
    have ih := fun b' o3 hb' => w_gp_loop hm hl7 hL h hr hk w (p + 1) b' o3 hb' (by omega) (by omega)
    rw [nI_succ] at ih
    cases b with
    | none =>
      simp only [bk_79.2.1, bk_79.2.2.1, mmE, mmE0, mmH, mT, mR, mRf, mAl, mAs, mAz, mAn, Int.reduceToNat, Int32.reduceOfInt, Int64.reduceOfInt, Int.reduceAdd, swE, Nat.reduceDiv, Nat.reduceMod, Nat.reduceAdd, Nat.reduceMul, Nat.reduceEqDiff, Nat.reduceLeDiff, Nat.zero_le, List.length_nil, List.length_cons, Nat.zero_add, true_or, or_true, false_or, or_false, true_and, and_true, and_self, mb_01, mb_t, mb_f, Option.toList_some, Option.toList_none, List.cons_append, List.nil_append, hr.2, c1, cf, eI_none, true_implies, not_true_eq_false, not_false_eq_true, false_implies, and_true, true_and]
      exact ih (some g) _ (fun x hx => by injection hx with hx; omega) k
    | some b =>
      have b1 := hb b rfl
      have bm : (nI b = -1) = False := eq_false (nI_m1' (by omega))
      have cb := fun (z : mm_S) (d : Nat) => c_at (z := z) (d := d) (J := J) (f := some b) h.2.2.1 (fun x hx => by injection hx with hx; omega)
      rw [eI_some] at cb
      have sb := (h.2.2.1.2.2.2.1 b b1).2
      have c5 : (nI (al_at S (some g)) ≤ nI (al_at S (some b))) = (S.1 g ≤ S.1 b) := le_nI (by show S.1 g < _; omega) (by show S.1 b < _; omega)
      simp only [bk_79.2.1, bk_79.2.2.1, mmE, mmE0, mmH, mT, mR, mRf, mAl, mAs, mAz, mAn, Int.reduceToNat, Int32.reduceOfInt, Int64.reduceOfInt, Int.reduceAdd, swE, Nat.reduceDiv, Nat.reduceMod, Nat.reduceAdd, Nat.reduceMul, Nat.reduceEqDiff, Nat.reduceLeDiff, Nat.zero_le, List.length_nil, List.length_cons, Nat.zero_add, true_or, or_true, false_or, or_false, true_and, and_true, and_self, mb_01, mb_t, mb_f, Option.toList_some, Option.toList_none, List.cons_append, List.nil_append, hr.2, c1, cf, eI_some, bm, ca, cb, c5, true_implies, not_true_eq_false, not_false_eq_true, false_implies, and_true, true_and]
      have k : Q (some (.int (eI (List.foldl (bst S.1) (if S.1 b < S.1 g then some g else some b) ((List.range' (p + 1) w).map fun p => (rt_f (ls_f lf) (prt p)).getD 0))))) I J := k
      by_cases q : S.1 g ≤ S.1 b
      · rw [if_neg (by omega)] at k
        simp only [eq_true q, true_implies, not_true_eq_false, not_false_eq_true, false_implies, and_true, true_and]
        exact ih (some b) _ (fun x hx => by injection hx with hx; omega) k
      · rw [if_pos (by omega)] at k
        simp only [q, true_implies, not_true_eq_false, not_false_eq_true, false_implies, and_true, true_and]
        exact ih (some g) _ (fun x hx => by injection hx with hx; omega) k
theorem w_gp {m : Nat} {lf : List Nat} (hm : m < 17) (hl7 : ∀ j, ls_f lf j < 7) (hL : ∀ j, j < ltr m → I 123 j = nI (ls_f lf j)) (h : srep I np f bl S ls) (hr : srul I m) (hk : ∀ t ∈ (rul m).1, ∃ g, rt_f (ls_f lf) t = some g) (k : Q (some (.int (nI (gpm S.1 ((rul m).1.map fun t => (rt_f (ls_f lf) t).getD 0))))) I J) : mm_call z (d + 4) 79 [.ref 122] I J Q := by
  obtain ⟨t1, t2, t3, t4, t5, k7, l6⟩ := tb_rul hm
  simp only [ce_79, bk_79.1, mmE, mmE0, mmH, mT, mR, mRf, mAl, mAs, mAz, mAn, Int.reduceToNat, Int32.reduceOfInt, Int64.reduceOfInt, Int.reduceAdd, swE, Nat.reduceDiv, Nat.reduceMod, Nat.reduceAdd, Nat.reduceMul, Nat.reduceEqDiff, Nat.reduceLeDiff, Nat.zero_le, List.length_nil, List.length_cons, Nat.zero_add, true_or, or_true, false_or, or_false, true_and, and_true, and_self, mb_01, mb_t, mb_f, hr.1]
  refine w_gp_loop (z := z) (d := d) hm hl7 hL h hr hk (fp (m + 1) - 1 - fp m) (fp m) none _ (fun x hx => by cases hx) (by omega) (by omega) ?_
  have e : ((List.range' (fp m) (fp (m + 1) - 1 - fp m)).map fun p => (rt_f (ls_f lf) (prt p)).getD 0) = (rul m).1.map fun t => (rt_f (ls_f lf) t).getD 0 := by
    rw [← t1, List.map_map]
    rfl
  rw [e, bst_gpm, eI_some]
  · exact k
  · intro q
    have := congrArg List.length q
    rw [List.length_map, ← t1, List.length_map, List.length_range'] at this
    have : fp (m + 1) - 1 - fp m = 0 := this
    omega
/-- what a search may change -/
theorem w_po_loop (h : srep I np f bl S ls) : ∀ (w m : Nat) (I0 : mm_I), m + w = 17 → sfr I I0 → (∀ I', sfr I I' → Q (some (.int (eI ((List.range' m w).findSome? fun m => (fl np m f (skn bl S ls)).map fun lf => gpm S.1 ((rul m).1.map fun t => (rt_f (ls_f lf) t).getD 0))))) I' J) → mm_at z (mm_call z (d + 5)) (mm_code 78) Q 19 [some (.ref 122), some (.int (nI f)), some (.int (nI m))] [] I0 J
  | 0, m, I0, hm, g, k => by
    rw [hk_78_19]
    have c1 : (17 ≤ nI m) = True := by rw [show (17 : Int32) = nI 17 from rfl, le_nI (by omega) (by omega)]; exact eq_true (by omega)
    simp only [bk_78.2.2, mmE, mmE0, mmH, mT, mR, mRf, mAl, mAs, mAz, mAn, Int.reduceToNat, Int32.reduceOfInt, Int64.reduceOfInt, Int.reduceAdd, swE, Nat.reduceDiv, Nat.reduceMod, Nat.reduceAdd, Nat.reduceMul, Nat.reduceEqDiff, Nat.reduceLeDiff, Nat.zero_le, List.length_nil, List.length_cons, Nat.zero_add, true_or, or_true, false_or, or_false, true_and, and_true, and_self, mb_01, mb_t, mb_f, c1, true_implies, not_true_eq_false, not_false_eq_true, false_implies, and_true, true_and]
    exact k I0 g
  | w + 1, m, I0, hm, g, k => by
    have hm17 : m < 17 := by omega
    have hnp := h.2.2.1.2.2.1
    rw [hk_78_19]
    have c1 : (17 ≤ nI m) = False := by rw [show (17 : Int32) = nI 17 from rfl, le_nI (by omega) (by omega)]; exact eq_false (by omega)
    simp only [mmE, mmE0, mmH, mT, mR, mRf, mAl, mAs, mAz, mAn, Int.reduceToNat, Int32.reduceOfInt, Int64.reduceOfInt, Int.reduceAdd, swE, Nat.reduceDiv, Nat.reduceMod, Nat.reduceAdd, Nat.reduceMul, Nat.reduceEqDiff, Nat.reduceLeDiff, Nat.zero_le, List.length_nil, List.length_cons, Nat.zero_add, true_or, or_true, false_or, or_false, true_and, and_true, and_self, mb_01, mb_t, mb_f, c1, true_implies, not_true_eq_false, not_false_eq_true, false_implies, and_true, true_and]
    refine w_find hm17 (srep_fr h g) ?_
    rw [List.range'_succ, List.findSome?_cons] at k
    cases e : fl np m f (skn bl S ls) with
    | some lf =>
      rw [e] at k
      intro I1 g1 h1 r1 l1
      have e10 : ((1 : Int32) = 0) = False := by decide
      simp only [mmE, mmE0, mmH, mT, mR, mRf, mAl, mAs, mAz, mAn, Int.reduceToNat, Int32.reduceOfInt, Int64.reduceOfInt, Int.reduceAdd, swE, Nat.reduceDiv, Nat.reduceMod, Nat.reduceAdd, Nat.reduceMul, Nat.reduceEqDiff, Nat.reduceLeDiff, Nat.zero_le, List.length_nil, List.length_cons, Nat.zero_add, true_or, or_true, false_or, or_false, true_and, and_true, and_self, mb_01, mb_t, mb_f, Option.toList_some, Option.toList_none, List.cons_append, List.nil_append, e10, true_implies, not_true_eq_false, not_false_eq_true, false_implies, and_true, true_and]
      obtain ⟨t, ht1, ht2, ht3, ht4⟩ := ff_some _ _ _ e
      rw [List.nil_append] at ht3
      subst ht3
      unfold gG at ht4
      rw [Bool.and_eq_true] at ht4
      refine w_gp hm17 (ls_7 hnp ht2) l1 h1 r1 (fun t' ht' => ?_) ?_
      · have := List.all_eq_true.mp ht4.1 t' ht'
        cases e2 : rt_f (ls_f lf) t' with
        | none => rw [e2] at this; cases this
        | some g => exact ⟨g, rfl⟩
      · simp only [mmE, mmE0, mmH, mT, mR, mRf, mAl, mAs, mAz, mAn, Int.reduceToNat, Int32.reduceOfInt, Int64.reduceOfInt, Int.reduceAdd, swE, Nat.reduceDiv, Nat.reduceMod, Nat.reduceAdd, Nat.reduceMul, Nat.reduceEqDiff, Nat.reduceLeDiff, Nat.zero_le, List.length_nil, List.length_cons, Nat.zero_add, true_or, or_true, false_or, or_false, true_and, and_true, and_self, mb_01, mb_t, mb_f, Option.toList_some, Option.toList_none, List.cons_append, List.nil_append]
        exact k I1 (sfr_tr g g1)
    | none =>
      rw [e] at k
      intro I1 g1 h1
      simp only [bk_78.2.1, mmE, mmE0, mmH, mT, mR, mRf, mAl, mAs, mAz, mAn, Int.reduceToNat, Int32.reduceOfInt, Int64.reduceOfInt, Int.reduceAdd, swE, Nat.reduceDiv, Nat.reduceMod, Nat.reduceAdd, Nat.reduceMul, Nat.reduceEqDiff, Nat.reduceLeDiff, Nat.zero_le, List.length_nil, List.length_cons, Nat.zero_add, true_or, or_true, false_or, or_false, true_and, and_true, and_self, mb_01, mb_t, mb_f, Option.toList_some, Option.toList_none, List.cons_append, List.nil_append, true_implies, not_true_eq_false, not_false_eq_true, false_implies, and_true, true_and]
      rw [← nI_succ]
      exact w_po_loop h w (m + 1) I1 (by omega) (sfr_tr g g1) k
theorem w_premiseOf (hf : isP np f) (hb : 0 < S.1 f) (h : sls I np S ls) (k : ∀ I', (∀ k, k < 122 ∨ 125 < k → I' k = I k) → (sls I' np S ls) → Q (some (.int (eI (hpm np S.1 f)))) I' J) : mm_call z (d + 6) 78 [.ref 122, .int (nI f)] I J Q := by
  obtain ⟨⟨a1, a2⟩, b, c⟩ := h
  have hF := isF_lt (isP_F c.2.2.1 hf)
  have s6 := (c.2.2.2.1 f hF).2
  have wt : ∀ k, k ≠ 122 → mm_wI I 122 6 (nI f) k = I k := fun k hk => by funext q; rw [mWI, if_neg hk]
  have ca := fun (z : mm_S) (d : Nat) => c_at (z := z) (d := d) (J := J) (f := some f) (rl_c (I := I) (I' := mm_wI I 122 6 (nI f)) (fun k _ _ => wt k (by omega)) c) (fun x hx => by injection hx with hx; omega)
  rw [eI_some] at ca
  simp only [ce_78, bk_78.1, mmE, mmE0, mmH, mT, mR, mRf, mAl, mAs, mAz, mAn, Int.reduceToNat, Int32.reduceOfInt, Int64.reduceOfInt, Int.reduceAdd, swE, Nat.reduceDiv, Nat.reduceMod, Nat.reduceAdd, Nat.reduceMul, Nat.reduceEqDiff, Nat.reduceLeDiff, Nat.zero_le, List.length_nil, List.length_cons, Nat.zero_add, true_or, or_true, false_or, or_false, true_and, and_true, and_self, mb_01, mb_t, mb_f, Option.toList_some, Option.toList_none, List.cons_append, List.nil_append, ca]
  have w0 : ∀ k, k ≠ 122 → mm_wI (mm_wI I 122 6 (nI f)) 122 7 (nI (al_at S (some f))) k = I k := fun k hk => by funext q; rw [mWI, if_neg hk, mWI, if_neg hk]
  have h0 : srep (mm_wI (mm_wI I 122 6 (nI f)) 122 7 (nI (al_at S (some f)))) np f (S.1 f) S ls := by
    refine ⟨⟨?_, ?_, ?_, ?_⟩, ⟨b.1, b.2.1, fun i hi => ?_⟩, rl_c (fun k _ _ => w0 k (by omega)) c, s6, hf⟩
    · rw [mWI, if_pos rfl, if_neg (by decide), mWI, if_pos rfl, if_neg (by decide)]; exact a1
    · rw [mWI, if_pos rfl, if_neg (by decide), mWI, if_pos rfl, if_pos rfl]
    · rw [mWI, if_pos rfl, if_pos rfl]; rfl
    · rw [mWI, if_pos rfl, if_neg (by decide), mWI, if_pos rfl, if_neg (by decide)]; exact a2
    · rw [w0 _ (by decide)]; exact b.2.2 i hi
  refine w_po_loop (z := z) (d := d) h0 17 0 _ rfl sfr_rf (fun I1 g1 => ?_)
  have g0 : ∀ k, k < 122 ∨ 125 < k → I1 k = I k := fun c hc => (g1.1 c (by omega) (by omega) (by omega)).trans (w0 c (by omega))
  have h1 := srep_fr h0 g1
  have hk := k I1 g0 ⟨⟨h1.1.1, h1.1.2.2.2⟩, h1.2.1, h1.2.2.1⟩
  have e0 : skn (S.1 f) S ls = fun g => decide (S.1 g < S.1 f) := by
    funext g
    unfold skn
    rw [if_pos hb]
  rw [e0]
  exact hk
end PR
