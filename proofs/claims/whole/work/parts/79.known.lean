/-! the search of the class: what is known, and whether parts stand -/
def skn (bl : Nat) (S : al_S) (ls : List Nat) (g : Nat) : Bool := if 0 < bl then decide (S.1 g < bl) else ls.contains g
def srep (I : mm_I) (np f bl : Nat) (S : al_S) (ls : List Nat) : Prop := (I 122 5 = nI np ∧ I 122 6 = nI f ∧ I 122 7 = nI bl ∧ I 122 3 = nI ls.length) ∧ (ls.length ≤ 6 ∧ (∀ x ∈ ls, x < 1180) ∧ ∀ i, i < ls.length → I 124 i = nI (ls.getD i 0)) ∧ rl_rep I np S ∧ bl ≤ 6 ∧ isP np f
def srul (I : mm_I) (m : Nat) : Prop := I 122 8 = nI (fp m) ∧ I 122 9 = nI (fp (m + 1) - 1)
def psT (m f : Nat) (kn : Nat → Bool) (l : List Nat) (place p : Nat) : Bool := !(pw (prt p) == place) || (if p = fp (m + 1) - 1 then rt_f (ls_f l) (prt p) == some f else gkn kn (rt_f (ls_f l) (prt p)))
def psB (m f : Nat) (kn : Nat → Bool) (l : List Nat) (place : Nat) : Bool := (List.range' (fp m) (fp (m + 1) - fp m)).all (psT m f kn l place)
theorem getD_contains {l : List Nat} {g : Nat} : l.contains g = (List.range' 0 l.length).any fun x => l.getD x 0 == g := by
  rw [Bool.eq_iff_iff, List.contains_iff_mem, List.any_eq_true]
  constructor
  · intro q
    obtain ⟨x, hx, e⟩ := List.mem_iff_getElem.mp q
    refine ⟨x, List.mem_range'_1.mpr (by omega), beq_iff_eq.mpr ?_⟩
    rw [List.getD_eq_getElem?_getD, List.getElem?_eq_getElem hx]
    exact e
  · rintro ⟨x, hx, e⟩
    rw [List.mem_range'_1] at hx
    have e := beq_iff_eq.mp e
    rw [List.getD_eq_getElem?_getD, List.getElem?_eq_getElem (by omega)] at e
    rw [← e]
    exact List.getElem_mem _
theorem getD_lt2 {l : List Nat} {m : Nat} (h : ∀ x ∈ l, x < m) {i : Nat} (hi : i < l.length) : l.getD i 0 < m := by
  rw [List.getD_eq_getElem?_getD, List.getElem?_eq_getElem hi]
  exact h _ (List.getElem_mem _)
section KN
variable {z : mm_S} {d : Nat} {I : mm_I} {J : mm_J} {np f bl : Nat} {S : al_S} {ls : List Nat} {Q : Option Value → mm_I → mm_J → Prop}
theorem w_known_loop {g : Nat} (hg : g < 1180) (h : srep I np f bl S ls) : ∀ (w i : Nat), i + w = ls.length → Q (some (.int (mb ((List.range' i w).any fun x => ls.getD x 0 == g)))) I J → mm_at z (mm_call z d) (mm_code 77) Q 37 [some (.ref 122), some (.int (nI g)), some (.int (nI i))] [] I J
  | 0, i, hi, k => by
    have h6 := h.2.1.1
    rw [hk_77_37]
    have c1 : (nI ls.length ≤ nI i) = True := by rw [le_nI (by omega) (by omega)]; exact eq_true (by omega)
    simp only [bk_77.2.2.2.2.2.2, mmE, mmE0, mmH, mT, mR, mRf, mAl, mAs, mAz, mAn, Int.reduceToNat, Int32.reduceOfInt, Int64.reduceOfInt, Int.reduceAdd, swE, Nat.reduceDiv, Nat.reduceMod, Nat.reduceAdd, Nat.reduceMul, Nat.reduceEqDiff, Nat.reduceLeDiff, Nat.zero_le, List.length_nil, List.length_cons, Nat.zero_add, true_or, or_true, false_or, or_false, true_and, and_true, and_self, mb_01, mb_t, mb_f, h.1.2.2.2, c1, z01, true_implies, not_true_eq_false, not_false_eq_true, false_implies, and_true, true_and]
    exact k
  | w + 1, i, hi, k => by
    have h6 := h.2.1.1
    rw [hk_77_37]
    have c1 : (nI ls.length ≤ nI i) = False := by rw [le_nI (by omega) (by omega)]; exact eq_false (by omega)
    have c2 : (6 ≤ nI i) = False := by rw [show (6 : Int32) = nI 6 from rfl, le_nI (by omega) (by omega)]; exact eq_false (by omega)
    have c3 : (nI (ls.getD i 0) = nI g) = (ls.getD i 0 = g) := eq_nI (by have := getD_lt2 h.2.1.2.1 (show i < ls.length by omega); omega) (by omega)
    have ih := w_known_loop hg h w (i + 1) (by omega)
    rw [nI_succ] at ih
    rw [List.range'_succ, List.any_cons] at k
    simp only [bk_77.2.2.2.2.2.1, mmE, mmE0, mmH, mT, mR, mRf, mAl, mAs, mAz, mAn, Int.reduceToNat, Int32.reduceOfInt, Int64.reduceOfInt, Int.reduceAdd, swE, Nat.reduceDiv, Nat.reduceMod, Nat.reduceAdd, Nat.reduceMul, Nat.reduceEqDiff, Nat.reduceLeDiff, Nat.zero_le, List.length_nil, List.length_cons, Nat.zero_add, true_or, or_true, false_or, or_false, true_and, and_true, and_self, mb_01, mb_t, mb_f, h.1.2.2.2, c1, c2, ix6 (show i < 6 by omega), h.2.1.2.2 i (by omega), c3, z01, true_implies, not_true_eq_false, not_false_eq_true, false_implies, and_true, true_and]
    by_cases q : ls.getD i 0 = g
    · rw [show (ls.getD i 0 == g) = true from beq_iff_eq.mpr q, Bool.true_or] at k
      simp only [eq_true q, true_implies, not_true_eq_false, not_false_eq_true, false_implies, and_true, true_and]
      exact k
    · rw [show (ls.getD i 0 == g) = false from beq_eq_false_iff_ne.mpr q, Bool.false_or] at k
      simp only [q, true_implies, not_true_eq_false, not_false_eq_true, false_implies, and_true, true_and]
      exact ih k
theorem c_isKnown {o : Option Nat} (ho : ∀ x, o = some x → x < 1180) (h : srep I np f bl S ls) (Q : Option Value → mm_I → mm_J → Prop) : mm_call z (d + 2) 77 [.ref 122, .int (eI o)] I J Q = Q (some (.int (mb (gkn (skn bl S ls) o)))) I J := by
  refine mm_ev ?_ Q
  cases o with
  | none =>
    simp only [ce_77, bk_77.1, mmE, mmE0, mmH, mT, mR, mRf, mAl, mAs, mAz, mAn, Int.reduceToNat, Int32.reduceOfInt, Int64.reduceOfInt, Int.reduceAdd, swE, Nat.reduceDiv, Nat.reduceMod, Nat.reduceAdd, Nat.reduceMul, Nat.reduceEqDiff, Nat.reduceLeDiff, Nat.zero_le, List.length_nil, List.length_cons, Nat.zero_add, true_or, or_true, false_or, or_false, true_and, and_true, and_self, mb_01, mb_t, mb_f, eI_none, z01, true_implies, not_true_eq_false, not_false_eq_true, false_implies, and_true, true_and]
    rfl
  | some g =>
    have hg := ho g rfl
    have gm : (nI g = -1) = False := eq_false (nI_m1' (by omega))
    have b6 := h.2.2.2.1
    have c1 : (nI bl ≤ 0) = (bl ≤ 0) := le_nI (b := 0) (by omega) (by omega)
    have ca := fun (z : mm_S) (d : Nat) => c_at (z := z) (d := d) (J := J) (f := some g) h.2.2.1 (fun x hx => by injection hx with hx; omega)
    have s6 := (h.2.2.1.2.2.2.1 g hg).2
    have c2 : (nI bl ≤ nI (al_at S (some g))) = (bl ≤ S.1 g) := le_nI (by omega) (by show S.1 g < _; omega)
    rw [eI_some] at ca
    simp only [ce_77, bk_77.1, bk_77.2.1, bk_77.2.2.1, bk_77.2.2.2.1, bk_77.2.2.2.2.1, mmE, mmE0, mmH, mT, mR, mRf, mAl, mAs, mAz, mAn, Int.reduceToNat, Int32.reduceOfInt, Int64.reduceOfInt, Int.reduceAdd, swE, Nat.reduceDiv, Nat.reduceMod, Nat.reduceAdd, Nat.reduceMul, Nat.reduceEqDiff, Nat.reduceLeDiff, Nat.zero_le, List.length_nil, List.length_cons, Nat.zero_add, true_or, or_true, false_or, or_false, true_and, and_true, and_self, mb_01, mb_t, mb_f, Option.toList_some, Option.toList_none, List.cons_append, List.nil_append, eI_some, gm, h.1.2.2.1, c1, ca, c2, z01, true_implies, not_true_eq_false, not_false_eq_true, false_implies, and_true, true_and]
    unfold gkn skn
    by_cases q : bl ≤ 0
    · simp only [eq_true q, true_implies, not_true_eq_false, not_false_eq_true, false_implies, and_true, true_and]
      rw [if_neg (by omega), getD_contains]
      exact w_known_loop (z := z) (d := d + 1) hg h ls.length 0 (by omega) ⟨rfl, rfl, rfl⟩
    · simp only [q, true_implies, not_true_eq_false, not_false_eq_true, false_implies, and_true, true_and]
      rw [if_pos (by omega)]
      by_cases q2 : bl ≤ S.1 g
      · rw [decide_eq_false (by omega)]
        simp only [eq_true q2, true_implies, not_true_eq_false, not_false_eq_true, false_implies, and_true, true_and, mb_f]
      · rw [decide_eq_true (by omega)]
        simp only [q2, true_implies, not_true_eq_false, not_false_eq_true, false_implies, and_true, true_and, mb_t]
theorem rt_f_lt {l : List Nat} {p g : Nat} (hp : p < 48) (hl7 : ∀ j, ls_f l j < 7) (h : rt_f (ls_f l) (prt p) = some g) : isF g = true ∧ kd g = (prt p).1 := by
  have := nn_kd (tb_prt p hp).1 (hl7 _) (hl7 _) (hl7 _) (hl7 _) h
  exact ⟨this.2, this.1⟩
theorem w_stand_loop {m n place : Nat} {l : List Nat} (hm : m < 17) (hl7 : ∀ j, ls_f l j < 7) (hL : ∀ j, j < n → I 123 j = nI (ls_f l j)) (hpl : place < n) (hp6 : place < 6) (h : srep I np f bl S ls) (hr : srul I m) : ∀ (w p : Nat) (o3 : Option Value), fp m ≤ p → p + w = fp (m + 1) → Q (some (.int (mb ((List.range' p w).all (psT m f (skn bl S ls) l place))))) I J → mm_at z (mm_call z (d + 3)) (mm_code 74) Q 5 [some (.ref 122), some (.int (nI place)), some (.int (nI p)), o3] [] I J
  | 0, p, o3, hp, hw, k => by
    obtain ⟨_, _, t3, t4, _⟩ := tb_rul hm
    rw [hk_74_5]
    have c1 : (nI (fp (m + 1) - 1) < nI p) = True := by rw [lt_nI (by omega) (by omega)]; exact eq_true (by omega)
    simp only [bk_74.2.2.2.2.2, mmE, mmE0, mmH, mT, mR, mRf, mAl, mAs, mAz, mAn, Int.reduceToNat, Int32.reduceOfInt, Int64.reduceOfInt, Int.reduceAdd, swE, Nat.reduceDiv, Nat.reduceMod, Nat.reduceAdd, Nat.reduceMul, Nat.reduceEqDiff, Nat.reduceLeDiff, Nat.zero_le, List.length_nil, List.length_cons, Nat.zero_add, true_or, or_true, false_or, or_false, true_and, and_true, and_self, mb_01, mb_t, mb_f, hr.2, c1, z01, true_implies, not_true_eq_false, not_false_eq_true, false_implies, and_true, true_and]
    exact k
  | w + 1, p, o3, hp, hw, k => by
    obtain ⟨_, _, t3, t4, _⟩ := tb_rul hm
    have hp48 : p < 48 := by omega
    rw [hk_74_5]
    have c1 : (nI (fp (m + 1) - 1) < nI p) = False := by rw [lt_nI (by omega) (by omega)]; exact eq_false (by omega)
    have p6 := (tb_prt p hp48).2
    have cp := fun (z : mm_S) (d : Nat) => c_partAt (z := z) (d := d) (I := I) (J := J) hp48 (show 5 < 6 by omega)
    rw [show nI 5 = 5 from rfl] at cp
    have c2 : (nI (pc (prt p) 5) = nI place) = (pw (prt p) = place) := eq_nI (by show pw (prt p) < _; omega) (by omega)
    have ih := fun o3 => w_stand_loop hm hl7 hL hpl hp6 h hr w (p + 1) o3 (by omega) (by omega)
    rw [nI_succ] at ih
    rw [List.range'_succ, List.all_cons] at k
    simp only [mmE, mmE0, mmH, mT, mR, mRf, mAl, mAs, mAz, mAn, Int.reduceToNat, Int32.reduceOfInt, Int64.reduceOfInt, Int.reduceAdd, swE, Nat.reduceDiv, Nat.reduceMod, Nat.reduceAdd, Nat.reduceMul, Nat.reduceEqDiff, Nat.reduceLeDiff, Nat.zero_le, List.length_nil, List.length_cons, Nat.zero_add, true_or, or_true, false_or, or_false, true_and, and_true, and_self, mb_01, mb_t, mb_f, Option.toList_some, Option.toList_none, List.cons_append, List.nil_append, hr.2, c1, cp, c2, true_implies, not_true_eq_false, not_false_eq_true, false_implies, and_true, true_and]
    by_cases q : pw (prt p) = place
    · have hpw : pw (prt p) < n := by omega
      have e1 : psT m f (skn bl S ls) l place p = (if p = fp (m + 1) - 1 then rt_f (ls_f l) (prt p) == some f else gkn (skn bl S ls) (rt_f (ls_f l) (prt p))) := by
        unfold psT
        rw [show (pw (prt p) == place) = true from beq_iff_eq.mpr q]
        rfl
      rw [e1] at k
      have c3 : (nI p = nI (fp (m + 1) - 1)) = (p = fp (m + 1) - 1) := eq_nI (by omega) (by omega)
      have fP := isF_lt (isP_F h.2.2.1.2.2.1 h.2.2.2.2)
      have c4 : (eI (rt_f (ls_f l) (prt p)) = nI f) = (rt_f (ls_f l) (prt p) = some f) := by
        cases e : rt_f (ls_f l) (prt p) with
        | none =>
          refine propext ⟨fun q => ?_, fun q => by cases q⟩
          exact absurd q.symm (nI_m1' (by omega))
        | some g =>
          have := isF_lt (rt_f_lt hp48 hl7 e).1
          rw [eI_some, eq_nI (by omega) (by omega), Option.some_inj]
      simp only [eq_true q, true_implies, not_true_eq_false, not_false_eq_true, false_implies, and_true, true_and, bk_74.2.1, bk_74.2.2.1, bk_74.2.2.2.1, bk_74.2.2.2.2.1, mmE, mmE0, mmH, mT, mR, mRf, mAl, mAs, mAz, mAn, Int.reduceToNat, Int32.reduceOfInt, Int64.reduceOfInt, Int.reduceAdd, swE, Nat.reduceDiv, Nat.reduceMod, Nat.reduceAdd, Nat.reduceMul, Nat.reduceEqDiff, Nat.reduceLeDiff, Nat.zero_le, List.length_nil, List.length_cons, Nat.zero_add, true_or, or_true, false_or, or_false, true_and, and_true, and_self, mb_01, mb_t, mb_f, Option.toList_some, Option.toList_none, List.cons_append, List.nil_append, c_factAt hp48 hl7 hL hpw, hr.2, c3, h.1.2.1, c4, c_isKnown (fun x hx => isF_lt (rt_f_lt hp48 hl7 hx).1) h, mb_0, z01]
      by_cases q1 : p = fp (m + 1) - 1
      · rw [if_pos q1] at k
        simp only [eq_true q1, true_implies, not_true_eq_false, not_false_eq_true, false_implies, and_true, true_and]
        by_cases q2 : rt_f (ls_f l) (prt p) = some f
        · rw [show (rt_f (ls_f l) (prt p) == some f) = true from beq_iff_eq.mpr q2, Bool.true_and] at k
          simp only [eq_true q2, true_implies, not_true_eq_false, not_false_eq_true, false_implies, and_true, true_and]
          exact ih _ k
        · rw [show (rt_f (ls_f l) (prt p) == some f) = false from beq_eq_false_iff_ne.mpr q2, Bool.false_and] at k
          simp only [q2, true_implies, not_true_eq_false, not_false_eq_true, false_implies, and_true, true_and]
          exact k
      · rw [if_neg q1] at k
        simp only [q1, true_implies, not_true_eq_false, not_false_eq_true, false_implies, and_true, true_and]
        cases e2 : gkn (skn bl S ls) (rt_f (ls_f l) (prt p)) with
        | true =>
          rw [e2, Bool.true_and] at k
          simp only [Bool.true_eq_false, true_implies, not_true_eq_false, not_false_eq_true, false_implies, and_true, true_and]
          exact ih _ k
        | false =>
          rw [e2, Bool.false_and] at k
          simp only [true_implies, not_true_eq_false, not_false_eq_true, false_implies, and_true, true_and]
          exact k
    · have e1 : psT m f (skn bl S ls) l place p = true := by
        unfold psT
        rw [show (pw (prt p) == place) = false from beq_eq_false_iff_ne.mpr q]
        rfl
      rw [e1, Bool.true_and] at k
      simp only [q, true_implies, not_true_eq_false, not_false_eq_true, false_implies, and_true, true_and, bk_74.2.2.2.2.1, mmE, mmE0, mmH, mT, mR, mRf, mAl, mAs, mAz, mAn, Int.reduceToNat, Int32.reduceOfInt, Int64.reduceOfInt, Int.reduceAdd, swE, Nat.reduceDiv, Nat.reduceMod, Nat.reduceAdd, Nat.reduceMul, Nat.reduceEqDiff, Nat.reduceLeDiff, Nat.zero_le, List.length_nil, List.length_cons, Nat.zero_add, true_or, or_true, false_or, or_false, true_and, and_true, and_self, mb_01, mb_t, mb_f]
      exact ih _ k
theorem c_stand {m n place : Nat} {l : List Nat} (hm : m < 17) (hl7 : ∀ j, ls_f l j < 7) (hL : ∀ j, j < n → I 123 j = nI (ls_f l j)) (hpl : place < n) (hp6 : place < 6) (h : srep I np f bl S ls) (hr : srul I m) (Q : Option Value → mm_I → mm_J → Prop) : mm_call z (d + 4) 74 [.ref 122, .int (nI place)] I J Q = Q (some (.int (mb (psB m f (skn bl S ls) l place)))) I J := by
  refine mm_ev ?_ Q
  obtain ⟨_, _, t3, t4, _⟩ := tb_rul hm
  simp only [ce_74, bk_74.1, mmE, mmE0, mmH, mT, mR, mRf, mAl, mAs, mAz, mAn, Int.reduceToNat, Int32.reduceOfInt, Int64.reduceOfInt, Int.reduceAdd, swE, Nat.reduceDiv, Nat.reduceMod, Nat.reduceAdd, Nat.reduceMul, Nat.reduceEqDiff, Nat.reduceLeDiff, Nat.zero_le, List.length_nil, List.length_cons, Nat.zero_add, true_or, or_true, false_or, or_false, true_and, and_true, and_self, mb_01, mb_t, mb_f, hr.1]
  exact w_stand_loop (z := z) (d := d) hm hl7 hL hpl hp6 h hr (fp (m + 1) - fp m) (fp m) _ (by omega) (by omega) ⟨rfl, rfl, rfl⟩
end KN
