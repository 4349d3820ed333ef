/-! the class's grading: what it asks -/
def gmN (g : Nat → Bool) : Nat → Int32
  | 0 => 0
  | i + 1 => if g i = true then gmN g i ||| (1 : Int32) <<< (nI i &&& 31) else gmN g i
def gB (a b c d e f : Bool) (i : Nat) : Bool := [a, b, c, d, e, f].getD i false
set_option maxRecDepth 100000 in
theorem gm_dec : ∀ a b c d e f : Bool, ∀ n, n < 7 → (∀ i, i < n → bt (gmN (gB a b c d e f) n) i = gB a b c d e f i) ∧ (decide (gmN (gB a b c d e f) n = 0) = !(List.range' 0 n).any (gB a b c d e f)) := by decide +kernel
theorem gmN_c {g g' : Nat → Bool} : ∀ {n : Nat}, (∀ i, i < n → g i = g' i) → gmN g n = gmN g' n
  | 0, _ => rfl
  | n + 1, h => by
    show (if g n = true then _ else _) = (if g' n = true then _ else _)
    rw [h n (by omega), gmN_c (n := n) (fun i hi => h i (by omega))]
theorem gB_at {g : Nat → Bool} {i : Nat} (hi : i < 6) : g i = gB (g 0) (g 1) (g 2) (g 3) (g 4) (g 5) i := by
  rcases (show i = 0 ∨ i = 1 ∨ i = 2 ∨ i = 3 ∨ i = 4 ∨ i = 5 by omega) with rfl | rfl | rfl | rfl | rfl | rfl <;> rfl
theorem gm_bit {g : Nat → Bool} {n i : Nat} (hn : n ≤ 6) (hi : i < n) : bt (gmN g n) i = g i := by
  rw [gmN_c (g' := gB (g 0) (g 1) (g 2) (g 3) (g 4) (g 5)) (fun i h => gB_at (by omega)), (gm_dec _ _ _ _ _ _ n (by omega)).1 i hi, ← gB_at (by omega)]
theorem gm_0 {g : Nat → Bool} {n : Nat} (hn : n ≤ 6) : (gmN g n = 0) = ((List.range' 0 n).any g = false) := by
  have e : (List.range' 0 n).any g = (List.range' 0 n).any (gB (g 0) (g 1) (g 2) (g 3) (g 4) (g 5)) := by
    rw [Bool.eq_iff_iff, List.any_eq_true, List.any_eq_true]
    constructor
    · rintro ⟨x, h1, h2⟩
      have := List.mem_range'_1.mp h1
      exact ⟨x, h1, by rw [← gB_at (by omega)]; exact h2⟩
    · rintro ⟨x, h1, h2⟩
      have := List.mem_range'_1.mp h1
      exact ⟨x, h1, by rw [gB_at (g := g) (by omega)]; exact h2⟩
  have h := (gm_dec (g 0) (g 1) (g 2) (g 3) (g 4) (g 5) n (by omega)).2
  rw [gmN_c (g' := gB (g 0) (g 1) (g 2) (g 3) (g 4) (g 5)) (fun i h => gB_at (by omega)), e]
  apply propext
  rw [← decide_eq_true_iff (p := gmN _ n = 0), h]
  cases (List.range' 0 n).any (gB (g 0) (g 1) (g 2) (g 3) (g 4) (g 5)) <;> simp
/-- grades as the class keeps them -/
def gCs (I : mm_I) (nr : Nat) (G : Nat → gr_T) : Prop := ∀ r, 1 ≤ r → r ≤ nr → gC I (4 + 2 * r) (G r) ∧ (G r).1 ≤ 40 ∧ (G r).2.1 ≤ 2 ∧ (G r).2.2.1 ≤ 5 ∧ (G r).2.2.2.1 ≤ 5
def osS (s : st_T) (r : Nat) : List Nat := (sR s r).2.2.2
section GQ
variable {z : mm_S} {d : Nat} {I : mm_I} {J : mm_J} {s : st_T} {G : Nat → gr_T} {Q : Option Value → mm_I → mm_J → Prop}
theorem c_isCirc {o : Nat} (h1 : 1 ≤ o) (ho : o < 1000) (hv : va s) (h : shC I s) (hG : gCs I (sNr s) G) (Q : Option Value → mm_I → mm_J → Prop) : mm_call z (d + 2) 14 [.ref 112, .int (nI o)] I J Q = Q (some (.int (mb (decide (o ≤ sNr s) && gw G o)))) I J := by
  refine mm_ev ?_ Q
  have v3 := hv.1.2.2.1
  simp only [ce_14, bk_14.1, mmE, mmE0, mmH, mT, mR, mRf, mAl, mAs, mAz, mAn, Int.reduceToNat, Int32.reduceOfInt, Int64.reduceOfInt, Int.reduceAdd, swE, Nat.reduceDiv, Nat.reduceMod, Nat.reduceAdd, Nat.reduceMul, Nat.reduceEqDiff, Nat.reduceLeDiff, Nat.zero_le, List.length_nil, List.length_cons, Nat.zero_add, true_or, or_true, false_or, or_false, true_and, and_true, and_self, mb_01, mb_t, mb_f]
  by_cases q : o ≤ sNr s
  · obtain ⟨t1, _⟩ := mTr4 o (by omega) h1
    obtain ⟨g1, g2, _⟩ := hG o h1 q
    simp only [c_rowAt v3 h.1.2.2 h1 q, bk_14.2.1, bk_14.2.2, mmE, mmE0, mmH, mT, mR, mRf, mAl, mAs, mAz, mAn, Int.reduceToNat, Int32.reduceOfInt, Int64.reduceOfInt, Int.reduceAdd, swE, Nat.reduceDiv, Nat.reduceMod, Nat.reduceAdd, Nat.reduceMul, Nat.reduceEqDiff, Nat.reduceLeDiff, Nat.zero_le, List.length_nil, List.length_cons, Nat.zero_add, true_or, or_true, false_or, or_false, true_and, and_true, and_self, mb_01, mb_t, mb_f, Option.toList_some, Option.toList_none, List.cons_append, List.nil_append, t1, g1.1, n0E (show (G o).1 < 2 ^ 31 by omega), z01, true_implies, not_true_eq_false, not_false_eq_true, false_implies, and_true, true_and]
    rw [decide_eq_true q, Bool.true_and]
    unfold gw
    by_cases q2 : (G o).1 = 0
    · rw [show ((G o).1 == 0) = true from beq_iff_eq.mpr q2]
      simp only [eq_true q2, true_implies, not_true_eq_false, not_false_eq_true, false_implies, and_true, true_and, mb_t]
    · rw [show ((G o).1 == 0) = false from beq_eq_false_iff_ne.mpr q2]
      simp only [q2, true_implies, not_true_eq_false, not_false_eq_true, false_implies, and_true, true_and, mb_f]
  · have e : inR (sNr s) (nI o) = false := by rw [inR_nI (by omega)]; exact decide_eq_false (by omega)
    simp only [c_rowAt_no v3 h.1.2.2 e, bk_14.2.1, bk_14.2.2, mmE, mmE0, mmH, mT, mR, mRf, mAl, mAs, mAz, mAn, Int.reduceToNat, Int32.reduceOfInt, Int64.reduceOfInt, Int.reduceAdd, swE, Nat.reduceDiv, Nat.reduceMod, Nat.reduceAdd, Nat.reduceMul, Nat.reduceEqDiff, Nat.reduceLeDiff, Nat.zero_le, List.length_nil, List.length_cons, Nat.zero_add, true_or, or_true, false_or, or_false, true_and, and_true, and_self, mb_01, mb_t, mb_f, Option.toList_some, Option.toList_none, List.cons_append, List.nil_append, z01, true_implies, not_true_eq_false, not_false_eq_true, false_implies, and_true, true_and]
    rw [decide_eq_false q, Bool.false_and]
    simp only [mb_f]
theorem w_ready_loop {r : Nat} (h1 : 1 ≤ r) (h2 : r ≤ sNr s) (hv : va s) (h : shC I s) (hG : gCs I (sNr s) G) : ∀ (l : List Nat) (i : Nat), (osS s r).drop i = l → i ≤ (osS s r).length → Q (some (.int (mb (l.all fun o => !(decide (o ≤ sNr s) && gw G o))))) I J → mm_at z (mm_call z (d + 2)) (mm_code 13) Q 2 [some (.ref 112), some (.ref (4 + 2 * r)), some (.int (nI i))] [] I J
  | [], i, hl, hi, k => by
    have v3 := hv.1.2.2.1
    obtain ⟨t1, _⟩ := mTr4 r (by omega) h1
    have hrow := h.2.2 r h1 h2
    have hl6 := (hv.2.2.2.1 r h1 h2).2.2.2.1
    have e : (osS s r).length ≤ i := List.drop_eq_nil_iff.mp hl
    rw [hk_13_2]
    have c1 : (nI (sR s r).2.2.2.length ≤ nI i) = True := by rw [le_nI (by omega) (by show i < _; have : (osS s r).length = (sR s r).2.2.2.length := rfl; omega)]; exact eq_true e
    simp only [bk_13.2.2, mmE, mmE0, mmH, mT, mR, mRf, mAl, mAs, mAz, mAn, Int.reduceToNat, Int32.reduceOfInt, Int64.reduceOfInt, Int.reduceAdd, swE, Nat.reduceDiv, Nat.reduceMod, Nat.reduceAdd, Nat.reduceMul, Nat.reduceEqDiff, Nat.reduceLeDiff, Nat.zero_le, List.length_nil, List.length_cons, Nat.zero_add, true_or, or_true, false_or, or_false, true_and, and_true, and_self, mb_01, mb_t, mb_f, t1, hrow.2.2.2.1, c1, z01, true_implies, not_true_eq_false, not_false_eq_true, false_implies, and_true, true_and]
    exact k
  | o :: l, i, hl, hi, k => by
    have v3 := hv.1.2.2.1
    obtain ⟨t1, t2, t3, _⟩ := mTr4 r (by omega) h1
    have hrow := h.2.2 r h1 h2
    obtain ⟨_, _, _, hl6, ho⟩ := hv.2.2.2.1 r h1 h2
    have eL : (osS s r).length = (sR s r).2.2.2.length := rfl
    have il : i < (osS s r).length := by
      rcases Nat.lt_or_ge i (osS s r).length with q | q
      · exact q
      · rw [List.drop_eq_nil_iff.mpr q] at hl; cases hl
    have eo : (sR s r).2.2.2.getD i 0 = o := by
      have := List.drop_eq_getElem_cons il
      rw [hl] at this
      injection this with a b
      show (osS s r).getD i 0 = o
      rw [List.getD_eq_getElem?_getD, List.getElem?_eq_getElem il]
      exact a.symm
    have mo : o ∈ (sR s r).2.2.2 := List.mem_of_mem_drop (i := i) (by show o ∈ (osS s r).drop i; rw [hl]; exact List.mem_cons_self)
    obtain ⟨o1, o2⟩ := ho o mo
    have hl' : (osS s r).drop (i + 1) = l := by
      rw [← List.tail_drop, hl]
      rfl
    have ih := w_ready_loop h1 h2 hv h hG l (i + 1) hl' il
    rw [nI_succ] at ih
    rw [hk_13_2]
    have c1 : (nI (sR s r).2.2.2.length ≤ nI i) = False := by rw [le_nI (by omega) (by omega)]; exact eq_false (by omega)
    have cO := fun (z : mm_S) (d : Nat) => c_ofAt (z := z) (d := d) (J := J) (i := i) t1 t2 t3 hrow hl6 il
    rw [eo] at cO
    rw [List.all_cons] at k
    simp only [bk_13.2.1, mmE, mmE0, mmH, mT, mR, mRf, mAl, mAs, mAz, mAn, Int.reduceToNat, Int32.reduceOfInt, Int64.reduceOfInt, Int.reduceAdd, swE, Nat.reduceDiv, Nat.reduceMod, Nat.reduceAdd, Nat.reduceMul, Nat.reduceEqDiff, Nat.reduceLeDiff, Nat.zero_le, List.length_nil, List.length_cons, Nat.zero_add, true_or, or_true, false_or, or_false, true_and, and_true, and_self, mb_01, mb_t, mb_f, Option.toList_some, Option.toList_none, List.cons_append, List.nil_append, t1, hrow.2.2.2.1, c1, cO, c_isCirc o1 o2 hv h hG, mb_0, z01, true_implies, not_true_eq_false, not_false_eq_true, false_implies, and_true, true_and]
    cases e : decide (o ≤ sNr s) && gw G o with
    | true =>
      rw [e, Bool.not_true, Bool.false_and] at k
      simp only [Bool.true_eq_false, true_implies, not_true_eq_false, not_false_eq_true, false_implies, and_true, true_and]
      exact k
    | false =>
      rw [e, Bool.not_false, Bool.true_and] at k
      simp only [true_implies, not_true_eq_false, not_false_eq_true, false_implies, and_true, true_and]
      exact ih k
theorem c_isReady {r : Nat} (h1 : 1 ≤ r) (h2 : r ≤ sNr s) (hv : va s) (h : shC I s) (hG : gCs I (sNr s) G) (Q : Option Value → mm_I → mm_J → Prop) : mm_call z (d + 3) 13 [.ref 112, .ref (4 + 2 * r)] I J Q = Q (some (.int (mb ((osS s r).all fun o => !(decide (o ≤ sNr s) && gw G o))))) I J := by
  refine mm_ev ?_ Q
  simp only [ce_13, bk_13.1, mmE, mmE0, mmH, mT, mR, mRf, mAl, mAs, mAz, mAn, Int.reduceToNat, Int32.reduceOfInt, Int64.reduceOfInt, Int.reduceAdd, swE, Nat.reduceDiv, Nat.reduceMod, Nat.reduceAdd, Nat.reduceMul, Nat.reduceEqDiff, Nat.reduceLeDiff, Nat.zero_le, List.length_nil, List.length_cons, Nat.zero_add, true_or, or_true, false_or, or_false, true_and, and_true, and_self, mb_01, mb_t, mb_f]
  exact w_ready_loop (z := z) (d := d) h1 h2 hv h hG (osS s r) 0 rfl (Nat.zero_le _) ⟨rfl, rfl, rfl⟩
def rRef (o : Option Nat) : Value := match o with
  | none => .null
  | some r => .ref (4 + 2 * r)
theorem w_next_loop (hv : va s) (h : shC I s) (hG : gCs I (sNr s) G) : ∀ (w r : Nat) (o2 : Option Value), 1 ≤ r → r + w = sNr s + 1 → Q (some (rRef ((List.range' r w).find? (grd (sNr s) (osS s) G)))) I J → mm_at z (mm_call z (d + 3)) (mm_code 12) Q 2 [some (.ref 112), some (.int (nI r)), o2] [] I J
  | 0, r, o2, h1, hr, k => by
    have v3 := hv.1.2.2.1
    rw [hk_12_2]
    have c1 : (nI (sNr s) < nI r) = True := by rw [lt_nI (by omega) (by omega)]; exact eq_true (by omega)
    simp only [bk_12.2.2, mmE, mmE0, mmH, mT, mR, mRf, mAl, mAs, mAz, mAn, Int.reduceToNat, Int32.reduceOfInt, Int64.reduceOfInt, Int.reduceAdd, swE, Nat.reduceDiv, Nat.reduceMod, Nat.reduceAdd, Nat.reduceMul, Nat.reduceEqDiff, Nat.reduceLeDiff, Nat.zero_le, List.length_nil, List.length_cons, Nat.zero_add, true_or, or_true, false_or, or_false, true_and, and_true, and_self, mb_01, mb_t, mb_f, h.1.2.2, c1, true_implies, not_true_eq_false, not_false_eq_true, false_implies, and_true, true_and]
    exact k
  | w + 1, r, o2, h1, hr, k => by
    have v3 := hv.1.2.2.1
    have h2 : r ≤ sNr s := by omega
    obtain ⟨t1, _⟩ := mTr4 r (by omega) h1
    obtain ⟨g1, g2, _⟩ := hG r h1 h2
    have ih := fun o2 => w_next_loop hv h hG w (r + 1) o2 (by omega) (by omega)
    rw [nI_succ] at ih
    rw [hk_12_2]
    have c1 : (nI (sNr s) < nI r) = False := by rw [lt_nI (by omega) (by omega)]; exact eq_false (by omega)
    rw [List.range'_succ, List.find?_cons] at k
    have eg : grd (sNr s) (osS s) G r = (gw G r && (osS s r).all fun o => !(decide (o ≤ sNr s) && gw G o)) := rfl
    rw [eg] at k
    unfold gw at k
    simp only [bk_12.2.1, mmE, mmE0, mmH, mT, mR, mRf, mAl, mAs, mAz, mAn, Int.reduceToNat, Int32.reduceOfInt, Int64.reduceOfInt, Int.reduceAdd, swE, Nat.reduceDiv, Nat.reduceMod, Nat.reduceAdd, Nat.reduceMul, Nat.reduceEqDiff, Nat.reduceLeDiff, Nat.zero_le, List.length_nil, List.length_cons, Nat.zero_add, true_or, or_true, false_or, or_false, true_and, and_true, and_self, mb_01, mb_t, mb_f, Option.toList_some, Option.toList_none, List.cons_append, List.nil_append, h.1.2.2, c1, c_rowAt v3 h.1.2.2 h1 h2, t1, g1.1, n0E (show (G r).1 < 2 ^ 31 by omega), c_isReady h1 h2 hv h hG, mb_0, true_implies, not_true_eq_false, not_false_eq_true, false_implies, and_true, true_and]
    by_cases q : (G r).1 = 0
    · rw [show ((G r).1 == 0) = true from beq_iff_eq.mpr q, Bool.true_and] at k
      simp only [eq_true q, true_implies, not_true_eq_false, not_false_eq_true, false_implies, and_true, true_and]
      unfold gw
      cases e : (osS s r).all fun o => !(decide (o ≤ sNr s) && (G o).1 == 0) with
      | false =>
        rw [e] at k
        simp only [true_implies, not_true_eq_false, not_false_eq_true, false_implies, and_true, true_and]
        exact ih _ k
      | true =>
        rw [e] at k
        simp only [Bool.true_eq_false, true_implies, not_true_eq_false, not_false_eq_true, false_implies, and_true, true_and]
        exact k
    · rw [show ((G r).1 == 0) = false from beq_eq_false_iff_ne.mpr q, Bool.false_and] at k
      simp only [q, true_implies, not_true_eq_false, not_false_eq_true, false_implies, and_true, true_and]
      exact ih _ k
theorem c_nextReady (hv : va s) (h : shC I s) (hG : gCs I (sNr s) G) (Q : Option Value → mm_I → mm_J → Prop) : mm_call z (d + 4) 12 [.ref 112] I J Q = Q (some (rRef (gnx (sNr s) (osS s) G))) I J := by
  refine mm_ev ?_ Q
  simp only [ce_12, bk_12.1, mmE, mmE0, mmH, mT, mR, mRf, mAl, mAs, mAz, mAn, Int.reduceToNat, Int32.reduceOfInt, Int64.reduceOfInt, Int.reduceAdd, swE, Nat.reduceDiv, Nat.reduceMod, Nat.reduceAdd, Nat.reduceMul, Nat.reduceEqDiff, Nat.reduceLeDiff, Nat.zero_le, List.length_nil, List.length_cons, Nat.zero_add, true_or, or_true, false_or, or_false, true_and, and_true, and_self, mb_01, mb_t, mb_f]
  exact w_next_loop (z := z) (d := d) hv h hG (sNr s) 1 _ (by omega) (by omega) ⟨rfl, rfl, rfl⟩
def agS (s : st_T) (f : Nat) : Option Nat := agn (sNp s) (sNf s) (sNr s) (sF s) (sR s) f
theorem w_against_loop {f : Nat} (hf : isF f = true) (hv : va s) (h : shC I s) (hm : I 112 7 = gmN (gfS s) (sNf s)) : ∀ (w i : Nat) (o3 : Option Value), i + w = sNf s → Q (some (.int (wI ((List.range' i w).find? fun i => gfS s i && !fg_shows (sF s i) f)))) I J → mm_at z (mm_call z (d + 4)) (mm_code 16) Q 2 [some (.ref 112), some (.int (nI f)), some (.int (nI i)), o3] [] I J
  | 0, i, o3, hi, k => by
    have v2 := hv.1.2.1
    rw [hk_16_2]
    have c1 : (nI (sNf s) ≤ nI i) = True := by rw [le_nI (by omega) (by omega)]; exact eq_true (by omega)
    simp only [bk_16.2.2, mmE, mmE0, mmH, mT, mR, mRf, mAl, mAs, mAz, mAn, Int.reduceToNat, Int32.reduceOfInt, Int64.reduceOfInt, Int.reduceAdd, swE, Nat.reduceDiv, Nat.reduceMod, Nat.reduceAdd, Nat.reduceMul, Nat.reduceEqDiff, Nat.reduceLeDiff, Nat.zero_le, List.length_nil, List.length_cons, Nat.zero_add, true_or, or_true, false_or, or_false, true_and, and_true, and_self, mb_01, mb_t, mb_f, h.1.2.1, c1, true_implies, not_true_eq_false, not_false_eq_true, false_implies, and_true, true_and]
    exact k
  | w + 1, i, o3, hi, k => by
    have v2 := hv.1.2.1
    obtain ⟨f1, _⟩ := mTf i (by omega)
    have ih := fun o3 => w_against_loop hf hv h hm w (i + 1) o3 (by omega)
    rw [nI_succ] at ih
    rw [hk_16_2]
    have c1 : (nI (sNf s) ≤ nI i) = False := by rw [le_nI (by omega) (by omega)]; exact eq_false (by omega)
    have be : (gmN (gfS s) (sNf s) >>> (nI i &&& 31) &&& 1 = 1) = (gfS s i = true) := by
      have := gm_bit (g := gfS s) (n := sNf s) (i := i) v2 (by omega)
      unfold bt at this
      rw [← this, beq_iff_eq]
    rw [List.range'_succ, List.find?_cons] at k
    simp only [bk_16.2.1, mmE, mmE0, mmH, mT, mR, mRf, mAl, mAs, mAz, mAn, Int.reduceToNat, Int32.reduceOfInt, Int64.reduceOfInt, Int.reduceAdd, swE, Nat.reduceDiv, Nat.reduceMod, Nat.reduceAdd, Nat.reduceMul, Nat.reduceEqDiff, Nat.reduceLeDiff, Nat.zero_le, List.length_nil, List.length_cons, Nat.zero_add, true_or, or_true, false_or, or_false, true_and, and_true, and_self, mb_01, mb_t, mb_f, Option.toList_some, Option.toList_none, List.cons_append, List.nil_append, h.1.2.1, c1, c_figAt v2 h.1.2.1 (show i < sNf s by omega), hm, be, f1, c_shows (show i < 6 by omega) hf (h.2.1 i (by omega)), mb_0, true_implies, not_true_eq_false, not_false_eq_true, false_implies, and_true, true_and]
    cases eg : gfS s i with
    | false =>
      rw [eg, Bool.false_and] at k
      simp only [Bool.false_eq_true, true_implies, not_true_eq_false, not_false_eq_true, false_implies, and_true, true_and]
      exact ih _ k
    | true =>
      rw [eg, Bool.true_and] at k
      simp only [true_implies, not_true_eq_false, not_false_eq_true, false_implies, and_true, true_and]
      cases es : fg_shows (sF s i) f with
      | true =>
        rw [es] at k
        simp only [Bool.true_eq_false, true_implies, not_true_eq_false, not_false_eq_true, false_implies, and_true, true_and]
        exact ih _ k
      | false =>
        rw [es] at k
        simp only [true_implies, not_true_eq_false, not_false_eq_true, false_implies, and_true, true_and]
        exact k
theorem c_against {f : Nat} (hf : isF f = true) (hv : va s) (h : shC I s) (hm : I 112 7 = gmN (gfS s) (sNf s)) (Q : Option Value → mm_I → mm_J → Prop) : mm_call z (d + 5) 16 [.ref 112, .int (nI f)] I J Q = Q (some (.int (wI (agS s f)))) I J := by
  refine mm_ev ?_ Q
  simp only [ce_16, bk_16.1, mmE, mmE0, mmH, mT, mR, mRf, mAl, mAs, mAz, mAn, Int.reduceToNat, Int32.reduceOfInt, Int64.reduceOfInt, Int.reduceAdd, swE, Nat.reduceDiv, Nat.reduceMod, Nat.reduceAdd, Nat.reduceMul, Nat.reduceEqDiff, Nat.reduceLeDiff, Nat.zero_le, List.length_nil, List.length_cons, Nat.zero_add, true_or, or_true, false_or, or_false, true_and, and_true, and_self, mb_01, mb_t, mb_f]
  exact w_against_loop (z := z) (d := d) hf hv h hm (sNf s) 0 _ (by omega) ⟨rfl, rfl, rfl⟩
end GQ
