/-! the reference's figures -/
def rm_fig (I : mm_I) (f : Nat) (F : fg_T) : Prop := ∀ p, p < 7 → I 128 (7 * f + p) = F.1 p ∧ I 129 (7 * f + p) = F.2.1 p ∧ I 130 (7 * f + p) = mb (fg_has F p)
section MF
variable {z : mm_S} {d : Nat} {I : mm_I} {J : mm_J} {f : Nat} {F : fg_T}
theorem ix42 {f p : Nat} (hf : f < 6) (hp : p < 7) : vp_in (nI (7 * f + p)) 42 = True ∧ (nI (7 * f + p)).toNatClampNeg = 7 * f + p := ⟨eq_true (vp_in_nI (by omega) (by decide)), nI_clamp (by omega)⟩
theorem i7 (f p : Nat) : (7 : Int32) * nI f + nI p = nI (7 * f + p) := by
  rw [show (7 : Int32) = nI 7 from rfl, nI_mul, nI_add]
theorem c_mcross {a b c e : Nat} (hf : f < 6) (ha : a < 7) (hb : b < 7) (hc : c < 7) (he : e < 7) (h : rm_fig I f F) (Q : Option Value → mm_I → mm_J → Prop) : mm_call z (d + 1) 136 [.ref 127, .int (nI (7 * f + a)), .int (nI (7 * f + b)), .int (nI (7 * f + c)), .int (nI (7 * f + e))] I J Q = Q (some (.long (fg_cross F a b c e))) I J := by
  refine mm_ev ?_ Q
  simp only [ce_136, bk_136, mmE, mmE0, mmH, mT, mR, mRf, mAl, mAs, mAz, mAn, Int.reduceToNat, Int32.reduceOfInt, Int64.reduceOfInt, Int.reduceAdd, swE, Nat.reduceDiv, Nat.reduceMod, Nat.reduceAdd, Nat.reduceMul, Nat.reduceEqDiff, Nat.reduceLeDiff, Nat.zero_le, List.length_nil, List.length_cons, Nat.zero_add, true_or, or_true, false_or, or_false, true_and, and_true, and_self, mb_01, mb_t, mb_f, ix42 hf ha, ix42 hf hb, ix42 hf hc, ix42 hf he, h a ha, h b hb, h c hc, h e he]
  simp only [fg_cross]
theorem c_mdot {a b c e : Nat} (hf : f < 6) (ha : a < 7) (hb : b < 7) (hc : c < 7) (he : e < 7) (h : rm_fig I f F) (Q : Option Value → mm_I → mm_J → Prop) : mm_call z (d + 1) 137 [.ref 127, .int (nI (7 * f + a)), .int (nI (7 * f + b)), .int (nI (7 * f + c)), .int (nI (7 * f + e))] I J Q = Q (some (.long (fg_dot F a b c e))) I J := by
  refine mm_ev ?_ Q
  simp only [ce_137, bk_137, mmE, mmE0, mmH, mT, mR, mRf, mAl, mAs, mAz, mAn, Int.reduceToNat, Int32.reduceOfInt, Int64.reduceOfInt, Int.reduceAdd, swE, Nat.reduceDiv, Nat.reduceMod, Nat.reduceAdd, Nat.reduceMul, Nat.reduceEqDiff, Nat.reduceLeDiff, Nat.zero_le, List.length_nil, List.length_cons, Nat.zero_add, true_or, or_true, false_or, or_false, true_and, and_true, and_self, mb_01, mb_t, mb_f, ix42 hf ha, ix42 hf hb, ix42 hf hc, ix42 hf he, h a ha, h b hb, h c hc, h e he]
  simp only [fg_dot]
theorem mcirc_eq {a b c e : Nat} (hB : fgB F) (ha : a < 7) (hb : b < 7) (hc : c < 7) (he : e < 7) : (!(fg_cross F a b a c == 0 || fg_cross F a b a e == 0 || fg_cross F a c a e == 0 || fg_cross F b c b e == 0) && fg_dot F e a e a * fg_cross F e b e c - fg_dot F e b e b * fg_cross F e a e c + fg_dot F e c e c * fg_cross F e a e b == 0) = fg_circ F a b c e := by
  rw [circ_l hB ha hb hc he, cross_l hB ha hb ha hc, cross_l hB ha hb ha he, cross_l hB ha hc ha he, cross_l hB hb hc hb he, cross_l hB he hb he hc, cross_l hB he ha he hc, cross_l hB he ha he hb, dot_l hB he ha he ha, dot_l hB he hb he hb, dot_l hB he hc he hc]
  generalize (F.1 a).toInt64 = ax
  generalize (F.2.1 a).toInt64 = ay
  generalize (F.1 b).toInt64 = bx
  generalize (F.2.1 b).toInt64 = bY
  generalize (F.1 c).toInt64 = cx
  generalize (F.2.1 c).toInt64 = cy
  generalize (F.1 e).toInt64 = dx
  generalize (F.2.1 e).toInt64 = dy
  show (!(l_T ax ay bx bY cx cy || l_T ax ay bx bY dx dy || l_T ax ay cx cy dx dy || l_T bx bY cx cy dx dy) && _) = _
  unfold l_circ
  have e2 : l_T ax ay bx bY dx dy = l_T dx dy ax ay bx bY := (T_2 ax ay bx bY dx dy).symm.trans (T_1 dx dy ax ay bx bY)
  have e3 : l_T ax ay cx cy dx dy = l_T dx dy cx cy ax ay := ((T_2 ax ay cx cy dx dy).symm.trans (T_1 dx dy ax ay cx cy)).trans (T_2 dx dy ax ay cx cy).symm
  have e4 : l_T bx bY cx cy dx dy = l_T dx dy bx bY cx cy := (T_2 bx bY cx cy dx dy).symm.trans (T_1 dx dy bx bY cx cy)
  have e5 : l_dt dx dy ax ay dx dy ax ay * l_cr dx dy bx bY dx dy cx cy - l_dt dx dy bx bY dx dy bx bY * l_cr dx dy ax ay dx dy cx cy + l_dt dx dy cx cy dx dy cx cy * l_cr dx dy ax ay dx dy bx bY = l_ci ax ay bx bY cx cy dx dy := by
    unfold l_ci
    rw [cr_5 dx dy ax ay cx cy]
    grind
  rw [e2, e3, e4, e5]
  congr 2
  generalize l_T ax ay bx bY cx cy = p
  generalize l_T dx dy ax ay bx bY = q
  generalize l_T dx dy cx cy ax ay = r
  generalize l_T dx dy bx bY cx cy = s
  cases p <;> cases q <;> cases r <;> cases s <;> rfl
theorem c_mcirc {a b c e : Nat} (hB : fgB F) (hf : f < 6) (ha : a < 7) (hb : b < 7) (hc : c < 7) (he : e < 7) (h : rm_fig I f F) (Q : Option Value → mm_I → mm_J → Prop) : mm_call z (d + 2) 138 [.ref 127, .int (nI (7 * f + a)), .int (nI (7 * f + b)), .int (nI (7 * f + c)), .int (nI (7 * f + e))] I J Q = Q (some (.int (mb (fg_circ F a b c e)))) I J := by
  refine mm_ev ?_ Q
  simp only [ce_138, bk_138, mmE, mmE0, mmH, mT, mR, mRf, mAl, mAs, mAz, mAn, Int.reduceToNat, Int32.reduceOfInt, Int64.reduceOfInt, Int.reduceAdd, swE, Nat.reduceDiv, Nat.reduceMod, Nat.reduceAdd, Nat.reduceMul, Nat.reduceEqDiff, Nat.reduceLeDiff, Nat.zero_le, List.length_nil, List.length_cons, Nat.zero_add, true_or, or_true, false_or, or_false, true_and, and_true, and_self, mb_01, mb_t, mb_f, c_mcross hf ha hb ha hc h, c_mcross hf ha hb ha he h, c_mcross hf ha hc ha he h, c_mcross hf hb hc hb he h, c_mcross hf he hb he hc h, c_mcross hf he ha he hc h, c_mcross hf he ha he hb h, c_mdot hf he ha he ha h, c_mdot hf he hb he hb h, c_mdot hf he hc he hc h, lc_ne, z01, lz0]
  rw [← mcirc_eq hB ha hb hc he]
  by_cases h1 : fg_cross F a b a c = 0
  · simp [h1, mb]
  by_cases h2 : fg_cross F a b a e = 0
  · simp [h1, h2, mb]
  by_cases h3 : fg_cross F a c a e = 0
  · simp [h1, h2, h3, mb]
  by_cases h4 : fg_cross F b c b e = 0
  · simp [h1, h2, h3, h4, mb]
  by_cases h5 : fg_dot F e a e a * fg_cross F e b e c - fg_dot F e b e b * fg_cross F e a e c + fg_dot F e c e c * fg_cross F e a e b = 0
  · simp [h1, h2, h3, h4, h5, mb]
  · simp [h1, h2, h3, h4, h5, mb]
/-- holdsIn, of points told -/
theorem c_holdsIn {k a b c : Nat} {x : Int32} {e : Nat} (hB : fgB F) (hf : f < 6) (hk : k < 7) (ha : a < 7) (hb : b < 7) (hc : c < 7) (he : e < 7) (hx : kdN k = 4 → x = nI e) (h : rm_fig I f F) (Q : Option Value → mm_I → mm_J → Prop) : mm_call z (d + 3) 135 [.ref 127, .int (nI f), .int (nI k), .int (nI a), .int (nI b), .int (nI c), .int x] I J Q = Q (some (.int (mb (fg_has F a && fg_has F b && fg_has F c && fg_has F (if kdN k = 4 then e else c) && fg_so F k a b c (if kdN k = 4 then e else c))))) I J := by
  refine mm_ev ?_ Q
  rcases (show k = 0 ∨ k = 1 ∨ k = 2 ∨ k = 3 ∨ k = 4 ∨ k = 5 ∨ k = 6 by omega) with rfl | rfl | rfl | rfl | rfl | rfl | rfl
  all_goals
    have k0 : (nI 0 ≤ 0) = True ∧ (nI 1 ≤ 0) = False ∧ (nI 2 ≤ 0) = False ∧ (nI 3 ≤ 0) = False ∧ (nI 4 ≤ 0) = False ∧ (nI 5 ≤ 0) = False ∧ (nI 6 ≤ 0) = False := by decide
    have k4 : (nI 0 < 4) = True ∧ (nI 1 < 4) = True ∧ (nI 2 < 4) = True ∧ (nI 3 < 4) = True ∧ (nI 4 < 4) = False ∧ (nI 5 < 4) = False ∧ (nI 6 < 4) = False := by decide
    have k6 : (nI 6 = 0) = False ∧ (nI 6 = 1) = False ∧ (nI 6 = 2) = False ∧ (nI 6 = 3) = False ∧ (nI 6 = 4) = False ∧ (nI 6 = 5) = False := by decide
    have one0 : ((1 : Int32) = 0) = False := by decide
    have z00 : ((0 : Int32) = 0) = True := by decide
  · have e3 : kdN 0 = 3 := rfl
    simp only [ce_135, bk_135, mmE, mmE0, mmH, mT, mR, mRf, mAl, mAs, mAz, mAn, Int.reduceToNat, Int32.reduceOfInt, Int64.reduceOfInt, Int.reduceAdd, swE, Nat.reduceDiv, Nat.reduceMod, Nat.reduceAdd, Nat.reduceMul, Nat.reduceEqDiff, Nat.reduceLeDiff, Nat.zero_le, List.length_nil, List.length_cons, Nat.zero_add, true_or, or_true, false_or, or_false, true_and, and_true, and_self, mb_01, mb_t, mb_f, k0, k4, nkE, one0, z00, i7, ix42 hf ha, ix42 hf hb, ix42 hf hc, h a ha, h b hb, h c hc, mb_0, c_mcross hf ha hb ha hc h, lc_ne, lz0, z01, true_implies, not_true_eq_false, not_false_eq_true, false_implies, e3, Nat.reduceEqDiff, if_false]
    cases fg_has F a <;> cases fg_has F b <;> cases fg_has F c <;> by_cases hz : fg_cross F a b a c = 0 <;> simp [fg_so, hz, mb]
  · have e4 : kdN 1 = 4 := rfl
    have := hx e4
    subst this
    simp only [ce_135, bk_135, mmE, mmE0, mmH, mT, mR, mRf, mAl, mAs, mAz, mAn, Int.reduceToNat, Int32.reduceOfInt, Int64.reduceOfInt, Int.reduceAdd, swE, Nat.reduceDiv, Nat.reduceMod, Nat.reduceAdd, Nat.reduceMul, Nat.reduceEqDiff, Nat.reduceLeDiff, Nat.zero_le, List.length_nil, List.length_cons, Nat.zero_add, true_or, or_true, false_or, or_false, true_and, and_true, and_self, mb_01, mb_t, mb_f, k0, k4, nkE, one0, z00, i7, ix42 hf ha, ix42 hf hb, ix42 hf hc, ix42 hf he, h a ha, h b hb, h c hc, h e he, mb_0, c_mcross hf ha hb hc he h, lc_ne, lz0, z01, true_implies, not_true_eq_false, not_false_eq_true, false_implies, e4, if_true]
    cases fg_has F a <;> cases fg_has F b <;> cases fg_has F c <;> cases fg_has F e <;> by_cases hz : fg_cross F a b c e = 0 <;> simp [fg_so, hz, mb]
  · have e4 : kdN 2 = 4 := rfl
    have := hx e4
    subst this
    simp only [ce_135, bk_135, mmE, mmE0, mmH, mT, mR, mRf, mAl, mAs, mAz, mAn, Int.reduceToNat, Int32.reduceOfInt, Int64.reduceOfInt, Int.reduceAdd, swE, Nat.reduceDiv, Nat.reduceMod, Nat.reduceAdd, Nat.reduceMul, Nat.reduceEqDiff, Nat.reduceLeDiff, Nat.zero_le, List.length_nil, List.length_cons, Nat.zero_add, true_or, or_true, false_or, or_false, true_and, and_true, and_self, mb_01, mb_t, mb_f, k0, k4, nkE, one0, z00, i7, ix42 hf ha, ix42 hf hb, ix42 hf hc, ix42 hf he, h a ha, h b hb, h c hc, h e he, mb_0, c_mdot hf ha hb hc he h, lc_ne, lz0, z01, true_implies, not_true_eq_false, not_false_eq_true, false_implies, e4, if_true]
    cases fg_has F a <;> cases fg_has F b <;> cases fg_has F c <;> cases fg_has F e <;> by_cases hz : fg_dot F a b c e = 0 <;> simp [fg_so, hz, mb]
  · have e4 : kdN 3 = 4 := rfl
    have := hx e4
    subst this
    simp only [ce_135, bk_135, mmE, mmE0, mmH, mT, mR, mRf, mAl, mAs, mAz, mAn, Int.reduceToNat, Int32.reduceOfInt, Int64.reduceOfInt, Int.reduceAdd, swE, Nat.reduceDiv, Nat.reduceMod, Nat.reduceAdd, Nat.reduceMul, Nat.reduceEqDiff, Nat.reduceLeDiff, Nat.zero_le, List.length_nil, List.length_cons, Nat.zero_add, true_or, or_true, false_or, or_false, true_and, and_true, and_self, mb_01, mb_t, mb_f, k0, k4, nkE, one0, z00, i7, ix42 hf ha, ix42 hf hb, ix42 hf hc, ix42 hf he, h a ha, h b hb, h c hc, h e he, mb_0, c_mdot hf ha hb ha hb h, c_mdot hf hc he hc he h, lc_ne, lz0, z01, true_implies, not_true_eq_false, not_false_eq_true, false_implies, e4, if_true]
    cases fg_has F a <;> cases fg_has F b <;> cases fg_has F c <;> cases fg_has F e <;> by_cases hz : fg_dot F a b a b = fg_dot F c e c e <;> simp [fg_so, hz, mb]
  · have e3 : kdN 4 = 3 := rfl
    have tw : ∀ x : Int32, 2 * x = x + x := fun x => by grind
    simp only [ce_135, bk_135, mmE, mmE0, mmH, mT, mR, mRf, mAl, mAs, mAz, mAn, Int.reduceToNat, Int32.reduceOfInt, Int64.reduceOfInt, Int.reduceAdd, swE, Nat.reduceDiv, Nat.reduceMod, Nat.reduceAdd, Nat.reduceMul, Nat.reduceEqDiff, Nat.reduceLeDiff, Nat.zero_le, List.length_nil, List.length_cons, Nat.zero_add, true_or, or_true, false_or, or_false, true_and, and_true, and_self, mb_01, mb_t, mb_f, k0, k4, nkE, one0, z00, i7, ix42 hf ha, ix42 hf hb, ix42 hf hc, h a ha, h b hb, h c hc, mb_0, tw, z01, true_implies, not_true_eq_false, not_false_eq_true, false_implies, e3, Nat.reduceEqDiff, if_false]
    cases fg_has F a <;> cases fg_has F b <;> cases fg_has F c <;> by_cases hz : F.1 a + F.1 a = F.1 b + F.1 c <;> by_cases hw : F.2.1 a + F.2.1 a = F.2.1 b + F.2.1 c <;> simp [fg_so, hz, hw, mb]
  · have e4 : kdN 5 = 4 := rfl
    have := hx e4
    subst this
    simp only [ce_135, bk_135, mmE, mmE0, mmH, mT, mR, mRf, mAl, mAs, mAz, mAn, Int.reduceToNat, Int32.reduceOfInt, Int64.reduceOfInt, Int.reduceAdd, swE, Nat.reduceDiv, Nat.reduceMod, Nat.reduceAdd, Nat.reduceMul, Nat.reduceEqDiff, Nat.reduceLeDiff, Nat.zero_le, List.length_nil, List.length_cons, Nat.zero_add, true_or, or_true, false_or, or_false, true_and, and_true, and_self, mb_01, mb_t, mb_f, k0, k4, nkE, one0, z00, i7, ix42 hf ha, ix42 hf hb, ix42 hf hc, ix42 hf he, h a ha, h b hb, h c hc, h e he, mb_0, c_mcirc hB hf ha hb hc he h, z01, true_implies, not_true_eq_false, not_false_eq_true, false_implies, e4, if_true]
    cases fg_has F a <;> cases fg_has F b <;> cases fg_has F c <;> cases fg_has F e <;> simp [fg_so, mb]
  · have e3 : kdN 6 = 3 := rfl
    simp only [ce_135, bk_135, mmE, mmE0, mmH, mT, mR, mRf, mAl, mAs, mAz, mAn, Int.reduceToNat, Int32.reduceOfInt, Int64.reduceOfInt, Int.reduceAdd, swE, Nat.reduceDiv, Nat.reduceMod, Nat.reduceAdd, Nat.reduceMul, Nat.reduceEqDiff, Nat.reduceLeDiff, Nat.zero_le, List.length_nil, List.length_cons, Nat.zero_add, true_or, or_true, false_or, or_false, true_and, and_true, and_self, mb_01, mb_t, mb_f, k0, k4, k6, one0, z00, i7, ix42 hf ha, ix42 hf hb, ix42 hf hc, h a ha, h b hb, h c hc, mb_0, c_mcross hf ha hb ha hc h, c_mdot hf ha hb ha hc h, lc_ne, lc_ge, lz0, z01, true_implies, not_true_eq_false, not_false_eq_true, false_implies, e3, Nat.reduceEqDiff, if_false]
    cases fg_has F a <;> cases fg_has F b <;> cases fg_has F c <;> by_cases hz : fg_cross F a b a c = 0 <;> by_cases hw : fg_dot F a b a c < 0 <;> simp [fg_so, hz, hw, mb]
end MF
