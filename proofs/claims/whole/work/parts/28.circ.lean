def al_c3 (now m e cm o : Nat) (S : al_S) (c : Nat) : al_S := if cm / 2 ^ c % 2 = 1 then al_try S now o (some (905 + ((m ||| 2 ^ e) ^^^ 2 ^ c))) else S
def al_c2 (np now m e : Nat) (S : al_S) (b : Nat) : al_S := if shN m b = m then S else if al_at S (some (905 + (shN m b ||| 2 ^ e))) < 5 then (List.range' 0 np).foldl (al_c3 now m e (shN m b) (al_at S (some (905 + (shN m b ||| 2 ^ e))))) S else S
def al_c1 (np now m : Nat) (S : al_S) (e : Nat) : al_S := if m / 2 ^ e % 2 = 1 then S else (List.range' 0 np).foldl (al_c2 np now m e) S
def circ_ok (m e b : Nat) : Bool := !(bitsN 7 m == 4) || (m / 2 ^ e % 2 == 1) || shN m b == m || (isF (905 + (shN m b ||| 2 ^ e)) && (List.range 7).all fun c => !(shN m b / 2 ^ c % 2 == 1) || isF (905 + ((m ||| 2 ^ e) ^^^ 2 ^ c)))
theorem circ_isF {m e b : Nat} (hm : m < 128) (h4 : bitsN 7 m = 4) (he : e < 7) (h0 : ¬ m / 2 ^ e % 2 = 1) (hb : b < 7) (h1 : ¬ shN m b = m) : isF (905 + (shN m b ||| 2 ^ e)) = true ∧ ∀ c, c < 7 → shN m b / 2 ^ c % 2 = 1 → isF (905 + ((m ||| 2 ^ e) ^^^ 2 ^ c)) = true := by
  have t : ∀ m, m < 128 → ∀ e, e < 7 → ∀ b, b < 7 → circ_ok m e b = true := by decide +kernel
  have := t m hm e he b hb
  unfold circ_ok at this
  simp only [Bool.or_eq_true, Bool.and_eq_true, Bool.not_eq_true', beq_iff_eq, beq_eq_false_iff_ne, List.all_eq_true, List.mem_range] at this
  rcases this with ((q | q) | q) | ⟨q1, q2⟩
  · exact absurd h4 q
  · exact absurd q h0
  · exact absurd q h1
  · refine ⟨q1, fun c hc h => ?_⟩
    rcases q2 c hc with q | q
    · exact absurd h q
    · exact q
theorem bit_905 {a b : Nat} (ha : a < 128) (hb : b < 128) : (905 : Int32) + (nI a ^^^ nI b) = nI (905 + (a ^^^ b)) := by
  have t : ∀ a, a < 128 → ∀ b, b < 128 → (905 : Int32) + (nI a ^^^ nI b) = nI (905 + (a ^^^ b)) := by decide +kernel
  exact t a ha b hb
theorem or_lt {a e : Nat} (ha : a < 128) (he : e < 7) : a ||| 2 ^ e < 128 := by
  have t : ∀ a, a < 128 → ∀ e, e < 7 → a ||| 2 ^ e < 128 := by decide +kernel
  exact t a ha e he
section LG
variable {z : mm_S} {d : Nat} {I : mm_I} {J : mm_J} {np : Nat} {S : al_S} {Q : Option Value → mm_I → mm_J → Prop}
theorem w_c3 {m e b o now : Nat} (hm : m < 128) (he : e < 7) (hb : b < 7) (ho : o < 5) (hnow : now ≤ 4) (hF : ∀ c, c < 7 → shN m b / 2 ^ c % 2 = 1 → isF (905 + ((m ||| 2 ^ e) ^^^ 2 ^ c)) = true) : ∀ (w r : Nat) (S : al_S) (I : mm_I), r + w = np → rl_rep I np S → I 113 5 = nI now → (∀ I' o7, rl_rep I' np ((List.range' r w).foldl (al_c3 now m e (shN m b) o) S) → rl_fr I I' → mm_at z (mm_call z (d + 1)) (mm_code 50) Q 31 [some (.ref 113), some (.int (nI m)), some (.int (nI e)), some (.int (nI (m ||| 2 ^ e))), some (.int (nI (b + 1))), some (.int (nI (shN m b))), some (.int (nI o)), o7] [] I' J) →
    mm_at z (mm_call z (d + 1)) (mm_code 50) Q 87 [some (.ref 113), some (.int (nI m)), some (.int (nI e)), some (.int (nI (m ||| 2 ^ e))), some (.int (nI b)), some (.int (nI (shN m b))), some (.int (nI o)), some (.int (nI r))] [] I J := by
  have e3' : nI b + 1 = nI (b + 1) := (nI_succ b).symm
  intro w
  induction w with
  | zero =>
    intro r S I hr h hn k
    have hk := k I (some (.int (nI r))) h rl_fr_rf
    have e1 : (nI np ≤ nI r) = True := eq_true (nI_le (by omega) (by have := h.2.2.1; omega))
    rw [hk_50_87]
    simp only [bk_50, h.1, e1, e3', true_implies, not_true_eq_false, false_implies, mmE, mmE0, mmH, mT, mR, mRf, mAl, mAs, mAz, mAn, Int.reduceToNat, Int32.reduceOfInt, Int64.reduceOfInt, Int.reduceAdd, swE, Nat.reduceDiv, Nat.reduceMod, Nat.reduceAdd, Nat.reduceMul, Nat.reduceEqDiff, Nat.reduceLeDiff, Nat.zero_le, List.length_nil, List.length_cons, Nat.zero_add, true_or, or_true, false_or, or_false, true_and, and_true, and_self, mb_01, mb_t, mb_f]
    exact hk
  | succ w ih =>
    intro r S I hr h hn k
    have h7 := h.2.2.1
    have hr7 : r < 7 := by omega
    have hs := (bit_sh hm hb).2
    have b1 := bit_get hs hr7
    obtain ⟨b2, b3⟩ := bit_shl hr7
    have f1 := bit_905 (or_lt hm he) b3
    have e1 : (nI np ≤ nI r) = False := eq_false (nI_ge (by omega) (by omega))
    have e3 : nI r + 1 = nI (r + 1) := (nI_succ r).symm
    have hlt2 : shN m b / 2 ^ r % 2 < 2 := Nat.mod_lt _ (by decide)
    have e4 : (nI (shN m b / 2 ^ r % 2) = 1) = (shN m b / 2 ^ r % 2 = 1) := eq_nI (b := 1) (by omega) (by decide)
    have hk2 : ∀ I1, rl_rep I1 np (al_c3 now m e (shN m b) o S r) → rl_fr I I1 → mm_at z (mm_call z (d + 1)) (mm_code 50) Q 87 [some (.ref 113), some (.int (nI m)), some (.int (nI e)), some (.int (nI (m ||| 2 ^ e))), some (.int (nI b)), some (.int (nI (shN m b))), some (.int (nI o)), some (.int (nI (r + 1)))] [] I1 J := by
      intro I1 h1 fr1
      refine ih (r + 1) _ I1 (by omega) h1 (by rw [fr1.1]; exact hn) (fun I' o7 h2 fr2 => k I' o7 ?_ (rl_fr_tr fr1 fr2))
      rw [List.range'_succ]
      exact h2
    rw [hk_50_87]
    simp only [bk_50, h.1, e1, b1, b2, e4, f1, e3, true_implies, not_true_eq_false, false_implies, not_false_eq_true, mmE, mmE0, mmH, mT, mR, mRf, mAl, mAs, mAz, mAn, Int.reduceToNat, Int32.reduceOfInt, Int64.reduceOfInt, Int.reduceAdd, swE, Nat.reduceDiv, Nat.reduceMod, Nat.reduceAdd, Nat.reduceMul, Nat.reduceEqDiff, Nat.reduceLeDiff, Nat.zero_le, List.length_nil, List.length_cons, Nat.zero_add, true_or, or_true, false_or, or_false, true_and, and_true, and_self, mb_01, mb_t, mb_f]
    refine ⟨fun q => ?_, fun q => ?_⟩
    · refine hk2 I ?_ rl_fr_rf
      unfold al_c3
      rw [if_neg q]
      exact h
    · refine w_off (c := some (905 + ((m ||| 2 ^ e) ^^^ 2 ^ r))) h hn hnow ho (fun x hx => by cases hx; exact hF r hr7 q) (fun I1 h1 fr1 => ?_)
      simp only [bk_50, e3, mmE, mmE0, mmH, mT, mR, mRf, mAl, mAs, mAz, mAn, Int.reduceToNat, Int32.reduceOfInt, Int64.reduceOfInt, Int.reduceAdd, swE, Nat.reduceDiv, Nat.reduceMod, Nat.reduceAdd, Nat.reduceMul, Nat.reduceEqDiff, Nat.reduceLeDiff, Nat.zero_le, List.length_nil, List.length_cons, Nat.zero_add, true_or, or_true, false_or, or_false, true_and, and_true, and_self, mb_01, mb_t, mb_f]
      refine hk2 I1 ?_ fr1
      unfold al_c3
      rw [if_pos q]
      exact h1
theorem w_c2 {m e now : Nat} (hm : m < 128) (h4 : bitsN 7 m = 4) (he : e < 7) (h0 : ¬ m / 2 ^ e % 2 = 1) (hnow : now ≤ 4) : ∀ (w r : Nat) (S : al_S) (I : mm_I) (o5 o6 o7 : Option Value), r + w = np → rl_rep I np S → I 113 5 = nI now → (∀ I' o4 o5 o6 o7, rl_rep I' np ((List.range' r w).foldl (al_c2 np now m e) S) → rl_fr I I' → mm_at z (mm_call z (d + 1)) (mm_code 50) Q 2 [some (.ref 113), some (.int (nI m)), some (.int (nI (e + 1))), some (.int (nI (m ||| 2 ^ e))), o4, o5, o6, o7] [] I' J) →
    mm_at z (mm_call z (d + 1)) (mm_code 50) Q 31 [some (.ref 113), some (.int (nI m)), some (.int (nI e)), some (.int (nI (m ||| 2 ^ e))), some (.int (nI r)), o5, o6, o7] [] I J := by
  have e3' : nI e + 1 = nI (e + 1) := (nI_succ e).symm
  intro w
  induction w with
  | zero =>
    intro r S I o5 o6 o7 hr h hn k
    have hk := k I (some (.int (nI r))) o5 o6 o7 h rl_fr_rf
    have e1 : (nI np ≤ nI r) = True := eq_true (nI_le (by omega) (by have := h.2.2.1; omega))
    rw [hk_50_31]
    simp only [bk_50, h.1, e1, e3', true_implies, not_true_eq_false, false_implies, mmE, mmE0, mmH, mT, mR, mRf, mAl, mAs, mAz, mAn, Int.reduceToNat, Int32.reduceOfInt, Int64.reduceOfInt, Int.reduceAdd, swE, Nat.reduceDiv, Nat.reduceMod, Nat.reduceAdd, Nat.reduceMul, Nat.reduceEqDiff, Nat.reduceLeDiff, Nat.zero_le, List.length_nil, List.length_cons, Nat.zero_add, true_or, or_true, false_or, or_false, true_and, and_true, and_self, mb_01, mb_t, mb_f]
    exact hk
  | succ w ih =>
    intro r S I o5 o6 o7 hr h hn k
    have h7 := h.2.2.1
    have hr7 : r < 7 := by omega
    obtain ⟨s1, s2⟩ := bit_sh hm hr7
    obtain ⟨b2, b3⟩ := bit_shl he
    have f1 := (bit_or s2 he).2.1
    have e1 : (nI np ≤ nI r) = False := eq_false (nI_ge (by omega) (by omega))
    have e4 : (nI (shN m r) = nI m) = (shN m r = m) := eq_nI (by omega) (by omega)
    have e3 : nI r + 1 = nI (r + 1) := (nI_succ r).symm
    have hk2 : ∀ I1, rl_rep I1 np (al_c2 np now m e S r) → rl_fr I I1 → ∀ o5 o6 o7, mm_at z (mm_call z (d + 1)) (mm_code 50) Q 31 [some (.ref 113), some (.int (nI m)), some (.int (nI e)), some (.int (nI (m ||| 2 ^ e))), some (.int (nI (r + 1))), o5, o6, o7] [] I1 J := by
      intro I1 h1 fr1 o5 o6 o7
      refine ih (r + 1) _ I1 o5 o6 o7 (by omega) h1 (by rw [fr1.1]; exact hn) (fun I' p4 p5 p6 p7 h2 fr2 => k I' p4 p5 p6 p7 ?_ (rl_fr_tr fr1 fr2))
      rw [List.range'_succ]
      exact h2
    by_cases hs : shN m r = m
    · have e5 : (shN m r = m) = True := eq_true hs
      rw [hk_50_31]
      simp only [bk_50, h.1, e1, s1, e4, e5, e3, true_implies, not_true_eq_false, false_implies, not_false_eq_true, mmE, mmE0, mmH, mT, mR, mRf, mAl, mAs, mAz, mAn, Int.reduceToNat, Int32.reduceOfInt, Int64.reduceOfInt, Int.reduceAdd, swE, Nat.reduceDiv, Nat.reduceMod, Nat.reduceAdd, Nat.reduceMul, Nat.reduceEqDiff, Nat.reduceLeDiff, Nat.zero_le, List.length_nil, List.length_cons, Nat.zero_add, true_or, or_true, false_or, or_false, true_and, and_true, and_self, mb_01, mb_t, mb_f]
      refine hk2 I ?_ rl_fr_rf _ _ _
      unfold al_c2
      rw [if_pos hs]
      exact h
    · obtain ⟨i1, i2⟩ := circ_isF hm h4 he h0 hr7 hs
      have hF1 : ∀ x, some (905 + (shN m r ||| 2 ^ e)) = some x → isF x = true := fun x q => by cases q; exact i1
      have e5 : (shN m r = m) = False := eq_false hs
      have ho6 := al_at_le h (isF_lt' hF1)
      have cat := fun QQ => c_at (z := z) (d := d) (J := J) h (isF_lt' hF1) QQ
      rw [eI_some] at cat
      have hdef : al_c2 np now m e S r = if al_at S (some (905 + (shN m r ||| 2 ^ e))) < 5 then (List.range' 0 np).foldl (al_c3 now m e (shN m r) (al_at S (some (905 + (shN m r ||| 2 ^ e))))) S else S := by
        unfold al_c2
        rw [if_neg hs]
      generalize al_at S (some (905 + (shN m r ||| 2 ^ e))) = o at ho6 cat hdef
      have e2 : (nI o < (5 : Int32)) = (o < 5) := lt_nI (b := 5) (by omega) (by decide)
      rw [hk_50_31]
      simp only [bk_50, h.1, e1, s1, b2, e4, e5, e3, f1, cat, e2, true_implies, not_true_eq_false, false_implies, not_false_eq_true, mmE, mmE0, mmH, mT, mR, mRf, mAl, mAs, mAz, mAn, Int.reduceToNat, Int32.reduceOfInt, Int64.reduceOfInt, Int.reduceAdd, swE, Nat.reduceDiv, Nat.reduceMod, Nat.reduceAdd, Nat.reduceMul, Nat.reduceEqDiff, Nat.reduceLeDiff, Nat.zero_le, List.length_nil, List.length_cons, Nat.zero_add, true_or, or_true, false_or, or_false, true_and, and_true, and_self, mb_01, mb_t, mb_f]
      refine ⟨fun h5 => ?_, fun h5 => ?_⟩
      · refine w_c3 (b := r) hm he hr7 h5 hnow i2 np 0 S I (by omega) h hn (fun I1 p7 h1 fr1 => hk2 I1 ?_ fr1 _ _ _)
        rw [hdef, if_pos h5]
        exact h1
      · refine hk2 I ?_ rl_fr_rf _ _ _
        rw [hdef, if_neg h5]
        exact h
theorem w_c1 {m now : Nat} (hm : m < 128) (h4 : bitsN 7 m = 4) (hnow : now ≤ 4) : ∀ (w r : Nat) (S : al_S) (I : mm_I) (o3 o4 o5 o6 o7 : Option Value), r + w = np → rl_rep I np S → I 113 5 = nI now → (∀ I', rl_rep I' np ((List.range' r w).foldl (al_c1 np now m) S) → rl_fr I I' → Q none I' J) →
    mm_at z (mm_call z (d + 1)) (mm_code 50) Q 2 [some (.ref 113), some (.int (nI m)), some (.int (nI r)), o3, o4, o5, o6, o7] [] I J := by
  intro w
  induction w with
  | zero =>
    intro r S I o3 o4 o5 o6 o7 hr h hn k
    have hk := k I h rl_fr_rf
    have e1 : (nI np ≤ nI r) = True := eq_true (nI_le (by omega) (by have := h.2.2.1; omega))
    rw [hk_50_2]
    simp only [bk_50, h.1, e1, true_implies, not_true_eq_false, false_implies, mmE, mmE0, mmH, mT, mR, mRf, mAl, mAs, mAz, mAn, Int.reduceToNat, Int32.reduceOfInt, Int64.reduceOfInt, Int.reduceAdd, swE, Nat.reduceDiv, Nat.reduceMod, Nat.reduceAdd, Nat.reduceMul, Nat.reduceEqDiff, Nat.reduceLeDiff, Nat.zero_le, List.length_nil, List.length_cons, Nat.zero_add, true_or, or_true, false_or, or_false, true_and, and_true, and_self, mb_01, mb_t, mb_f]
    exact hk
  | succ w ih =>
    intro r S I o3 o4 o5 o6 o7 hr h hn k
    have h7 := h.2.2.1
    have hr7 : r < 7 := by omega
    have b1 := bit_get hm hr7
    obtain ⟨b2, b3⟩ := bit_shl hr7
    have f1 := (bit_or hm hr7).2.2
    have e1 : (nI np ≤ nI r) = False := eq_false (nI_ge (by omega) (by omega))
    have e3 : nI r + 1 = nI (r + 1) := (nI_succ r).symm
    have hlt2 : m / 2 ^ r % 2 < 2 := Nat.mod_lt _ (by decide)
    have e4 : (nI (m / 2 ^ r % 2) = 1) = (m / 2 ^ r % 2 = 1) := eq_nI (b := 1) (by omega) (by decide)
    rw [hk_50_2]
    simp only [bk_50, h.1, e1, b1, b2, e4, f1, e3, true_implies, not_true_eq_false, false_implies, not_false_eq_true, mmE, mmE0, mmH, mT, mR, mRf, mAl, mAs, mAz, mAn, Int.reduceToNat, Int32.reduceOfInt, Int64.reduceOfInt, Int.reduceAdd, swE, Nat.reduceDiv, Nat.reduceMod, Nat.reduceAdd, Nat.reduceMul, Nat.reduceEqDiff, Nat.reduceLeDiff, Nat.zero_le, List.length_nil, List.length_cons, Nat.zero_add, true_or, or_true, false_or, or_false, true_and, and_true, and_self, mb_01, mb_t, mb_f]
    refine ⟨fun q => ?_, fun q => ?_⟩
    · refine w_c2 hm h4 hr7 q hnow np 0 S I _ _ _ (by omega) h hn (fun I1 p4 p5 p6 p7 h1 fr1 => ih (r + 1) (al_c1 np now m S r) I1 _ _ _ _ _ (by omega) ?_ (by rw [fr1.1]; exact hn) (fun I' h2 fr2 => k I' (by rw [List.range'_succ]; exact h2) (rl_fr_tr fr1 fr2)))
      unfold al_c1
      rw [if_neg q]
      exact h1
    · refine ih (r + 1) (al_c1 np now m S r) I _ _ _ _ _ (by omega) ?_ hn (fun I' h2 fr2 => k I' (by rw [List.range'_succ]; exact h2) fr2)
      unfold al_c1
      rw [if_pos q]
      exact h
theorem w_circ {m now : Nat} (hm : m < 128) (h4 : bitsN 7 m = 4) (hnow : now ≤ 4) (h : rl_rep I np S) (hn : I 113 5 = nI now) (k : ∀ I', rl_rep I' np ((List.range' 0 np).foldl (al_c1 np now m) S) → rl_fr I I' → Q none I' J) : mm_call z (d + 2) 50 [.ref 113, .int (nI m)] I J Q := by
  simp only [ce_50, bk_50, mmE, mmE0, mmH, mT, mR, mRf, mAl, mAs, mAz, mAn, Int.reduceToNat, Int32.reduceOfInt, Int64.reduceOfInt, Int.reduceAdd, swE, Nat.reduceDiv, Nat.reduceMod, Nat.reduceAdd, Nat.reduceMul, Nat.reduceEqDiff, Nat.reduceLeDiff, Nat.zero_le, List.length_nil, List.length_cons, Nat.zero_add, true_or, or_true, false_or, or_false, true_and, and_true, and_self, mb_01, mb_t, mb_f]
  exact w_c1 hm h4 hnow _ 0 S I none none none none none (by omega) h hn k
end LG
