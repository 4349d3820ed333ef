def shN (m c : Nat) : Nat := m - m / 2 ^ c % 2 * 2 ^ c
def lowN (s : Nat) : Nat := if s = 0 then 0 else 2 ^ ntzN s
def al_len (now m e : Nat) (S : al_S) (c : Nat) : al_S := if shN m c = m then S else al_two S now (al_at S (some (shN m c ||| 2 ^ e))) (some ((m ^^^ lowN (shN m c)) ||| 2 ^ e)) (some ((m ^^^ shN m c ^^^ lowN (shN m c)) ||| 2 ^ e))
def ln_a (m c : Nat) : Nat := ntzN (m ^^^ 2 ^ c)
def ln_b (m c : Nat) : Nat := ntzN ((m ^^^ 2 ^ c) &&& ((m ^^^ 2 ^ c) - 1))
def al_line (np now m : Nat) (S : al_S) (c : Nat) : al_S := if m / 2 ^ c % 2 = 0 then (List.range' 0 np).foldl (al_len now m c) S else
  (List.range' 0 (np * (np - 1) / 2)).foldl (al_slideOver now 338 (ln_a m c) (ln_b m c) c) ((List.range' 0 (np * (np - 1) / 2)).foldl (al_slideOver now 128 (ln_a m c) (ln_b m c) c) (al_try S now (al_at S (n_ofPairs 548 (n_pair c (ln_a m c)) (n_pair c (ln_b m c)))) (n_ofMiddle 758 c (ln_a m c) (ln_b m c))))
section LF
variable {z : mm_S} {d : Nat} {I : mm_I} {J : mm_J} {np : Nat} {S : al_S} {Q : Option Value → mm_I → mm_J → Prop}
theorem bit_sh {m c : Nat} (hm : m < 128) (hc : c < 7) : nI m &&& ((1 : Int32) <<< (nI c &&& 31) ^^^ -1) = nI (shN m c) ∧ shN m c < 128 := by
  have t : ∀ m, m < 128 → ∀ c, c < 7 → nI m &&& ((1 : Int32) <<< (nI c &&& 31) ^^^ -1) = nI (shN m c) ∧ shN m c < 128 := by decide +kernel
  exact t m hm c hc
theorem bit_or {s e : Nat} (hs : s < 128) (he : e < 7) : (0 : Int32) + (nI s ||| nI (2 ^ e)) = nI (s ||| 2 ^ e) ∧ (905 : Int32) + (nI s ||| nI (2 ^ e)) = nI (905 + (s ||| 2 ^ e)) ∧ nI s ||| nI (2 ^ e) = nI (s ||| 2 ^ e) := by
  have t : ∀ s, s < 128 → ∀ e, e < 7 → (0 : Int32) + (nI s ||| nI (2 ^ e)) = nI (s ||| 2 ^ e) ∧ (905 : Int32) + (nI s ||| nI (2 ^ e)) = nI (905 + (s ||| 2 ^ e)) ∧ nI s ||| nI (2 ^ e) = nI (s ||| 2 ^ e) := by decide +kernel
  exact t s hs e he
theorem bit_low {s : Nat} (hs : s < 128) : nI s &&& -nI s = nI (lowN s) ∧ lowN s < 128 := by
  have t : ∀ s, s < 128 → nI s &&& -nI s = nI (lowN s) ∧ lowN s < 128 := by decide +kernel
  exact t s hs
theorem bit_xor {a b : Nat} (ha : a < 128) (hb : b < 128) : nI a ^^^ nI b = nI (a ^^^ b) ∧ a ^^^ b < 128 := by
  have t : ∀ a, a < 128 → ∀ b, b < 128 → nI a ^^^ nI b = nI (a ^^^ b) ∧ a ^^^ b < 128 := by decide +kernel
  exact t a ha b hb
theorem bit_shl {c : Nat} (hc : c < 7) : (1 : Int32) <<< (nI c &&& 31) = nI (2 ^ c) ∧ 2 ^ c < 128 := by
  have t : ∀ c, c < 7 → (1 : Int32) <<< (nI c &&& 31) = nI (2 ^ c) ∧ 2 ^ c < 128 := by decide +kernel
  exact t c hc
theorem bit_get {m c : Nat} (hm : m < 128) (hc : c < 7) : (nI m >>> (nI c &&& 31)) &&& 1 = nI (m / 2 ^ c % 2) := by
  have t : ∀ m, m < 128 → ∀ c, c < 7 → (nI m >>> (nI c &&& 31)) &&& 1 = nI (m / 2 ^ c % 2) := by decide +kernel
  exact t m hm c hc
theorem bit_dec {m : Nat} (hm : m < 128) (h0 : 0 < m) : nI m &&& (nI m - 1) = nI (m &&& (m - 1)) ∧ m &&& (m - 1) < 128 := by
  have t : ∀ m, m < 128 → 0 < m → nI m &&& (nI m - 1) = nI (m &&& (m - 1)) ∧ m &&& (m - 1) < 128 := by decide +kernel
  exact t m hm h0
def len_ok (m e c : Nat) : Bool := !(bitsN 7 m == 3) || !(m / 2 ^ e % 2 == 0) || shN m c == m || (isF (shN m c ||| 2 ^ e) && isF ((m ^^^ lowN (shN m c)) ||| 2 ^ e) && isF ((m ^^^ shN m c ^^^ lowN (shN m c)) ||| 2 ^ e))
theorem len_isF {m e c : Nat} (hm : m < 128) (h3 : bitsN 7 m = 3) (he : e < 7) (h0 : m / 2 ^ e % 2 = 0) (hc : c < 7) (h1 : ¬ shN m c = m) : isF (shN m c ||| 2 ^ e) = true ∧ isF ((m ^^^ lowN (shN m c)) ||| 2 ^ e) = true ∧ isF ((m ^^^ shN m c ^^^ lowN (shN m c)) ||| 2 ^ e) = true := by
  have t : ∀ m, m < 128 → ∀ e, e < 7 → ∀ c, c < 7 → len_ok m e c = true := by decide +kernel
  have := t m hm e he c hc
  unfold len_ok at this
  simpa [h3, h0, h1, and_assoc] using this
theorem w_len_loop {m e now : Nat} (hm : m < 128) (h3 : bitsN 7 m = 3) (he : e < 7) (h0 : m / 2 ^ e % 2 = 0) (hnow : now ≤ 4) : ∀ (w r : Nat) (S : al_S) (I : mm_I) (o4 o5 o6 : Option Value), r + w = np → rl_rep I np S → I 113 5 = nI now → (∀ I', rl_rep I' np ((List.range' r w).foldl (al_len now m e) S) → rl_fr I I' → Q none I' J) →
    mm_at z (mm_call z (d + 1)) (mm_code 36) Q 2 [some (.ref 113), some (.int (nI m)), some (.int (nI (2 ^ e))), some (.int (nI r)), o4, o5, o6] [] I J := by
  intro w
  induction w with
  | zero =>
    intro r S I o4 o5 o6 hr h hn k
    have hk := k I h rl_fr_rf
    have e1 : (nI np ≤ nI r) = True := eq_true (nI_le (by omega) (by have := h.2.2.1; omega))
    rw [hk_36_2]
    simp only [bk_36, h.1, e1, true_implies, not_true_eq_false, false_implies, mmE, mmE0, mmH, mT, mR, mRf, mAl, mAs, mAz, mAn, Int.reduceToNat, Int32.reduceOfInt, Int64.reduceOfInt, Int.reduceAdd, swE, Nat.reduceDiv, Nat.reduceMod, Nat.reduceAdd, Nat.reduceMul, Nat.reduceEqDiff, Nat.reduceLeDiff, Nat.zero_le, List.length_nil, List.length_cons, Nat.zero_add, true_or, or_true, false_or, or_false, true_and, and_true, and_self, mb_01, mb_t, mb_f]
    exact hk
  | succ w ih =>
    intro r S I o4 o5 o6 hr h hn k
    have h7 := h.2.2.1
    have hr7 : r < 7 := by omega
    obtain ⟨s1, s2⟩ := bit_sh hm hr7
    obtain ⟨l1, l2⟩ := bit_low s2
    obtain ⟨x1, x2⟩ := bit_xor hm l2
    obtain ⟨x3, x4⟩ := bit_xor hm s2
    obtain ⟨x5, x6⟩ := bit_xor x4 l2
    have f1 := (bit_or s2 he).1
    have f2 := (bit_or x2 he).1
    have f3 := (bit_or x6 he).1
    have e1 : (nI np ≤ nI r) = False := eq_false (nI_ge (by omega) (by omega))
    have e4 : (nI (shN m r) = nI m) = (shN m r = m) := eq_nI (by omega) (by omega)
    have e3 : nI r + 1 = nI (r + 1) := (nI_succ r).symm
    have hk2 : ∀ I1, rl_rep I1 np (al_len now m e S r) → rl_fr I I1 → ∀ o4 o5 o6, mm_at z (mm_call z (d + 1)) (mm_code 36) Q 2 [some (.ref 113), some (.int (nI m)), some (.int (nI (2 ^ e))), some (.int (nI (r + 1))), o4, o5, o6] [] I1 J := by
      intro I1 h1 fr1 o4 o5 o6
      refine ih (r + 1) _ I1 o4 o5 o6 (by omega) h1 (by rw [fr1.1]; exact hn) (fun I' h2 fr2 => k I' ?_ (rl_fr_tr fr1 fr2))
      rw [List.range'_succ]
      exact h2
    by_cases hs : shN m r = m
    · have e5 : (shN m r = m) = True := eq_true hs
      rw [hk_36_2]
      simp only [bk_36, h.1, e1, s1, e4, e5, e3, true_implies, not_true_eq_false, false_implies, not_false_eq_true, mmE, mmE0, mmH, mT, mR, mRf, mAl, mAs, mAz, mAn, Int.reduceToNat, Int32.reduceOfInt, Int64.reduceOfInt, Int.reduceAdd, swE, Nat.reduceDiv, Nat.reduceMod, Nat.reduceAdd, Nat.reduceMul, Nat.reduceEqDiff, Nat.reduceLeDiff, Nat.zero_le, List.length_nil, List.length_cons, Nat.zero_add, true_or, or_true, false_or, or_false, true_and, and_true, and_self, mb_01, mb_t, mb_f]
      refine hk2 I ?_ rl_fr_rf _ _ _
      unfold al_len
      rw [if_pos hs]
      exact h
    · obtain ⟨i1, i2, i3⟩ := len_isF hm h3 he h0 hr7 hs
      have hF1 : ∀ x, some (shN m r ||| 2 ^ e) = some x → isF x = true := fun x q => by cases q; exact i1
      have hF2 : ∀ x, some ((m ^^^ lowN (shN m r)) ||| 2 ^ e) = some x → isF x = true := fun x q => by cases q; exact i2
      have hF3 : ∀ x, some ((m ^^^ shN m r ^^^ lowN (shN m r)) ||| 2 ^ e) = some x → isF x = true := fun x q => by cases q; exact i3
      have e5 : (shN m r = m) = False := eq_false hs
      have ho6 := al_at_le h (isF_lt' hF1)
      have cat := fun QQ => c_at (z := z) (d := d) (J := J) h (isF_lt' hF1) QQ
      rw [eI_some] at cat
      have hdef : al_len now m e S r = al_two S now (al_at S (some (shN m r ||| 2 ^ e))) (some ((m ^^^ lowN (shN m r)) ||| 2 ^ e)) (some ((m ^^^ shN m r ^^^ lowN (shN m r)) ||| 2 ^ e)) := by
        unfold al_len
        rw [if_neg hs]
      generalize al_at S (some (shN m r ||| 2 ^ e)) = o at ho6 cat hdef
      have e2 : (nI o < (5 : Int32)) = (o < 5) := lt_nI (b := 5) (by omega) (by decide)
      rw [hk_36_2]
      simp only [bk_36, h.1, e1, s1, e4, e5, e3, f1, cat, e2, l1, x1, x3, x5, f2, f3, true_implies, not_true_eq_false, false_implies, not_false_eq_true, mmE, mmE0, mmH, mT, mR, mRf, mAl, mAs, mAz, mAn, Int.reduceToNat, Int32.reduceOfInt, Int64.reduceOfInt, Int.reduceAdd, swE, Nat.reduceDiv, Nat.reduceMod, Nat.reduceAdd, Nat.reduceMul, Nat.reduceEqDiff, Nat.reduceLeDiff, Nat.zero_le, List.length_nil, List.length_cons, Nat.zero_add, true_or, or_true, false_or, or_false, true_and, and_true, and_self, mb_01, mb_t, mb_f]
      refine ⟨fun h5 => ?_, fun h5 => ?_⟩
      · refine w_off (c := some ((m ^^^ lowN (shN m r)) ||| 2 ^ e)) h hn hnow h5 hF2 (fun I1 h1 fr1 => ?_)
        simp only [bk_36, x3, x5, f3, e3, mmE, mmE0, mmH, mT, mR, mRf, mAl, mAs, mAz, mAn, Int.reduceToNat, Int32.reduceOfInt, Int64.reduceOfInt, Int.reduceAdd, swE, Nat.reduceDiv, Nat.reduceMod, Nat.reduceAdd, Nat.reduceMul, Nat.reduceEqDiff, Nat.reduceLeDiff, Nat.zero_le, List.length_nil, List.length_cons, Nat.zero_add, true_or, or_true, false_or, or_false, true_and, and_true, and_self, mb_01, mb_t, mb_f]
        refine w_off (c := some ((m ^^^ shN m r ^^^ lowN (shN m r)) ||| 2 ^ e)) h1 (by rw [fr1.1]; exact hn) hnow h5 hF3 (fun I2 h2 fr2 => ?_)
        simp only [bk_36, e3, mmE, mmE0, mmH, mT, mR, mRf, mAl, mAs, mAz, mAn, Int.reduceToNat, Int32.reduceOfInt, Int64.reduceOfInt, Int.reduceAdd, swE, Nat.reduceDiv, Nat.reduceMod, Nat.reduceAdd, Nat.reduceMul, Nat.reduceEqDiff, Nat.reduceLeDiff, Nat.zero_le, List.length_nil, List.length_cons, Nat.zero_add, true_or, or_true, false_or, or_false, true_and, and_true, and_self, mb_01, mb_t, mb_f]
        refine hk2 I2 ?_ (rl_fr_tr fr1 fr2) _ _ _
        rw [hdef]
        exact h2
      · refine hk2 I ?_ rl_fr_rf _ _ _
        rw [hdef, al_two_no h5]
        exact h
theorem w_len {m e now : Nat} (hm : m < 128) (h3 : bitsN 7 m = 3) (he : e < 7) (h0 : m / 2 ^ e % 2 = 0) (hnow : now ≤ 4) (h : rl_rep I np S) (hn : I 113 5 = nI now) (k : ∀ I', rl_rep I' np ((List.range' 0 np).foldl (al_len now m e) S) → rl_fr I I' → Q none I' J) : mm_call z (d + 2) 36 [.ref 113, .int (nI m), .int (nI (2 ^ e))] I J Q := by
  simp only [ce_36, bk_36, mmE, mmE0, mmH, mT, mR, mRf, mAl, mAs, mAz, mAn, Int.reduceToNat, Int32.reduceOfInt, Int64.reduceOfInt, Int.reduceAdd, swE, Nat.reduceDiv, Nat.reduceMod, Nat.reduceAdd, Nat.reduceMul, Nat.reduceEqDiff, Nat.reduceLeDiff, Nat.zero_le, List.length_nil, List.length_cons, Nat.zero_add, true_or, or_true, false_or, or_false, true_and, and_true, and_self, mb_01, mb_t, mb_f]
  exact w_len_loop hm h3 he h0 hnow _ 0 S I none none none (by omega) h hn k
set_option maxRecDepth 20000 in
theorem line_ab {m c : Nat} (hm : m < 128) (h3 : bitsN 7 m = 3) (hc : c < 7) (h1 : ¬ m / 2 ^ c % 2 = 0) : ln_a m c < 7 ∧ ln_b m c < 7 ∧ 0 < m ^^^ 2 ^ c := by
  have t : ∀ m, m < 128 → ∀ c, c < 7 → (bitsN 7 m = 3 ∧ ¬ m / 2 ^ c % 2 = 0) → ln_a m c < 7 ∧ ln_b m c < 7 ∧ 0 < m ^^^ 2 ^ c := by decide +kernel
  exact t m hm c hc ⟨h3, h1⟩
theorem w_line_loop {m now : Nat} (hm : m < 128) (h3 : bitsN 7 m = 3) (hnow : now ≤ 4) : ∀ (w r : Nat) (S : al_S) (I : mm_I) (o3 o4 o5 o6 : Option Value), r + w = np → rl_rep I np S → I 113 5 = nI now → (∀ I', rl_rep I' np ((List.range' r w).foldl (al_line np now m) S) → rl_fr I I' → Q none I' J) →
    mm_at z (mm_call z (d + 2)) (mm_code 35) Q 2 [some (.ref 113), some (.int (nI m)), some (.int (nI r)), o3, o4, o5, o6] [] I J := by
  intro w
  induction w with
  | zero =>
    intro r S I o3 o4 o5 o6 hr h hn k
    have hk := k I h rl_fr_rf
    have e1 : (nI np ≤ nI r) = True := eq_true (nI_le (by omega) (by have := h.2.2.1; omega))
    rw [hk_35_2]
    simp only [bk_35, h.1, e1, true_implies, not_true_eq_false, false_implies, mmE, mmE0, mmH, mT, mR, mRf, mAl, mAs, mAz, mAn, Int.reduceToNat, Int32.reduceOfInt, Int64.reduceOfInt, Int.reduceAdd, swE, Nat.reduceDiv, Nat.reduceMod, Nat.reduceAdd, Nat.reduceMul, Nat.reduceEqDiff, Nat.reduceLeDiff, Nat.zero_le, List.length_nil, List.length_cons, Nat.zero_add, true_or, or_true, false_or, or_false, true_and, and_true, and_self, mb_01, mb_t, mb_f]
    exact hk
  | succ w ih =>
    intro r S I o3 o4 o5 o6 hr h hn k
    have h7 := h.2.2.1
    have hr7 : r < 7 := by omega
    have b1 := bit_get hm hr7
    obtain ⟨b2, b3⟩ := bit_shl hr7
    have e1 : (nI np ≤ nI r) = False := eq_false (nI_ge (by omega) (by omega))
    have e3 : nI r + 1 = nI (r + 1) := (nI_succ r).symm
    have hlt2 : m / 2 ^ r % 2 < 2 := Nat.mod_lt _ (by decide)
    have e4 : (nI (m / 2 ^ r % 2) = 0) = (m / 2 ^ r % 2 = 0) := eq_nI (b := 0) (by omega) (by decide)
    have hk2 : ∀ I1, rl_rep I1 np (al_line np now m S r) → rl_fr I I1 → ∀ o3 o4 o5 o6, mm_at z (mm_call z (d + 2)) (mm_code 35) Q 2 [some (.ref 113), some (.int (nI m)), some (.int (nI (r + 1))), o3, o4, o5, o6] [] I1 J := by
      intro I1 h1 fr1 o3 o4 o5 o6
      refine ih (r + 1) _ I1 o3 o4 o5 o6 (by omega) h1 (by rw [fr1.1]; exact hn) (fun I' h2 fr2 => k I' ?_ (rl_fr_tr fr1 fr2))
      rw [List.range'_succ]
      exact h2
    by_cases hz : m / 2 ^ r % 2 = 0
    · have e5 : (m / 2 ^ r % 2 = 0) = True := eq_true hz
      rw [hk_35_2]
      simp only [bk_35, h.1, e1, b1, b2, e4, e5, e3, true_implies, not_true_eq_false, false_implies, not_false_eq_true, mmE, mmE0, mmH, mT, mR, mRf, mAl, mAs, mAz, mAn, Int.reduceToNat, Int32.reduceOfInt, Int64.reduceOfInt, Int.reduceAdd, swE, Nat.reduceDiv, Nat.reduceMod, Nat.reduceAdd, Nat.reduceMul, Nat.reduceEqDiff, Nat.reduceLeDiff, Nat.zero_le, List.length_nil, List.length_cons, Nat.zero_add, true_or, or_true, false_or, or_false, true_and, and_true, and_self, mb_01, mb_t, mb_f]
      refine w_len hm h3 hr7 hz hnow h hn (fun I1 h1 fr1 => ?_)
      simp only [bk_35, e3, mmE, mmE0, mmH, mT, mR, mRf, mAl, mAs, mAz, mAn, Int.reduceToNat, Int32.reduceOfInt, Int64.reduceOfInt, Int.reduceAdd, swE, Nat.reduceDiv, Nat.reduceMod, Nat.reduceAdd, Nat.reduceMul, Nat.reduceEqDiff, Nat.reduceLeDiff, Nat.zero_le, List.length_nil, List.length_cons, Nat.zero_add, true_or, or_true, false_or, or_false, true_and, and_true, and_self, mb_01, mb_t, mb_f]
      refine hk2 I1 ?_ fr1 _ _ _ _
      unfold al_line
      rw [if_pos hz]
      exact h1
    · obtain ⟨q1, q2, q3⟩ := line_ab hm h3 hr7 hz
      have e5 : (m / 2 ^ r % 2 = 0) = False := eq_false hz
      obtain ⟨x1, x2⟩ := bit_xor hm b3
      obtain ⟨y1, y2⟩ := bit_dec x2 q3
      have hF1 : ∀ x, n_ofPairs 548 (n_pair r (ln_a m r)) (n_pair r (ln_b m r)) = some x → isF x = true := fun x e => isF_pairs (Or.inr (Or.inr rfl)) (p21 hr7 q1) (p21 hr7 q2) e
      have hF2 : ∀ x, n_ofMiddle 758 r (ln_a m r) (ln_b m r) = some x → isF x = true := fun x e => isF_middle (Or.inl rfl) hr7 q1 q2 e
      have f1 : fa_ofPairs 548 (fa_pair (nI r) (nI (ln_a m r))) (fa_pair (nI r) (nI (ln_b m r))) = eI (n_ofPairs 548 (n_pair r (ln_a m r)) (n_pair r (ln_b m r))) := by
        rw [fa_pair_n hr7 q1, fa_pair_n hr7 q2]
        exact fa_ofPairs_n (base := 548) (Or.inr (Or.inr rfl)) (p21 hr7 q1) (p21 hr7 q2)
      have f2 : fa_ofMiddle 758 (nI r) (nI (ln_a m r)) (nI (ln_b m r)) = eI (n_ofMiddle 758 r (ln_a m r) (ln_b m r)) := fa_ofMiddle_n (base := 758) (Or.inl rfl) hr7 q1 q2
      have ho6 := al_at_le h (isF_lt' hF1)
      have cat := fun QQ => c_at (z := z) (d := d + 1) (J := J) h (isF_lt' hF1) QQ
      have hdef : al_line np now m S r = (List.range' 0 (np * (np - 1) / 2)).foldl (al_slideOver now 338 (ln_a m r) (ln_b m r) r) ((List.range' 0 (np * (np - 1) / 2)).foldl (al_slideOver now 128 (ln_a m r) (ln_b m r) r) (al_try S now (al_at S (n_ofPairs 548 (n_pair r (ln_a m r)) (n_pair r (ln_b m r)))) (n_ofMiddle 758 r (ln_a m r) (ln_b m r)))) := by
        unfold al_line
        rw [if_neg hz]
      generalize al_at S (n_ofPairs 548 (n_pair r (ln_a m r)) (n_pair r (ln_b m r))) = o at ho6 cat hdef
      have e2 : ((5 : Int32) ≤ nI o) = (5 ≤ o) := le_nI (a := 5) (by decide) (by omega)
      have n1 := fun QQ => c_ntz (z := z) (d := d + 1) (I := I) (J := J) x2 QQ
      have n2 := fun QQ => c_ntz (z := z) (d := d + 1) (I := I) (J := J) y2 QQ
      have fin : ∀ I1, rl_rep I1 np (al_try S now o (n_ofMiddle 758 r (ln_a m r) (ln_b m r))) → rl_fr I I1 → ∀ o3 o6, mm_at z (mm_call z (d + 2)) (mm_code 35) Q 98 [some (.ref 113), some (.int (nI m)), some (.int (nI r)), o3, some (.int (nI (ln_a m r))), some (.int (nI (ln_b m r))), o6] [] I1 J := by
        intro I1 h1 fr1 o3 o6
        simp only [bk_35, mmE, mmE0, mmH, mT, mR, mRf, mAl, mAs, mAz, mAn, Int.reduceToNat, Int32.reduceOfInt, Int64.reduceOfInt, Int.reduceAdd, swE, Nat.reduceDiv, Nat.reduceMod, Nat.reduceAdd, Nat.reduceMul, Nat.reduceEqDiff, Nat.reduceLeDiff, Nat.zero_le, List.length_nil, List.length_cons, Nat.zero_add, true_or, or_true, false_or, or_false, true_and, and_true, and_self, mb_01, mb_t, mb_f]
        refine w_slideOver (base := 128) (Or.inl rfl) q1 q2 hr7 hnow h1 (by rw [fr1.1]; exact hn) (fun I2 h2 fr2 => ?_)
        simp only [bk_35, mmE, mmE0, mmH, mT, mR, mRf, mAl, mAs, mAz, mAn, Int.reduceToNat, Int32.reduceOfInt, Int64.reduceOfInt, Int.reduceAdd, swE, Nat.reduceDiv, Nat.reduceMod, Nat.reduceAdd, Nat.reduceMul, Nat.reduceEqDiff, Nat.reduceLeDiff, Nat.zero_le, List.length_nil, List.length_cons, Nat.zero_add, true_or, or_true, false_or, or_false, true_and, and_true, and_self, mb_01, mb_t, mb_f]
        refine w_slideOver (base := 338) (Or.inr (Or.inl rfl)) q1 q2 hr7 hnow h2 (by rw [fr2.1, fr1.1]; exact hn) (fun I3 h3 fr3 => ?_)
        simp only [bk_35, e3, mmE, mmE0, mmH, mT, mR, mRf, mAl, mAs, mAz, mAn, Int.reduceToNat, Int32.reduceOfInt, Int64.reduceOfInt, Int.reduceAdd, swE, Nat.reduceDiv, Nat.reduceMod, Nat.reduceAdd, Nat.reduceMul, Nat.reduceEqDiff, Nat.reduceLeDiff, Nat.zero_le, List.length_nil, List.length_cons, Nat.zero_add, true_or, or_true, false_or, or_false, true_and, and_true, and_self, mb_01, mb_t, mb_f]
        refine hk2 I3 ?_ (rl_fr_tr fr1 (rl_fr_tr fr2 fr3)) _ _ _ _
        rw [hdef]
        exact h3
      rw [hk_35_2]
      have g1 : ntzN (m ^^^ 2 ^ r) = ln_a m r := rfl
      have g2 : ntzN ((m ^^^ 2 ^ r) &&& ((m ^^^ 2 ^ r) - 1)) = ln_b m r := rfl
      simp only [bk_35.2.1, h.1, e1, b1, b2, e4, e5, x1, y1, n1, n2, g1, g2, c_ofPairs, c_pair, c_ofMiddle, f1, f2, cat, e2, true_implies, not_true_eq_false, false_implies, not_false_eq_true, mmE, mmE0, mmH, mT, mR, mRf, mAl, mAs, mAz, mAn, Int.reduceToNat, Int32.reduceOfInt, Int64.reduceOfInt, Int.reduceAdd, swE, Nat.reduceDiv, Nat.reduceMod, Nat.reduceAdd, Nat.reduceMul, Nat.reduceEqDiff, Nat.reduceLeDiff, Nat.zero_le, List.length_nil, List.length_cons, Nat.zero_add, true_or, or_true, false_or, or_false, true_and, and_true, and_self, mb_01, mb_t, mb_f]
      refine ⟨fun h5 => fin I ?_ rl_fr_rf _ _, fun h5 => ?_⟩
      · rw [al_try_no (by omega)]
        exact h
      · refine w_off h hn hnow (by omega) hF2 (fun I1 h1 fr1 => ?_)
        exact fin I1 h1 fr1 _ _
theorem w_line {m now : Nat} (hm : m < 128) (h3 : bitsN 7 m = 3) (hnow : now ≤ 4) (h : rl_rep I np S) (hn : I 113 5 = nI now) (k : ∀ I', rl_rep I' np ((List.range' 0 np).foldl (al_line np now m) S) → rl_fr I I' → Q none I' J) : mm_call z (d + 3) 35 [.ref 113, .int (nI m)] I J Q := by
  simp only [ce_35, bk_35, mmE, mmE0, mmH, mT, mR, mRf, mAl, mAs, mAz, mAn, Int.reduceToNat, Int32.reduceOfInt, Int64.reduceOfInt, Int.reduceAdd, swE, Nat.reduceDiv, Nat.reduceMod, Nat.reduceAdd, Nat.reduceMul, Nat.reduceEqDiff, Nat.reduceLeDiff, Nat.zero_le, List.length_nil, List.length_cons, Nat.zero_add, true_or, or_true, false_or, or_false, true_and, and_true, and_self, mb_01, mb_t, mb_f]
  exact w_line_loop hm h3 hnow _ 0 S I none none none none (by omega) h hn k
end LF
