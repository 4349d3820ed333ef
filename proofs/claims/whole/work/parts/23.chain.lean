/-- what follows from the one in use and others of which o is the highest level -/
def al_try (S : al_S) (now o : Nat) (c : Option Nat) : al_S := if o < 5 then al_offer S c (1 + max now o) else S
def al_chain (now p q via gives : Nat) (S : al_S) (r : Nat) : al_S := al_try S now (al_at S (n_ofPairs via (some q) (some r))) (n_ofPairs gives (some p) (some r))
section LC
variable {z : mm_S} {d : Nat} {I : mm_I} {J : mm_J} {np : Nat} {S : al_S} {Q : Option Value → mm_I → mm_J → Prop}
theorem al_at_le (h : rl_rep I np S) {f : Option Nat} (hf : ∀ x, f = some x → x < 1180) : al_at S f ≤ 6 := by
  cases f with
  | none => exact Nat.le_refl _
  | some x => exact (h.2.2.2.1 x (hf x rfl)).2
theorem max_nI {a b : Nat} (ha : a ≤ 6) (hb : b ≤ 6) : 1 + (if nI b ≤ nI a then nI a else nI b) = nI (1 + max a b) := by
  have h : ∀ a, a ≤ 6 → ∀ b, b ≤ 6 → 1 + (if nI b ≤ nI a then nI a else nI b) = nI (1 + max a b) := by decide +kernel
  exact h a ha b hb
/-- offering with the level of another fact -/
theorem w_off {c : Option Nat} {now o : Nat} (h : rl_rep I np S) (hn : I 113 5 = nI now) (hnow : now ≤ 4) (ho : o < 5) (hc : ∀ x, c = some x → isF x = true)
    (k : ∀ I', rl_rep I' np (al_try S now o c) → rl_fr I I' → Q none I' J) : mm_call z (d + 1) 37 [.ref 113, .int (eI c), .int (nI o)] I J Q := by
  refine w_offer h hc (l := 1 + max now o) ?_ ?_ (fun I' h1 h2 => k I' ?_ h2)
  · rw [hn]
    exact max_nI (by omega) (by omega)
  · omega
  · unfold al_try
    rw [if_pos ho]
    exact h1
theorem al_try_no {now o : Nat} {c : Option Nat} (ho : ¬ o < 5) : al_try S now o c = S := if_neg ho
theorem isF_lt' {f : Option Nat} (h : ∀ x, f = some x → isF x = true) : ∀ x, f = some x → x < 1180 := fun x e => isF_lt (h x e)
theorem some21 {p : Nat} (hp : p < 21) : ∀ x, some p = some x → x < 21 := fun x e => by cases e; exact hp
theorem pairs21 {n : Nat} (h : n ≤ 7) : n * (n - 1) / 2 ≤ 21 := by
  have k : ∀ n, n ≤ 7 → n * (n - 1) / 2 ≤ 21 := by decide
  exact k n h
def isB (b : Nat) : Prop := b = 128 ∨ b = 338 ∨ b = 548
theorem w_chain_loop {p q via gives now : Nat} (hp : p < 21) (hq : q < 21) (hv : isB via) (hg : isB gives) (hnow : now ≤ 4) : ∀ (m r : Nat) (S : al_S) (I : mm_I) (ov : Option Value), r + m = np * (np - 1) / 2 → rl_rep I np S → I 113 5 = nI now → (∀ I', rl_rep I' np ((List.range' r m).foldl (al_chain now p q via gives) S) → rl_fr I I' → Q none I' J) →
    mm_at z (mm_call z (d + 1)) (mm_code 40) Q 3 [some (.ref 113), some (.int (nI p)), some (.int (nI q)), some (.int (nI via)), some (.int (nI gives)), some (.int (nI r)), ov] [] I J := by
  intro m
  induction m with
  | zero =>
    intro r S I ov hr h hn k
    have hk := k I h rl_fr_rf
    have e1 : (nI (np * (np - 1) / 2) ≤ nI r) = True := eq_true (nI_le (by omega) (by have := pairs21 h.2.2.1; omega))
    rw [hk_40_3]
    simp only [bk_40, h.2.1, e1, true_implies, not_true_eq_false, false_implies, mmE, mmE0, mmH, mT, mR, mRf, mAl, mAs, mAz, mAn, Int.reduceToNat, Int32.reduceOfInt, Int64.reduceOfInt, Int.reduceAdd, swE, Nat.reduceDiv, Nat.reduceMod, Nat.reduceAdd, Nat.reduceMul, Nat.reduceEqDiff, Nat.reduceLeDiff, Nat.zero_le, List.length_nil, List.length_cons, Nat.zero_add, true_or, or_true, false_or, or_false, true_and, and_true, and_self, mb_01, mb_t, mb_f]
    exact hk
  | succ m ih =>
    intro r S I ov hr h hn k
    have h21 := pairs21 h.2.2.1
    have hr21 : r < 21 := by omega
    have hF1 : ∀ x, n_ofPairs via (some q) (some r) = some x → isF x = true := fun x e => isF_pairs hv (some21 hq) (some21 hr21) e
    have hF2 : ∀ x, n_ofPairs gives (some p) (some r) = some x → isF x = true := fun x e => isF_pairs hg (some21 hp) (some21 hr21) e
    have f1 : fa_ofPairs (nI via) (nI q) (nI r) = eI (n_ofPairs via (some q) (some r)) := fa_ofPairs_n (base := via) (p := some q) (q := some r) hv (some21 hq) (some21 hr21)
    have f2 : fa_ofPairs (nI gives) (nI p) (nI r) = eI (n_ofPairs gives (some p) (some r)) := fa_ofPairs_n (base := gives) (p := some p) (q := some r) hg (some21 hp) (some21 hr21)
    have e1 : (nI (np * (np - 1) / 2) ≤ nI r) = False := eq_false (nI_ge (by omega) (by omega))
    have ho6 := al_at_le h (isF_lt' hF1)
    have e2 : ((5 : Int32) ≤ nI (al_at S (n_ofPairs via (some q) (some r)))) = (5 ≤ al_at S (n_ofPairs via (some q) (some r))) := le_nI (a := 5) (by decide) (by omega)
    have e3 : nI r + 1 = nI (r + 1) := (nI_succ r).symm
    have hk2 : ∀ I1, rl_rep I1 np (al_chain now p q via gives S r) → rl_fr I I1 → ∀ ov2, mm_at z (mm_call z (d + 1)) (mm_code 40) Q 3 [some (.ref 113), some (.int (nI p)), some (.int (nI q)), some (.int (nI via)), some (.int (nI gives)), some (.int (nI (r + 1))), ov2] [] I1 J := by
      intro I1 h1 fr1 ov2
      refine ih (r + 1) _ I1 ov2 (by omega) h1 (by rw [fr1.1]; exact hn) (fun I' h2 fr2 => k I' ?_ (rl_fr_tr fr1 fr2))
      rw [List.range'_succ]
      exact h2
    rw [hk_40_3]
    simp only [bk_40, h.2.1, e1, c_ofPairs, f1, f2, c_at h (isF_lt' hF1), e2, e3, true_implies, not_true_eq_false, false_implies, not_false_eq_true, mmE, mmE0, mmH, mT, mR, mRf, mAl, mAs, mAz, mAn, Int.reduceToNat, Int32.reduceOfInt, Int64.reduceOfInt, Int.reduceAdd, swE, Nat.reduceDiv, Nat.reduceMod, Nat.reduceAdd, Nat.reduceMul, Nat.reduceEqDiff, Nat.reduceLeDiff, Nat.zero_le, List.length_nil, List.length_cons, Nat.zero_add, true_or, or_true, false_or, or_false, true_and, and_true, and_self, mb_01, mb_t, mb_f]
    refine ⟨fun h5 => ?_, fun h5 => ?_⟩
    · refine hk2 I ?_ rl_fr_rf _
      unfold al_chain
      rw [al_try_no (by omega)]
      exact h
    · refine w_off h hn hnow (by omega) hF2 (fun I1 h1 fr1 => ?_)
      simp only [bk_40, e3, mmE, mmE0, mmH, mT, mR, mRf, mAl, mAs, mAz, mAn, Int.reduceToNat, Int32.reduceOfInt, Int64.reduceOfInt, Int.reduceAdd, swE, Nat.reduceDiv, Nat.reduceMod, Nat.reduceAdd, Nat.reduceMul, Nat.reduceEqDiff, Nat.reduceLeDiff, Nat.zero_le, List.length_nil, List.length_cons, Nat.zero_add, true_or, or_true, false_or, or_false, true_and, and_true, and_self, mb_01, mb_t, mb_f]
      exact hk2 I1 h1 fr1 _
theorem w_chain {p q via gives now : Nat} (hp : p < 21) (hq : q < 21) (hv : isB via) (hg : isB gives) (hnow : now ≤ 4) (h : rl_rep I np S) (hn : I 113 5 = nI now) (k : ∀ I', rl_rep I' np ((List.range' 0 (np * (np - 1) / 2)).foldl (al_chain now p q via gives) S) → rl_fr I I' → Q none I' J) : mm_call z (d + 2) 40 [.ref 113, .int (nI p), .int (nI q), .int (nI via), .int (nI gives)] I J Q := by
  simp only [ce_40, bk_40, mmE, mmE0, mmH, mT, mR, mRf, mAl, mAs, mAz, mAn, Int.reduceToNat, Int32.reduceOfInt, Int64.reduceOfInt, Int.reduceAdd, swE, Nat.reduceDiv, Nat.reduceMod, Nat.reduceAdd, Nat.reduceMul, Nat.reduceEqDiff, Nat.reduceLeDiff, Nat.zero_le, List.length_nil, List.length_cons, Nat.zero_add, true_or, or_true, false_or, or_false, true_and, and_true, and_self, mb_01, mb_t, mb_f]
  exact w_chain_loop hp hq hv hg hnow _ 0 S I none (by omega) h hn k
end LC
