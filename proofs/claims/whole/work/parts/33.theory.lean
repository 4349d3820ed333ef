/-! ===== levels, as the document has them, and why the rows of waiting facts give them ===== -/
abbrev rt_T : Type := Nat × Nat × Nat × Nat × Nat
/-- the rules: what stands ahead of the colon, what behind it; letters by numbers -/
def rt_rules : List (List rt_T × rt_T) := [
  ([(1, 0, 1, 2, 3), (1, 2, 3, 4, 5)], (1, 0, 1, 4, 5)), ([(2, 0, 1, 2, 3), (2, 2, 3, 4, 5)], (1, 0, 1, 4, 5)), ([(2, 0, 1, 2, 3), (1, 2, 3, 4, 5)], (2, 0, 1, 4, 5)),
  ([(4, 0, 1, 2, 0)], (3, 0, 1, 0, 2)), ([(4, 0, 1, 2, 0)], (6, 0, 1, 2, 0)), ([(6, 0, 1, 2, 0)], (0, 0, 1, 2, 0)), ([(4, 0, 1, 2, 0), (4, 3, 1, 4, 0)], (1, 0, 3, 2, 4)),
  ([(3, 0, 1, 2, 3), (3, 2, 3, 4, 5)], (3, 0, 1, 4, 5)), ([(1, 0, 1, 0, 2)], (0, 0, 1, 2, 0)), ([(0, 0, 1, 2, 0), (0, 0, 1, 3, 0)], (0, 0, 2, 3, 0)), ([(3, 0, 1, 2, 1), (3, 0, 3, 2, 3)], (2, 0, 2, 1, 3)),
  ([(4, 0, 1, 2, 0), (2, 0, 3, 1, 2)], (3, 3, 1, 3, 2)), ([(3, 0, 1, 0, 2), (3, 0, 2, 0, 3), (3, 0, 3, 0, 4)], (5, 1, 2, 3, 4)), ([(5, 0, 1, 2, 3), (5, 0, 1, 2, 4)], (5, 0, 1, 3, 4)),
  ([(0, 0, 1, 2, 0), (1, 0, 1, 3, 4)], (1, 0, 2, 3, 4)), ([(0, 0, 1, 2, 0), (3, 0, 1, 0, 2)], (4, 0, 1, 2, 0)), ([(2, 0, 1, 2, 3), (0, 0, 1, 4, 0)], (2, 0, 4, 2, 3))]
/-- a fact of so many points -/
def isP (np f : Nat) : Prop := ∃ k a b c d, k < 7 ∧ a < np ∧ b < np ∧ c < np ∧ d < np ∧ n_number k a b c d = some f
def rt_f (s : Nat → Nat) (t : rt_T) : Option Nat := n_number t.1 (s t.2.1) (s t.2.2.1) (s t.2.2.2.1) (s t.2.2.2.2)
/-- a rule with points for its letters: from the facts ps the fact c -/
def rt_inst (np : Nat) (ps : List Nat) (c : Nat) : Prop := ∃ (r : Nat) (q : List rt_T × rt_T) (s : Nat → Nat), rt_rules[r]? = some q ∧ (∀ i, i < 6 → s i < np) ∧ q.1.map (rt_f s) = ps.map some ∧ rt_f s q.2 = some c
def rt_lv (np : Nat) (S0 : Nat → Prop) : Nat → Nat → Prop
  | 0, f => S0 f
  | k + 1, f => rt_lv np S0 k f ∨ ∃ ps, rt_inst np ps f ∧ ∀ p ∈ ps, rt_lv np S0 k p
theorem rt_lv_mono {np : Nat} {S0 : Nat → Prop} {k l f : Nat} (h : k ≤ l) (q : rt_lv np S0 k f) : rt_lv np S0 l f := by
  induction h with
  | refl => exact q
  | step _ ih => exact Or.inl ih
/-- what a run of offers above a level does -/
def al_R (now : Nat) (S T : al_S) : Prop := (∀ g, T.1 g ≤ S.1 g) ∧ (∀ g, T.1 g ≠ S.1 g → now < T.1 g ∧ (T.1 g < 5 → g ∈ T.2 (T.1 g))) ∧ ∀ k x, x ∈ S.2 k → x ∈ T.2 k
theorem al_R_rf {now : Nat} {S : al_S} : al_R now S S := ⟨fun _ => Nat.le_refl _, fun _ h => absurd rfl h, fun _ _ h => h⟩
theorem al_R_offer {now l : Nat} {S T : al_S} {c : Option Nat} (hl : now < l) (h : al_R now S T) : al_R now S (al_offer T c l) := by
  cases c with
  | none => exact h
  | some c =>
    unfold al_offer
    dsimp only
    split
    · rename_i hlt
      obtain ⟨h1, h2, h3⟩ := h
      refine ⟨fun g => ?_, fun g hg => ?_, fun k x hx => ?_⟩
      · show (if g = c then l else T.1 g) ≤ S.1 g
        have := h1 g
        split
        · rename_i e
          subst e
          omega
        · exact this
      · have e0 : al_up T.1 c l g = if g = c then l else T.1 g := rfl
        dsimp only at hg ⊢
        rw [e0] at hg ⊢
        by_cases e : g = c
        · rw [if_pos e] at hg ⊢
          refine ⟨hl, fun h5 => ?_⟩
          rw [if_pos h5]
          show g ∈ (if l = l then T.2 l ++ [c] else T.2 l)
          rw [if_pos rfl, e]
          exact List.mem_append_right _ (List.mem_singleton.mpr rfl)
        · rw [if_neg e] at hg ⊢
          obtain ⟨q1, q2⟩ := h2 g hg
          refine ⟨q1, fun h5 => ?_⟩
          split
          · show g ∈ (if T.1 g = l then T.2 l ++ [c] else T.2 (T.1 g))
            split
            · rename_i e2
              rw [← e2]
              exact List.mem_append_left _ (q2 h5)
            · exact q2 h5
          · exact q2 h5
      · dsimp only
        split
        · show x ∈ (if k = l then T.2 l ++ [c] else T.2 k)
          split
          · rename_i e2
            rw [← e2]
            exact List.mem_append_left _ (h3 k x hx)
          · exact h3 k x hx
        · exact h3 k x hx
    · exact h
theorem al_R_try {now o : Nat} {S T : al_S} {c : Option Nat} (h : al_R now S T) : al_R now S (al_try T now o c) := by
  unfold al_try
  split
  · exact al_R_offer (by omega) h
  · exact h
theorem al_R_use {np now f : Nat} {S : al_S} : al_R now S (al_use np now f S) := al_use_ind (P := fun T => al_R now S T) (fun _ _ _ q => al_R_try q) al_R_rf
theorem al_R_tr {now : Nat} {S T U : al_S} (h : al_R now S T) (h' : al_R now T U) : al_R now S U := by
  refine ⟨fun g => Nat.le_trans (h'.1 g) (h.1 g), fun g hg => ?_, fun k x hx => h'.2.2 k x (h.2.2 k x hx)⟩
  by_cases e : U.1 g = T.1 g
  · rw [e] at hg ⊢
    obtain ⟨q1, q2⟩ := h.2.1 g hg
    exact ⟨q1, fun h5 => h'.2.2 _ _ (q2 h5)⟩
  · exact h'.2.1 g e
theorem al_R_sps {np n : Nat} : ∀ (l : List Nat) (S : al_S), al_R n S (l.foldl (al_sps np n) S)
  | [], _ => al_R_rf
  | f :: l, S => by
    refine al_R_tr ?_ (al_R_sps l (al_sps np n S f))
    unfold al_sps
    split
    · exact al_R_use
    · exact al_R_rf
/-- sound: no fact's number lies below its level -/
def al_snd (np : Nat) (S0 : Nat → Prop) (S : al_S) : Prop := ∀ f, S.1 f ≤ 5 → rt_lv np S0 (S.1 f) f
/-- whatever follows is at hand, or one that it follows from waits -/
def al_inv (np : Nat) (S : al_S) : Prop := ∀ ps c M, rt_inst np ps c → M < 5 → (∀ p ∈ ps, S.1 p ≤ M) → S.1 c ≤ M + 1 ∨ ∃ p ∈ ps, p ∈ S.2 (S.1 p)
/-- what is wanted of the use of a fact -/
def al_good (np : Nat) : Prop := ∀ (now f : Nat) (S : al_S) (S0 : Nat → Prop), now ≤ 4 → S.1 f = now →
  (∀ ps c M, rt_inst np ps c → f ∈ ps → M < 5 → (∀ p ∈ ps, S.1 p ≤ M) → (al_use np now f S).1 c ≤ M + 1) ∧ ((∀ g, S0 g → isP np g) → al_snd np S0 S → al_snd np S0 (al_use np now f S))
theorem al_inv_R {np now : Nat} {S T : al_S} (h : al_R now S T) (hi : al_inv np S) : al_inv np T := by
  intro ps c M hin hM hp
  by_cases hch : ∃ p ∈ ps, T.1 p ≠ S.1 p
  · obtain ⟨p, hp1, hp2⟩ := hch
    exact Or.inr ⟨p, hp1, (h.2.1 p hp2).2 (by have := hp p hp1; omega)⟩
  · have heq : ∀ p ∈ ps, T.1 p = S.1 p := fun p hp1 => Classical.byContradiction fun q => hch ⟨p, hp1, q⟩
    rcases hi ps c M hin hM (fun p hp1 => by rw [← heq p hp1]; exact hp p hp1) with q | ⟨p, q1, q2⟩
    · exact Or.inl (Nat.le_trans (h.1 c) q)
    · exact Or.inr ⟨p, q1, by rw [heq p q1]; exact h.2.2 _ _ q2⟩
/-- behind the row of a level all of its facts have been used -/
theorem al_sps_used {np n : Nat} (hg : al_good np) (hn : n ≤ 4) : ∀ (l : List Nat) (S : al_S), ∀ ps c M, rt_inst np ps c → M < 5 → (∃ f ∈ l, f ∈ ps ∧ S.1 f = n) → (∀ p ∈ ps, (l.foldl (al_sps np n) S).1 p ≤ M) → (l.foldl (al_sps np n) S).1 c ≤ M + 1 ∨ ∃ p ∈ ps, n < (l.foldl (al_sps np n) S).1 p ∧ p ∈ (l.foldl (al_sps np n) S).2 ((l.foldl (al_sps np n) S).1 p)
  | [], _, _, _, _, _, _, ⟨_, h, _⟩, _ => by cases h
  | f :: l, S, ps, c, M, hin, hM, ⟨f', hf1, hf2, hf3⟩, hp => by
    have hR := al_R_sps (np := np) (n := n) l (al_sps np n S f)
    have hR1 : al_R n S (al_sps np n S f) := by
      unfold al_sps
      split
      · exact al_R_use
      · exact al_R_rf
    by_cases hfin : ∃ p ∈ ps, (l.foldl (al_sps np n) (al_sps np n S f)).1 p ≠ S.1 p
    · obtain ⟨p, q1, q2⟩ := hfin
      obtain ⟨r1, r2⟩ := (al_R_tr hR1 hR).2.1 p q2
      exact Or.inr ⟨p, q1, r1, r2 (by have := hp p q1; simp only [List.foldl_cons] at this; omega)⟩
    · have heq : ∀ p ∈ ps, (l.foldl (al_sps np n) (al_sps np n S f)).1 p = S.1 p := fun p q1 => Classical.byContradiction fun q => hfin ⟨p, q1, q⟩
      rcases List.mem_cons.mp hf1 with rfl | hf1
      · left
        have hu := (hg n f' S (fun _ => False) hn hf3).1 ps c M hin hf2 hM (fun p q1 => by rw [← heq p q1]; exact hp p q1)
        have e : al_sps np n S f' = al_use np n f' S := if_pos hf3
        refine Nat.le_trans (hR.1 c) ?_
        rw [e]
        exact hu
      · have hsame : (al_sps np n S f).1 f' = n := by
          have h1 := hR.1 f'
          have h2 := hR1.1 f'
          rw [heq f' hf2, hf3] at h1
          omega
        exact al_sps_used hg hn l (al_sps np n S f) ps c M hin hM ⟨f', hf1, hf2, hsame⟩ hp
theorem al_sp1_inv {np n : Nat} (hg : al_good np) (hn : n ≤ 4) {S : al_S} (hi : al_inv np S) : al_inv np (al_sp1 np S n) := by
  intro ps c M hin hM hp
  have hR := al_R_sps (np := np) (n := n) (S.2 n) S
  have hT := al_inv_R hR hi
  have e1 : ∀ g, (al_sp1 np S n).1 g = ((S.2 n).foldl (al_sps np n) S).1 g := fun _ => rfl
  have e2 : ∀ k, k ≠ n → (al_sp1 np S n).2 k = ((S.2 n).foldl (al_sps np n) S).2 k := fun k hk => if_neg hk
  rcases hT ps c M hin hM hp with q | ⟨p, q1, q2⟩
  · exact Or.inl q
  · by_cases hpn : ((S.2 n).foldl (al_sps np n) S).1 p = n
    · -- it waited at this level: it has been used
      have hq : ∀ (l : List Nat) (T : al_S), (l.foldl (al_sps np n) T).2 n = T.2 n := by
        intro l
        induction l with
        | nil => intro T; rfl
        | cons f l ih => intro T; rw [List.foldl_cons, ih]; exact al_sps_que (Nat.le_refl n)
      rw [hpn, hq] at q2
      have hpS : S.1 p = n := Classical.byContradiction fun h => by
        have := (hR.2.1 p (by rw [hpn]; exact fun e => h e.symm)).1
        omega
      rcases al_sps_used hg hn (S.2 n) S ps c M hin hM ⟨p, q2, q1, hpS⟩ hp with r | ⟨p', r1, r2, r3⟩
      · exact Or.inl r
      · refine Or.inr ⟨p', r1, ?_⟩
        rw [e1, e2 _ (by omega)]
        exact r3
    · refine Or.inr ⟨p, q1, ?_⟩
      rw [e1, e2 _ hpn]
      exact q2
