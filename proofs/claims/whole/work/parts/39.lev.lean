/-! levels after a spread are the document's -/
section LV
variable {np : Nat} {S0 : Nat → Prop} {S : al_S}
/-- what holds of the levels between two calls, of the facts assumed -/
def al_ok (np : Nat) (S0 : Nat → Prop) (S : al_S) : Prop := (∀ g, S0 g → isP np g) ∧ al_snd np S0 S ∧ al_inv np S ∧ ∀ g, S0 g → S.1 g = 0
theorem ok_sps (hnp : np ≤ 7) {n : Nat} (hn : n ≤ 4) (h0 : ∀ g, S0 g → isP np g) : ∀ (l : List Nat) (S : al_S), al_snd np S0 S → al_snd np S0 (l.foldl (al_sps np n) S)
  | [], _, h => h
  | f :: l, S, h => by
    refine ok_sps hnp hn h0 l _ ?_
    unfold al_sps
    split
    · rename_i hf
      exact sn_use hn hnp h0 hf h
    · exact h
theorem ok_sp1 (hnp : np ≤ 7) {n : Nat} (hn : n ≤ 4) (h : al_ok np S0 S) : al_ok np S0 (al_sp1 np S n) := by
  obtain ⟨h1, h2, h3, h4⟩ := h
  refine ⟨h1, ok_sps hnp hn h1 (S.2 n) S h2, al_sp1_inv (al_good_np hnp) hn h3, fun g hg => ?_⟩
  have := (al_R_sps (np := np) (n := n) (S.2 n) S).1 g
  rw [h4 g hg] at this
  exact Nat.le_zero.mp this
theorem sp1_que {n k : Nat} (hk : k ≤ n) : (al_sp1 np S n).2 k = if k = n then [] else S.2 k := by
  have hq : ∀ (l : List Nat) (T : al_S), (l.foldl (al_sps np n) T).2 k = T.2 k := by
    intro l
    induction l with
    | nil => intro T; rfl
    | cons f l ih => intro T; rw [List.foldl_cons, ih]; exact al_sps_que hk
  show (if k = n then [] else ((S.2 n).foldl (al_sps np n) S).2 k) = _
  rw [hq]
theorem ok_fold (hnp : np ≤ 7) : ∀ (w n : Nat) (S : al_S), n + w ≤ 5 → al_ok np S0 S → (∀ k, k < n → S.2 k = []) → al_ok np S0 ((List.range' n w).foldl (al_sp1 np) S) ∧ ∀ k, k < n + w → ((List.range' n w).foldl (al_sp1 np) S).2 k = []
  | 0, n, S, _, h, hq => ⟨h, fun k hk => hq k (by omega)⟩
  | w + 1, n, S, hw, h, hq => by
    have := ok_fold hnp w (n + 1) (al_sp1 np S n) (by omega) (ok_sp1 hnp (by omega) h) (fun k hk => by
      rw [sp1_que (by omega)]
      split
      · rfl
      · exact hq k (by omega))
    rw [List.range'_succ, List.foldl_cons]
    exact ⟨this.1, fun k hk => this.2 k (by omega)⟩
theorem ok_spread (hnp : np ≤ 7) {D : Nat} (hD : D ≤ 5) (h : al_ok np S0 S) : al_ok np S0 (al_spread np D S) ∧ ∀ k, k < D → (al_spread np D S).2 k = [] := by
  have := ok_fold hnp D 0 S (by omega) h (fun k hk => by omega)
  exact ⟨this.1, fun k hk => this.2 k (by omega)⟩
theorem al_exact {D : Nat} (hD : D ≤ 5) (h : al_ok np S0 S) (hq : ∀ k, k < D → S.2 k = []) : ∀ k, k ≤ D → ∀ f, rt_lv np S0 k f ↔ S.1 f ≤ k := by
  obtain ⟨h1, h2, h3, h4⟩ := h
  intro k
  induction k with
  | zero =>
    intro _ f
    exact ⟨fun q => by rw [h4 f q]; exact Nat.le_refl _, fun q => by have := h2 f (by omega); rw [Nat.le_zero.mp q] at this; exact this⟩
  | succ k ih =>
    intro hk f
    have ih := ih (by omega)
    refine ⟨fun q => ?_, fun q => rt_lv_mono q (h2 f (by omega))⟩
    rcases q with q | ⟨ps, q1, q2⟩
    · have := (ih f).mp q
      omega
    · rcases h3 ps f k q1 (by omega) (fun p hp => (ih p).mp (q2 p hp)) with r | ⟨p, r1, r2⟩
      · exact r
      · have := (ih p).mp (q2 p r1)
        rw [hq _ (by omega)] at r2
        cases r2
/-- one or the other, by a sentence -/
noncomputable def cif {α : Type} (p : Prop) (a b : α) : α := @ite α p (Classical.propDecidable p) a b
theorem cif_pos {α : Type} {p : Prop} {a b : α} (h : p) : cif p a b = a := @if_pos p (Classical.propDecidable p) h α a b
theorem cif_neg {α : Type} {p : Prop} {a b : α} (h : ¬ p) : cif p a b = b := @if_neg p (Classical.propDecidable p) h α a b
/-- a fact's level, 6 where it is none up to 5 -/
noncomputable def rt_lvl (np : Nat) (S0 : Nat → Prop) (f : Nat) : Nat := cif (rt_lv np S0 0 f) 0 (cif (rt_lv np S0 1 f) 1 (cif (rt_lv np S0 2 f) 2 (cif (rt_lv np S0 3 f) 3 (cif (rt_lv np S0 4 f) 4 (cif (rt_lv np S0 5 f) 5 6)))))
theorem cif_le {p : Prop} {a b k : Nat} (ha : a ≤ k ↔ True) : cif p a b ≤ k ↔ p ∨ b ≤ k := by
  by_cases h : p
  · rw [cif_pos h]
    exact ⟨fun _ => Or.inl h, fun _ => ha.mpr trivial⟩
  · rw [cif_neg h]
    exact ⟨fun q => Or.inr q, fun q => q.resolve_left h⟩
theorem cif_gt {p : Prop} {a b k : Nat} (ha : k < a) (hb : k < b) : ¬ cif p a b ≤ k := by
  by_cases h : p
  · rw [cif_pos h]; omega
  · rw [cif_neg h]; omega
theorem cif_ge {p : Prop} {a b k : Nat} (ha : k < a) (hb : k < b) : k < cif p a b := by
  have := cif_gt (p := p) ha hb
  omega
theorem rt_lvl_le {f k : Nat} (hk : k ≤ 5) : rt_lvl np S0 f ≤ k ↔ rt_lv np S0 k f := by
  have m : ∀ {a b : Nat}, a ≤ b → rt_lv np S0 a f → rt_lv np S0 b f := fun h q => rt_lv_mono h q
  have g5 : 4 < cif (rt_lv np S0 5 f) 5 6 := cif_ge (by omega) (by omega)
  have g4 : 3 < cif (rt_lv np S0 4 f) 4 (cif (rt_lv np S0 5 f) 5 6) := cif_ge (by omega) (by omega)
  have g3 : 2 < cif (rt_lv np S0 3 f) 3 (cif (rt_lv np S0 4 f) 4 (cif (rt_lv np S0 5 f) 5 6)) := cif_ge (by omega) (by omega)
  have g2 : 1 < cif (rt_lv np S0 2 f) 2 (cif (rt_lv np S0 3 f) 3 (cif (rt_lv np S0 4 f) 4 (cif (rt_lv np S0 5 f) 5 6))) := cif_ge (by omega) (by omega)
  have g1 : 0 < cif (rt_lv np S0 1 f) 1 (cif (rt_lv np S0 2 f) 2 (cif (rt_lv np S0 3 f) 3 (cif (rt_lv np S0 4 f) 4 (cif (rt_lv np S0 5 f) 5 6)))) := cif_ge (by omega) (by omega)
  have e : ∀ {p : Prop} {q : Prop}, (q → False) → (p ∨ q ↔ p) := fun h => ⟨fun r => r.resolve_right h, Or.inl⟩
  have e2 : ∀ {p : Prop} {q : Prop}, (p → q) → (p ∨ q ↔ q) := fun h => ⟨fun r => r.elim h id, Or.inr⟩
  unfold rt_lvl
  rcases (show k = 0 ∨ k = 1 ∨ k = 2 ∨ k = 3 ∨ k = 4 ∨ k = 5 by omega) with rfl | rfl | rfl | rfl | rfl | rfl
  · rw [cif_le (by simp), e (by omega)]
  · rw [cif_le (by simp), cif_le (by simp), e (q := _ ≤ 1) (by omega), e2 (m (by omega))]
  · rw [cif_le (by simp), cif_le (by simp), cif_le (by simp), e (q := _ ≤ 2) (by omega), e2 (q := rt_lv np S0 2 f) (m (by omega)), e2 (m (by omega))]
  · rw [cif_le (by simp), cif_le (by simp), cif_le (by simp), cif_le (by simp), e (q := _ ≤ 3) (by omega), e2 (q := rt_lv np S0 3 f) (m (by omega)), e2 (q := rt_lv np S0 3 f) (m (by omega)), e2 (m (by omega))]
  · rw [cif_le (by simp), cif_le (by simp), cif_le (by simp), cif_le (by simp), cif_le (by simp), e (q := _ ≤ 4) (by omega), e2 (q := rt_lv np S0 4 f) (m (by omega)), e2 (q := rt_lv np S0 4 f) (m (by omega)), e2 (q := rt_lv np S0 4 f) (m (by omega)), e2 (m (by omega))]
  · rw [cif_le (by simp), cif_le (by simp), cif_le (by simp), cif_le (by simp), cif_le (by simp), cif_le (by simp), e (q := 6 ≤ 5) (by omega), e2 (q := rt_lv np S0 5 f) (m (by omega)), e2 (q := rt_lv np S0 5 f) (m (by omega)), e2 (q := rt_lv np S0 5 f) (m (by omega)), e2 (q := rt_lv np S0 5 f) (m (by omega)), e2 (m (by omega))]
theorem al_lvl {D f : Nat} (hD : D ≤ 5) (h : al_ok np S0 S) (hq : ∀ k, k < D → S.2 k = []) : (S.1 f ≤ D ↔ rt_lvl np S0 f ≤ D) ∧ (S.1 f ≤ D → S.1 f = rt_lvl np S0 f) := by
  have e := al_exact hD h hq
  have key : ∀ k, k ≤ D → (rt_lvl np S0 f ≤ k ↔ S.1 f ≤ k) := fun k hk => (rt_lvl_le (by omega)).trans (e k hk f)
  refine ⟨(key D (Nat.le_refl _)).symm, fun hs => ?_⟩
  have h1 := (key _ hs).mpr (Nat.le_refl _)
  have h2 := (key _ (Nat.le_trans h1 hs)).mp (Nat.le_refl _)
  omega
theorem rt_lv_S0 {S1 : Nat → Prop} (h : ∀ g, S0 g → S1 g) : ∀ {k f : Nat}, rt_lv np S0 k f → rt_lv np S1 k f
  | 0, f, q => h f q
  | k + 1, f, q => by
    rcases q with q | ⟨ps, q1, q2⟩
    · exact Or.inl (rt_lv_S0 h q)
    · exact Or.inr ⟨ps, q1, fun p hp => rt_lv_S0 h (q2 p hp)⟩
/-- another fact is assumed -/
theorem ok_assume {f : Nat} (hf : isP np f) (h : al_ok np S0 S) : al_ok np (fun g => S0 g ∨ g = f) (al_offer S (some f) 0) := by
  obtain ⟨h1, h2, h3, h4⟩ := h
  have hle : ∀ g, (al_offer S (some f) 0).1 g ≤ S.1 g ∧ ((al_offer S (some f) 0).1 g ≠ S.1 g → g = f ∧ (al_offer S (some f) 0).1 g = 0 ∧ g ∈ (al_offer S (some f) 0).2 0) ∧ ((al_offer S (some f) 0).1 f = 0) := by
    intro g
    unfold al_offer
    dsimp only
    split
    · refine ⟨?_, ?_, if_pos rfl⟩
      · show (if g = f then 0 else S.1 g) ≤ S.1 g
        split <;> omega
      · show (if g = f then 0 else S.1 g) ≠ S.1 g → _
        intro q
        have e : g = f := Classical.byContradiction fun r => q (if_neg r)
        refine ⟨e, if_pos e, ?_⟩
        rw [if_pos (by omega)]
        show g ∈ (if 0 = 0 then S.2 0 ++ [f] else S.2 0)
        rw [if_pos rfl, e]
        exact List.mem_append_right _ (List.mem_singleton.mpr rfl)
    · exact ⟨Nat.le_refl _, fun q => absurd rfl q, by omega⟩
  have hq : ∀ k x, x ∈ S.2 k → x ∈ (al_offer S (some f) 0).2 k := by
    intro k x hx
    unfold al_offer
    dsimp only
    split
    · rw [if_pos (by omega)]
      show x ∈ (if k = 0 then S.2 0 ++ [f] else S.2 k)
      split
      · rename_i e
        subst e
        exact List.mem_append_left _ hx
      · exact hx
    · exact hx
  refine ⟨?_, ?_, ?_, ?_⟩
  · rintro g (q | rfl)
    · exact h1 g q
    · exact hf
  · intro g hg
    by_cases e : (al_offer S (some f) 0).1 g = S.1 g
    · rw [e] at hg ⊢
      exact rt_lv_S0 (fun _ q => Or.inl q) (h2 g hg)
    · obtain ⟨e1, e2, -⟩ := (hle g).2.1 e
      rw [e2]
      exact Or.inr e1
  · intro ps c M hi hM hp
    by_cases hch : ∃ p ∈ ps, (al_offer S (some f) 0).1 p ≠ S.1 p
    · obtain ⟨p, q1, q2⟩ := hch
      obtain ⟨-, e2, e3⟩ := (hle p).2.1 q2
      exact Or.inr ⟨p, q1, by rw [e2]; exact e3⟩
    · have heq : ∀ p ∈ ps, (al_offer S (some f) 0).1 p = S.1 p := fun p q => Classical.byContradiction fun r => hch ⟨p, q, r⟩
      rcases h3 ps c M hi hM (fun p q => by rw [← heq p q]; exact hp p q) with r | ⟨p, r1, r2⟩
      · exact Or.inl (Nat.le_trans (hle c).1 r)
      · exact Or.inr ⟨p, r1, by rw [heq p r1]; exact hq _ _ r2⟩
  · rintro g (q | rfl)
    · have := (hle g).1
      rw [h4 g q] at this
      exact Nat.le_zero.mp this
    · exact (hle g).2.2
theorem inst_ne {ps : List Nat} {c : Nat} (h : rt_inst np ps c) : ps ≠ [] := by
  obtain ⟨r, q, s, hr, -, hm, -⟩ := h
  intro e
  rw [e] at hm
  have t : rt_rules.all (fun q => !q.1.isEmpty) = true := by decide +kernel
  have := List.all_eq_true.mp t q (List.mem_of_getElem? hr)
  have e2 : q.1 = [] := by simpa using hm
  rw [e2] at this
  cases this
theorem ok_none : al_ok np (fun _ => False) al_none := by
  refine ⟨fun _ h => h.elim, fun f hf => absurd hf (show ¬ (6 : Nat) ≤ 5 by omega), fun ps c M hi hM hp => ?_, fun _ h => h.elim⟩
  obtain ⟨p, hp1⟩ := List.exists_mem_of_ne_nil _ (inst_ne hi)
  have : (6 : Nat) ≤ M := hp p hp1
  omega
end LV
