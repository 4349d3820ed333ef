/-! a path through finitely many rows comes back -/
def cy (x : Nat → Nat) (M e : Nat) : Prop := e < M ∧ x e = x M ∧ ∀ i j, i < j → j < M → x i ≠ x j
theorem cy_un {x : Nat → Nat} {M e M' e' : Nat} (h : cy x M e) (h' : cy x M' e') : M = M' ∧ e = e' := by
  have hM : M = M' := by
    rcases Nat.lt_trichotomy M M' with q | q | q
    · exact absurd h.2.1 (h'.2.2 e M h.1 q)
    · exact q
    · exact absurd h'.2.1 (h.2.2 e' M' h'.1 q)
  subst hM
  refine ⟨rfl, ?_⟩
  have hx : x e = x e' := h.2.1.trans h'.2.1.symm
  rcases Nat.lt_trichotomy e e' with q | q | q
  · exact absurd hx (h.2.2 e e' q h'.1)
  · exact q
  · exact absurd hx.symm (h.2.2 e' e q h.1)
theorem cy_min {x : Nat → Nat} : ∀ (j : Nat), (∃ i, i < j ∧ x i = x j) → ∃ M e, M ≤ j ∧ cy x M e := by
  intro j
  induction j using Nat.strongRecOn with
  | ind j ih =>
    rintro ⟨i, hi, he⟩
    by_cases q : ∃ a b, a < b ∧ b < j ∧ x a = x b
    · obtain ⟨a, b, h1, h2, h3⟩ := q
      obtain ⟨M, e, h4, h5⟩ := ih b h2 ⟨a, h1, h3⟩
      exact ⟨M, e, by omega, h5⟩
    · exact ⟨j, i, Nat.le_refl _, hi, he, fun a b h1 h2 h3 => q ⟨a, b, h1, h2, h3⟩⟩
theorem cy_ex {x : Nat → Nat} {nr : Nat} (h : ∀ i, 1 ≤ x i ∧ x i ≤ nr) : ∃ M e, M ≤ nr ∧ cy x M e := by
  by_cases q : ∃ a b, a < b ∧ b ≤ nr ∧ x a = x b
  · obtain ⟨a, b, h1, h2, h3⟩ := q
    obtain ⟨M, e, h4, h5⟩ := cy_min b ⟨a, h1, h3⟩
    exact ⟨M, e, by omega, h5⟩
  · exfalso
    have hn : ((List.range (nr + 1)).map x).Nodup := by
      rw [List.Nodup, List.pairwise_map]
      refine List.Pairwise.imp_of_mem ?_ List.pairwise_lt_range
      intro a b ha hb hab e
      have := List.mem_range.mp hb
      exact q ⟨a, b, hab, by omega, e⟩
    have := nd_le (m := List.range' 1 nr) hn (fun y hy => by
      obtain ⟨a, _, rfl⟩ := List.mem_map.mp hy
      have := h a
      exact List.mem_range'_1.mpr (by omega))
    rw [List.length_map, List.length_range, List.length_range'] at this
    omega
/-- the path -/
def ph (f : Nat → Nat) (r : Nat) : Nat → Nat
  | 0 => r
  | i + 1 => f (ph f r i)
