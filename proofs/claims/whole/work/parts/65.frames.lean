/-! what keeps the state -/
section FR
variable {I I' : mm_I} {J J' : mm_J} {s : st_T}
theorem figs_c {F : Nat → fg_T} (f : ∀ k, 86 ≤ k → k ≤ 103 → I' k = I k) (h : ∀ i, i < 6 → rg_fig I i (F i)) : ∀ i, i < 6 → rg_fig I' i (F i) := by
  intro i hi
  obtain ⟨a, b, c, e⟩ := h i hi
  refine ⟨fun p hp => ?_, fun p hp => ?_, ?_, e⟩
  · rw [f _ (by omega) (by omega)]; exact a p hp
  · rw [f _ (by omega) (by omega)]; exact b p hp
  · rw [f _ (by omega) (by omega)]; exact c
theorem rows_c {R : Nat → rw_T} {nr : Nat} (hn : nr ≤ 40) (f : ∀ k, 6 ≤ k → k ≤ 85 → I' k = I k) (h : ∀ r, 1 ≤ r → r ≤ nr → rC_row I (4 + 2 * r) (R r)) : ∀ r, 1 ≤ r → r ≤ nr → rC_row I' (4 + 2 * r) (R r) := fun r h1 h2 => rC_fr (h r h1 h2) (f _ (by omega) (by omega)) (f _ (by omega) (by omega))
theorem rl_c {np : Nat} {S : al_S} (f : ∀ k, 113 ≤ k → k ≤ 121 → I' k = I k) (h : rl_rep I np S) : rl_rep I' np S := by
  obtain ⟨h1, h2, h3, h4, h5⟩ := h
  refine ⟨?_, ?_, h3, fun g hg => ?_, fun l hl => ?_⟩
  · rw [f _ (by decide) (by decide)]; exact h1
  · rw [f _ (by decide) (by decide)]; exact h2
  · rw [f _ (by decide) (by decide)]; exact h4 g hg
  · obtain ⟨a, b, c, e⟩ := h5 l hl
    refine ⟨?_, b, c, fun i g hg => ?_⟩
    · rw [f _ (by decide) (by decide)]; exact a
    · rw [f _ (by omega) (by omega)]; exact e i g hg
theorem rcG_c (hn : sNr s ≤ 40) (f : ∀ k, 6 ≤ k → k ≤ 85 → I' k = I k) (g : ∀ k, 113 ≤ k → k ≤ 121 → I' k = I k) (g2 : I' 126 = I 126) (g3 : ∀ j, j ≠ 3 → I' 112 j = I 112 j) (h : rcG I s) : rcG I' s := by
  obtain ⟨h1, ⟨h2, h3, h4⟩, ⟨h5, h6⟩, ⟨S, h7, h8⟩, h9⟩ := h
  refine ⟨fun r r1 r2 => ?_, ⟨?_, ?_, ?_⟩, ⟨?_, fun i hi => ?_⟩, ⟨S, rl_c g h7, h8⟩, ?_⟩
  · unfold gC
    rw [f _ (by omega) (by omega)]
    exact h1 r r1 r2
  · rw [g3 _ (by decide)]; exact h2
  · rw [g3 _ (by decide)]; exact h3
  · rw [g3 _ (by decide)]; exact h4
  · rw [g3 _ (by decide)]; exact h5
  · rw [g2]; exact h6 i hi
  · rw [g3 _ (by decide), g3 _ (by decide)]; exact h9
theorem mfigs_c {F : Nat → fg_T} (f1 : I' 128 = I 128) (f2 : I' 129 = I 129) (f3 : I' 130 = I 130) (h : ∀ i, i < 6 → rm_fig I i (F i)) : ∀ i, i < 6 → rm_fig I' i (F i) := by
  intro i hi p hp
  rw [f1, f2, f3]
  exact h i hi p hp
theorem mrow_c {r : Nat} {x : rw_T} (f : ∀ k, 142 ≤ k → k ≤ 148 → I' k = I k) (h : rM_row I r x) : rM_row I' r x := by
  unfold rM_row
  rw [f _ (by decide) (by decide), f _ (by decide) (by decide), f _ (by decide) (by decide), f _ (by decide) (by decide), f _ (by decide) (by decide), f _ (by decide) (by decide), f _ (by decide) (by decide)]
  exact h
theorem rmG_c (f : ∀ k, 150 ≤ k → k ≤ 155 → I' k = I k) (f2 : I' 137 = I 137) (f3 : I' 127 44 = I 127 44) (f4 : I' 127 47 = I 127 47) (h : rmG I s) : rmG I' s := by
  obtain ⟨h1, ⟨h2, h3⟩, h4⟩ := h
  refine ⟨fun r r1 r2 => ?_, ⟨?_, fun i hi => ?_⟩, fun q => ?_⟩
  · unfold gM
    rw [f _ (by decide) (by decide), f _ (by decide) (by decide), f _ (by decide) (by decide), f _ (by decide) (by decide), f _ (by decide) (by decide)]
    exact h1 r r1 r2
  · rw [f3]; exact h2
  · rw [f _ (by decide) (by decide)]; exact h3 i hi
  · unfold rm_lv
    rw [f2]
    exact h4 (by rw [← f4]; exact q)
theorem mtab_c (f : ∀ k, 131 ≤ k → k ≤ 135 → I' k = I k) (f2 : ∀ k, 142 ≤ k → k ≤ 148 → I' k 0 = I k 0) (h : mtab I) : mtab I' := by
  obtain ⟨h1, h2, h3⟩ := h
  refine ⟨fun m hm => ?_, ?_, ?_⟩
  · unfold mtb
    rw [f _ (by decide) (by decide), f _ (by decide) (by decide), f _ (by decide) (by decide), f _ (by decide) (by decide), f _ (by decide) (by decide)]
    exact h1 m hm
  · rw [f2 _ (by decide) (by decide)]; exact h2
  · rw [f2 _ (by decide) (by decide)]; exact h3
/-- the other's cells -/
theorem repC_fr (hv : va s) (h : repC I J s) (f : frM I J I' J') : repC I' J' s := by
  have f1 : ∀ k, k < 127 → I' k = I k := fun k hk => (f k hk).1
  obtain ⟨⟨a1, a2, a3, a4⟩, b, c, e, g, i, j, l⟩ := h
  refine ⟨⟨?_, ?_, ?_, ?_⟩, figs_c (fun k _ _ => f1 k (by omega)) b, ⟨?_, c.2.1, fun i hi => ?_⟩, ⟨?_, fun l k hl hk => ?_⟩, rows_c hv.1.2.2.1 (fun k _ _ => f1 k (by omega)) g, fun q => rC_fr (i q) (f1 _ (by decide)) (f1 _ (by decide)), ?_, fun q => rcG_c hv.1.2.2.1 (fun k _ _ => f1 k (by omega)) (fun k _ _ => f1 k (by omega)) (f1 _ (by decide)) (fun j _ => by rw [f1 _ (by decide)]) (l q)⟩
  · rw [f1 _ (by decide)]; exact a1
  · rw [f1 _ (by decide)]; exact a2
  · rw [f1 _ (by decide)]; exact a3
  · rw [f1 _ (by decide)]; exact a4
  · rw [f1 _ (by decide)]; exact c.1
  · rw [f1 _ (by decide)]; exact c.2.2 i hi
  · rw [f1 _ (by decide)]; exact e.1
  · rw [(f _ (by decide)).2]; exact e.2 l k hl hk
  · rw [f1 _ (by decide)]; exact j
theorem repM_fr (h : repM I J s) (f : frC I J I' J') : repM I' J' s := by
  have f1 : ∀ k, 127 ≤ k → I' k = I k := fun k hk => (f k hk).1
  obtain ⟨⟨a1, a2, a3, a4⟩, b, c, e, g, i, j, l, m⟩ := h
  refine ⟨⟨?_, ?_, ?_, ?_⟩, mfigs_c (f1 _ (by decide)) (f1 _ (by decide)) (f1 _ (by decide)) b, ⟨?_, c.2.1, fun i hi => ?_⟩, ⟨?_, fun l k hl hk => ?_⟩, fun r r1 r2 => mrow_c (fun k _ _ => f1 k (by omega)) (g r r1 r2), fun q => mrow_c (fun k _ _ => f1 k (by omega)) (i q), ?_, fun q => rmG_c (fun k _ _ => f1 k (by omega)) (f1 _ (by decide)) (by rw [f1 _ (by decide)]) (by rw [f1 _ (by decide)]) (l q), mtab_c (fun k _ _ => f1 k (by omega)) (fun k _ _ => by rw [f1 k (by omega)]) m⟩
  · rw [f1 _ (by decide)]; exact a1
  · rw [f1 _ (by decide)]; exact a2
  · rw [f1 _ (by decide)]; exact a3
  · rw [f1 _ (by decide)]; exact a4
  · rw [f1 _ (by decide)]; exact c.1
  · rw [f1 _ (by decide)]; exact c.2.2 i hi
  · rw [f1 _ (by decide)]; exact e.1
  · rw [(f _ (by decide)).2]; exact e.2 l k hl hk
  · rw [f1 _ (by decide)]; exact j
end FR
