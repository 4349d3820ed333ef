/-! RowGrader.Levels -/
/-- a state of the levels: a level for each fact, and who waits at a level -/
abbrev al_S : Type := (Nat → Nat) × (Nat → List Nat)
def al_up {α : Type} (f : Nat → α) (k : Nat) (v : α) : Nat → α := fun j => if j = k then v else f j
def al_at (S : al_S) (f : Option Nat) : Nat := match f with
  | none => 6
  | some f => S.1 f
def al_offer (S : al_S) (f : Option Nat) (l : Nat) : al_S := match f with
  | none => S
  | some f => if l < S.1 f then (al_up S.1 f l, if l < 5 then al_up S.2 l (S.2 l ++ [f]) else S.2) else S
/-- the points of a pair -/
def pr_lo (p : Nat) : Nat := [0, 0, 1, 0, 1, 2, 0, 1, 2, 3, 0, 1, 2, 3, 4, 0, 1, 2, 3, 4, 5].getD p 0
def pr_hi (p : Nat) : Nat := [1, 2, 2, 3, 3, 3, 4, 4, 4, 4, 5, 5, 5, 5, 5, 6, 6, 6, 6, 6, 6].getD p 0
def bitsN : Nat → Nat → Nat
  | 0, _ => 0
  | k + 1, m => m % 2 + bitsN k (m / 2)
/-- the numbers that are facts of seven points -/
def isF (f : Nat) : Bool := if f < 128 then bitsN 7 f == 3 else if f < 758 then true else if f < 905 then (f - 758) / 21 != pr_lo ((f - 758) % 21) && (f - 758) / 21 != pr_hi ((f - 758) % 21) else if f < 1033 then bitsN 7 (f - 905) == 4 else if f < 1180 then (f - 1033) / 21 != pr_lo ((f - 1033) % 21) && (f - 1033) / 21 != pr_hi ((f - 1033) % 21) else false
def al_facts : List Nat := (List.range 1180).filter isF
set_option maxRecDepth 100000 in
theorem al_facts_len : al_facts.length = 910 := by decide +kernel
theorem isF_lt {f : Nat} (h : isF f = true) : f < 1180 := by
  unfold isF at h
  by_cases h1 : f < 1180
  · exact h1
  · rw [if_neg (by omega), if_neg (by omega), if_neg (by omega), if_neg (by omega), if_neg h1] at h
    cases h
theorem isF_line {a b c f : Nat} (ha : a < 7) (hb : b < 7) (hc : c < 7) (h : n_ofLine a b c = some f) : isF f = true := by
  have key : ∀ a, a < 7 → ∀ b, b < 7 → ∀ c, c < 7 → ((n_ofLine a b c).all isF) = true := by decide +kernel
  have := key a ha b hb c hc
  rw [h] at this
  exact this
theorem isF_circle {a b c d f : Nat} (ha : a < 7) (hb : b < 7) (hc : c < 7) (hd : d < 7) (h : n_ofCircle a b c d = some f) : isF f = true := by
  have key : ∀ a, a < 7 → ∀ b, b < 7 → ∀ c, c < 7 → ∀ d, d < 7 → ((n_ofCircle a b c d).all isF) = true := by decide +kernel
  have := key a ha b hb c hc d hd
  rw [h] at this
  exact this
theorem isF_middle {base m a b f : Nat} (hbase : base = 758 ∨ base = 1033) (hm : m < 7) (ha : a < 7) (hb : b < 7) (h : n_ofMiddle base m a b = some f) : isF f = true := by
  have key : ∀ e ∈ [758, 1033], ∀ m, m < 7 → ∀ a, a < 7 → ∀ b, b < 7 → ((n_ofMiddle e m a b).all isF) = true := by decide +kernel
  have := key base (by rcases hbase with rfl | rfl <;> simp) m hm a ha b hb
  rw [h] at this
  exact this
theorem isF_pairs {base f : Nat} (hbase : base = 128 ∨ base = 338 ∨ base = 548) {p q : Option Nat} (hp : ∀ x, p = some x → x < 21) (hq : ∀ x, q = some x → x < 21) (h : n_ofPairs base p q = some f) : isF f = true := by
  have key : ∀ e ∈ [128, 338, 548], ∀ p, p < 21 → ∀ q, q < 21 → ((n_ofPairs e (some p) (some q)).all isF) = true := by decide +kernel
  cases p with
  | none => cases h
  | some p =>
    cases q with
    | none => cases h
    | some q =>
      have := key base (by rcases hbase with rfl | rfl | rfl <;> simp) p (hp p rfl) q (hq q rfl)
      rw [h] at this
      exact this
/-- a row without doubles is no longer than one that has all its members -/
theorem nd_le {l m : List Nat} (hn : l.Nodup) (hs : ∀ x ∈ l, x ∈ m) : l.length ≤ m.length := by
  induction l generalizing m with
  | nil => exact Nat.zero_le _
  | cons a t ih =>
    have ha : a ∈ m := hs a List.mem_cons_self
    have hn2 := List.nodup_cons.mp hn
    have h1 := ih (m := m.erase a) hn2.2 (fun x hx => (List.mem_erase_of_ne (fun e => hn2.1 (by rw [← e]; exact hx))).mpr (hs x (List.mem_cons_of_mem _ hx)))
    have h2 := List.length_erase_of_mem ha
    have h3 : 0 < m.length := List.length_pos_of_mem ha
    simp only [List.length_cons]
    omega
def rl_rep (I : mm_I) (np : Nat) (S : al_S) : Prop := I 113 3 = nI np ∧ I 113 4 = nI (np * (np - 1) / 2) ∧ np ≤ 7 ∧ (∀ f, f < 1180 → I 114 f = nI (S.1 f) ∧ S.1 f ≤ 6) ∧
  (∀ l, l < 5 → I 121 l = nI (S.2 l).length ∧ (S.2 l).Nodup ∧ (∀ f ∈ S.2 l, isF f = true ∧ S.1 f ≤ l) ∧ ∀ i f, (S.2 l)[i]? = some f → I (116 + l) i = nI f)
/-- what the levels' methods may change -/
def rl_fr (I I' : mm_I) : Prop := I' 113 = I 113 ∧ ∀ k, k < 114 ∨ 121 < k → I' k = I k
theorem rl_fr_rf {I : mm_I} : rl_fr I I := ⟨rfl, fun _ _ => rfl⟩
theorem rl_fr_tr {I I' I'' : mm_I} (h : rl_fr I I') (h' : rl_fr I' I'') : rl_fr I I'' := ⟨h'.1.trans h.1, fun k hk => (h'.2 k hk).trans (h.2 k hk)⟩
theorem rl_cap {I : mm_I} {np : Nat} {S : al_S} (h : rl_rep I np S) {l f : Nat} (hl : l < 5) (hf : isF f = true) (hlt : l < S.1 f) : (S.2 l).length < 910 := by
  obtain ⟨-, hn, hm, -⟩ := h.2.2.2.2 l hl
  have h1 : ¬ f ∈ S.2 l := fun q => by have := (hm f q).2; omega
  have h2 : (f :: S.2 l).Nodup := List.nodup_cons.mpr ⟨h1, hn⟩
  have h3 := nd_le (m := al_facts) h2 (fun x hx => by
    have hx2 : isF x = true := by
      rcases List.mem_cons.mp hx with rfl | q
      · exact hf
      · exact (hm x q).1
    exact List.mem_filter.mpr ⟨List.mem_range.mpr (isF_lt hx2), hx2⟩)
  rw [al_facts_len] at h3
  simp only [List.length_cons] at h3
  omega
theorem rl_off {I : mm_I} {np : Nat} {S : al_S} (h : rl_rep I np S) {l f : Nat} (hf : isF f = true) (hlt : l < S.1 f) (I' : mm_I) (hc : I' 113 = I 113) (hlv : ∀ j, I' 114 j = if j = f then nI l else I 114 j) (hw : ∀ k, k < 5 → I' 121 k = if l < 5 ∧ k = l then nI ((S.2 l).length + 1) else I 121 k) (hq : ∀ k j, k < 5 → I' (116 + k) j = if l < 5 ∧ k = l ∧ j = (S.2 l).length then nI f else I (116 + k) j) : rl_rep I' np (al_offer S (some f) l) := by
  obtain ⟨h1, h2, h3, h4, h5⟩ := h
  have e : al_offer S (some f) l = (al_up S.1 f l, if l < 5 then al_up S.2 l (S.2 l ++ [f]) else S.2) := by
    show (if l < S.1 f then _ else _) = _
    rw [if_pos hlt]
  rw [e]
  refine ⟨by rw [hc]; exact h1, by rw [hc]; exact h2, h3, fun j hj => ?_, fun k hk => ?_⟩
  · rw [hlv j]
    show (if j = f then nI l else _) = nI (if j = f then l else S.1 j) ∧ (if j = f then l else S.1 j) ≤ 6
    have h6 := h4 j hj
    split
    · have := (h4 f (isF_lt hf)).2
      exact ⟨rfl, by omega⟩
    · exact h6
  · obtain ⟨g1, g2, g3, g4⟩ := h5 k hk
    dsimp only
    have hold : ∀ x ∈ S.2 k, isF x = true ∧ al_up S.1 f l x ≤ k := by
      intro x hx
      refine ⟨(g3 x hx).1, ?_⟩
      show (if x = f then l else S.1 x) ≤ k
      have := (g3 x hx).2
      split
      · rename_i q
        subst q
        omega
      · exact this
    by_cases hc5 : l < 5 ∧ k = l
    · obtain ⟨hl5, rfl⟩ := hc5
      rw [if_pos hl5]
      have e2 : al_up S.2 k (S.2 k ++ [f]) k = S.2 k ++ [f] := if_pos rfl
      rw [e2]
      have hnf : ¬ f ∈ S.2 k := fun q => by have := (g3 f q).2; omega
      refine ⟨?_, ?_, fun x hx => ?_, fun i x hx => ?_⟩
      · rw [hw k hk, if_pos ⟨hl5, rfl⟩, List.length_append]
        rfl
      · refine List.nodup_append.mpr ⟨g2, by simp, fun a ha b hb => ?_⟩
        rw [List.mem_singleton.mp hb]
        exact fun q => hnf (by rw [← q]; exact ha)
      · rcases List.mem_append.mp hx with q | q
        · exact hold x q
        · rw [List.mem_singleton.mp q]
          refine ⟨hf, ?_⟩
          show (if f = f then k else S.1 f) ≤ k
          rw [if_pos rfl]
          exact Nat.le_refl _
      · rw [hq k i hk]
        by_cases hi : i < (S.2 k).length
        · rw [if_neg (by omega)]
          rw [List.getElem?_append_left hi] at hx
          exact g4 i x hx
        · rw [List.getElem?_append_right (by omega)] at hx
          have : i - (S.2 k).length < 1 := (List.getElem?_eq_some_iff.mp hx).1
          rw [show i - (S.2 k).length = 0 by omega] at hx
          have hx2 := Option.some.inj hx
          rw [if_pos ⟨hl5, rfl, by omega⟩]
          exact congrArg nI hx2
    · have e2 : (if l < 5 then al_up S.2 l (S.2 l ++ [f]) else S.2) k = S.2 k := by
        split
        · rename_i q
          exact if_neg (fun r => hc5 ⟨q, r⟩)
        · rfl
      rw [e2, hw k hk, if_neg hc5]
      refine ⟨g1, g2, hold, fun i x hx => ?_⟩
      rw [hq k i hk, if_neg (fun q => hc5 ⟨q.1, q.2.1⟩)]
      exact g4 i x hx
