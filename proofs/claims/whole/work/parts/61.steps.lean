/-! grading step by step: turn, verdict, way, gap, counter -/
abbrev gr_T : Type := Nat × Nat × Nat × Nat × Int32
def gr0 : gr_T := (0, 0, 0, 0, -5)
def gup {α : Type} (f : Nat → α) (k : Nat) (v : α) : Nat → α := fun j => if j = k then v else f j
def gw (G : Nat → gr_T) (r : Nat) : Bool := (G r).1 == 0
def grd (nr : Nat) (os : Nat → List Nat) (G : Nat → gr_T) (r : Nat) : Bool := gw G r && (os r).all fun o => !(decide (o ≤ nr) && gw G o)
def gnx (nr : Nat) (os : Nat → List Nat) (G : Nat → gr_T) : Option Nat := (List.range' 1 nr).find? (grd nr os G)
def gstep (nr : Nat) (os : Nat → List Nat) (X : (Nat → gr_T) → Nat → Nat → gr_T) (G : Nat → gr_T) (t : Nat) : Nat → gr_T := match gnx nr os G with
  | none => G
  | some r => gup G r (X G t r)
def grs (nr : Nat) (os : Nat → List Nat) (X : (Nat → gr_T) → Nat → Nat → gr_T) : Nat → Nat → gr_T
  | 0 => fun _ => gr0
  | n + 1 => gstep nr os X (grs nr os X n) (n + 1)
theorem cp_upd {p p' : Nat → Bool} {r : Nat} (h1 : p r = true) (h2 : p' r = false) (h3 : ∀ x, x ≠ r → p' x = p x) : ∀ {l : List Nat}, l.Nodup → r ∈ l → l.countP p = l.countP p' + 1
  | [], _, h => by cases h
  | a :: l, hn, h => by
    obtain ⟨n1, n2⟩ := List.nodup_cons.mp hn
    by_cases q : a = r
    · subst q
      rw [List.countP_cons_of_pos h1, List.countP_cons_of_neg (by rw [h2]; decide)]
      congr 1
      exact List.countP_congr (fun x hx => by rw [h3 x (fun e => n1 (e ▸ hx))])
    · have hm : r ∈ l := (List.mem_cons.mp h).resolve_left (fun e => q e.symm)
      rw [List.countP_cons, List.countP_cons, cp_upd h1 h2 h3 n2 hm, h3 a q]
      omega
section GS
variable {nr : Nat} {os : Nat → List Nat} {X : (Nat → gr_T) → Nat → Nat → gr_T}
theorem gnx_some {G : Nat → gr_T} {r : Nat} (h : gnx nr os G = some r) : 1 ≤ r ∧ r ≤ nr ∧ grd nr os G r = true ∧ (G r).1 = 0 ∧ ∀ q, 1 ≤ q → q < r → grd nr os G q = false := by
  unfold gnx at h
  have h1 := List.mem_of_find?_eq_some h
  have h2 := List.find?_some h
  rw [List.mem_range'_1] at h1
  have h3 := h2
  unfold grd gw at h3
  rw [Bool.and_eq_true, beq_iff_eq] at h3
  refine ⟨by omega, by omega, h2, h3.1, fun q q1 q2 => ?_⟩
  obtain ⟨_, as, bs, e, hn⟩ := List.find?_eq_some_iff_append.mp h
  have hq : q ∈ List.range' 1 nr := List.mem_range'_1.mpr (by omega)
  have hl : as ++ r :: bs = List.range' 1 nr := e.symm
  have hs := List.pairwise_lt_range' (s := 1) (n := nr) (step := 1)
  rw [← hl] at hs hq
  rcases List.mem_append.mp hq with m | m
  · have := hn q m
    simpa using this
  · exfalso
    rcases List.mem_cons.mp m with m | m
    · omega
    · have := (List.pairwise_cons.mp (List.pairwise_append.mp hs).2.1).1 q m
      omega
theorem gnx_none {G : Nat → gr_T} (h : gnx nr os G = none) : ∀ q, 1 ≤ q → q ≤ nr → grd nr os G q = false := by
  intro q q1 q2
  have := List.find?_eq_none.mp h q (List.mem_range'_1.mpr (by omega))
  simpa using this
theorem gnx_is {G : Nat → gr_T} {r : Nat} (h1 : 1 ≤ r) (h2 : r ≤ nr) (h3 : grd nr os G r = true) (h4 : ∀ q, 1 ≤ q → q < r → grd nr os G q = false) : gnx nr os G = some r := by
  cases e : gnx nr os G with
  | none =>
    rw [gnx_none e r h1 h2] at h3
    cases h3
  | some s =>
    obtain ⟨s1, s2, s3, _, s5⟩ := gnx_some e
    rcases Nat.lt_trichotomy r s with q | q | q
    · rw [s5 r h1 q] at h3; cases h3
    · rw [q]
    · rw [h4 s s1 q] at s3; cases s3
theorem gnx_no {G : Nat → gr_T} (h : ∀ q, 1 ≤ q → q ≤ nr → grd nr os G q = false) : gnx nr os G = none := by
  cases e : gnx nr os G with
  | none => rfl
  | some s =>
    obtain ⟨s1, s2, s3, _, _⟩ := gnx_some e
    rw [h s s1 s2] at s3
    cases s3
theorem grs_S (n : Nat) : grs nr os X (n + 1) = gstep nr os X (grs nr os X n) (n + 1) := rfl
theorem grs_some {n r : Nat} (h : gnx nr os (grs nr os X n) = some r) : grs nr os X (n + 1) = gup (grs nr os X n) r (X (grs nr os X n) (n + 1) r) := by
  rw [grs_S]
  unfold gstep
  rw [h]
theorem grs_none {n : Nat} (h : gnx nr os (grs nr os X n) = none) : grs nr os X (n + 1) = grs nr os X n := by
  rw [grs_S]
  unfold gstep
  rw [h]
theorem grs_stay {n : Nat} (h : gnx nr os (grs nr os X n) = none) : ∀ (m : Nat), grs nr os X (n + m) = grs nr os X n
  | 0 => rfl
  | m + 1 => by
    have e := grs_stay h m
    rw [show n + (m + 1) = n + m + 1 by omega, grs_none (by rw [e]; exact h), e]
theorem gup_at {α : Type} {f : Nat → α} {k : Nat} {v : α} {j : Nat} : gup f k v j = if j = k then v else f j := rfl
theorem grs_cnt (hX : ∀ G t r, (X G t r).1 = t) : ∀ (n : Nat), gnx nr os (grs nr os X n) = none ∨ (List.range' 1 nr).countP (gw (grs nr os X n)) + n = nr
  | 0 => by
    right
    have : List.countP (gw (grs nr os X 0)) (List.range' 1 nr) = (List.range' 1 nr).length := List.countP_eq_length.mpr (fun _ _ => rfl)
    rw [this, List.length_range']
    rfl
  | n + 1 => by
    cases e : gnx nr os (grs nr os X n) with
    | none => left; rw [grs_none e]; exact e
    | some r =>
      rcases grs_cnt hX n with q | q
      · rw [e] at q; cases q
      right
      obtain ⟨r1, r2, _, r4, _⟩ := gnx_some e
      rw [grs_some e]
      have := cp_upd (p := gw (grs nr os X n)) (p' := gw (gup (grs nr os X n) r (X (grs nr os X n) (n + 1) r))) (r := r) (by unfold gw; rw [r4]; rfl) (by unfold gw; rw [gup_at, if_pos rfl, hX]; rfl) (fun x hx => by unfold gw; rw [gup_at, if_neg hx]) (List.nodup_range' (s := 1) (n := nr) (step := 1)) (List.mem_range'_1.mpr (by omega))
      omega
/-- at the end none is ready -/
theorem grs_end (hX : ∀ G t r, (X G t r).1 = t) : gnx nr os (grs nr os X nr) = none := by
  rcases grs_cnt (os := os) hX nr with q | q
  · exact q
  · refine gnx_no (fun r r1 r2 => ?_)
    have h0 : List.countP (gw (grs nr os X nr)) (List.range' 1 nr) = 0 := by omega
    have := List.countP_eq_zero.mp h0 r (List.mem_range'_1.mpr (by omega))
    unfold grd
    rw [Bool.eq_false_iff.mpr this, Bool.false_and]
theorem grs_inv (hX : ∀ G t r, (X G t r).1 = t) : ∀ (n r : Nat), (grs nr os X n r).1 ≤ n ∧ ((grs nr os X n r).1 = 0 → grs nr os X n r = gr0) ∧ (r = 0 ∨ nr < r → grs nr os X n r = gr0)
  | 0, r => ⟨Nat.le_refl _, fun _ => rfl, fun _ => rfl⟩
  | n + 1, r => by
    obtain ⟨h1, h2, h3⟩ := grs_inv hX n r
    cases e : gnx nr os (grs nr os X n) with
    | none => rw [grs_none e]; exact ⟨by omega, h2, h3⟩
    | some s =>
      obtain ⟨r1, r2, _, r4, _⟩ := gnx_some e
      rw [grs_some e, gup_at]
      by_cases q : r = s
      · rw [if_pos q, hX]
        exact ⟨Nat.le_refl _, fun q => by omega, fun q => by omega⟩
      · rw [if_neg q]
        exact ⟨by omega, h2, h3⟩
/-- as long as some is ready, one more has its turn -/
theorem grs_turn (hX : ∀ G t r, (X G t r).1 = t) {n : Nat} (h : ∀ m, m < n → gnx nr os (grs nr os X m) ≠ none) : (List.range' 1 nr).countP (gw (grs nr os X n)) + n = nr ∨ n = 0 ∧ gnx nr os (grs nr os X n) = none := by
  induction n with
  | zero =>
    left
    have : List.countP (gw (grs nr os X 0)) (List.range' 1 nr) = (List.range' 1 nr).length := List.countP_eq_length.mpr (fun _ _ => rfl)
    rw [this, List.length_range']
    rfl
  | succ n ih =>
    left
    cases e : gnx nr os (grs nr os X n) with
    | none => exact absurd e (h n (by omega))
    | some r =>
      obtain ⟨r1, r2, _, r4, _⟩ := gnx_some e
      rcases ih (fun m hm => h m (by omega)) with q | q
      · rw [grs_some e]
        have := cp_upd (p := gw (grs nr os X n)) (p' := gw (gup (grs nr os X n) r (X (grs nr os X n) (n + 1) r))) (r := r) (by unfold gw; rw [r4]; rfl) (by unfold gw; rw [gup_at, if_pos rfl, hX]; rfl) (fun x hx => by unfold gw; rw [gup_at, if_neg hx]) (List.nodup_range' (s := 1) (n := nr) (step := 1)) (List.mem_range'_1.mpr (by omega))
        omega
      · rw [q.2] at e; cases e
end GS
