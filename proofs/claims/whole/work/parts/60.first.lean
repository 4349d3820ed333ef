/-! the first letters in their order -/
def fg2 {β : Type} (np : Nat) (H : List Nat → Option β) : Nat → List Nat → Option β
  | 0, s => H s
  | w + 1, s => (List.range np).findSome? fun v => fg2 np H w (s ++ [v])
def dg (np : Nat) : Nat → Nat → List Nat
  | 0, _ => []
  | w + 1, n => dg np w (n / np) ++ [n % np]
theorem dg_len {np : Nat} : ∀ (w n : Nat), (dg np w n).length = w
  | 0, _ => rfl
  | w + 1, n => by
    show (dg np w (n / np) ++ [n % np]).length = w + 1
    rw [List.length_append, dg_len w]
    rfl
theorem dg_lt {np : Nat} (h : 0 < np) : ∀ (w n : Nat), ∀ x ∈ dg np w n, x < np
  | 0, _, x, hx => by cases hx
  | w + 1, n, x, hx => by
    rcases List.mem_append.mp hx with q | q
    · exact dg_lt h w _ x q
    · rw [List.mem_singleton.mp q]
      exact Nat.mod_lt _ h
/-- all letters are met -/
theorem dg_all {np : Nat} (h : 0 < np) : ∀ (t : List Nat), (∀ x ∈ t, x < np) → ∃ n, n < np ^ t.length ∧ dg np t.length n = t := by
  intro t
  generalize hl : t.length = w
  intro ht
  induction w generalizing t with
  | zero =>
    refine ⟨0, by rw [Nat.pow_zero]; omega, ?_⟩
    rw [List.length_eq_zero_iff.mp hl]
    rfl
  | succ w ih =>
    have hne : t ≠ [] := by
      rintro rfl
      cases hl
    have hd := List.dropLast_concat_getLast hne
    obtain ⟨n, hn, he⟩ := ih t.dropLast (by rw [List.length_dropLast, hl]; rfl) (fun x hx => ht x ((List.dropLast_sublist t).subset hx))
    have hv := ht _ (List.getLast_mem hne)
    refine ⟨n * np + t.getLast hne, ?_, ?_⟩
    · rw [Nat.pow_succ]
      have := Nat.mul_le_mul_right np (show n + 1 ≤ np ^ w from hn)
      rw [Nat.add_mul, Nat.one_mul] at this
      omega
    · show dg np w ((n * np + t.getLast hne) / np) ++ [(n * np + t.getLast hne) % np] = t
      rw [Nat.add_comm, Nat.add_mul_div_right _ _ h, Nat.div_eq_of_lt hv, Nat.zero_add, he, Nat.add_mul_mod_self_right, Nat.mod_eq_of_lt hv]
      exact hd
theorem fs_congr {α β : Type} {f g : α → Option β} : ∀ {l : List α}, (∀ x ∈ l, f x = g x) → l.findSome? f = l.findSome? g
  | [], _ => rfl
  | a :: l, h => by
    rw [List.findSome?_cons, List.findSome?_cons, h a List.mem_cons_self, fs_congr (l := l) (fun x q => h x (List.mem_cons_of_mem _ q))]
theorem fs_mul {β : Type} {k : Nat} (f : Nat → Option β) : ∀ (m : Nat), (List.range (m * k)).findSome? f = (List.range m).findSome? fun i => (List.range k).findSome? fun v => f (i * k + v)
  | 0 => by rw [Nat.zero_mul]; rfl
  | m + 1 => by
    rw [Nat.add_mul, Nat.one_mul, List.range_add, List.findSome?_append, fs_mul f m, List.range_succ, List.findSome?_append, List.findSome?_map]
    congr 1
    show _ = (List.findSome? _ [m])
    rw [List.findSome?_cons, List.findSome?_nil]
    generalize hq : List.findSome? (fun v => f (m * k + v)) (List.range k) = q
    rw [show List.findSome? (f ∘ fun x => m * k + x) (List.range k) = q from hq]
    cases q <;> rfl
theorem fg2_add {β : Type} {np : Nat} (H : List Nat → Option β) (b : Nat) : ∀ (a : Nat) (s : List Nat), fg2 np H (a + b) s = fg2 np (fg2 np H b) a s
  | 0, s => by rw [Nat.zero_add]; rfl
  | a + 1, s => by
    rw [show a + 1 + b = (a + b) + 1 by omega]
    show (List.range np).findSome? _ = (List.range np).findSome? _
    congr 1
    funext v
    exact fg2_add H b a _
theorem fg2_dg {β : Type} {np : Nat} (h : 0 < np) (s : List Nat) : ∀ (a : Nat) (H : List Nat → Option β), fg2 np H a s = (List.range (np ^ a)).findSome? fun i => H (s ++ dg np a i)
  | 0, H => by
    rw [Nat.pow_zero]
    show H s = List.findSome? _ [0]
    rw [List.findSome?_cons, List.findSome?_nil]
    show H s = match H (s ++ []) with | some b => some b | none => none
    rw [List.append_nil]
    cases H s <;> rfl
  | a + 1, H => by
    rw [fg2_add H 1 a s, fg2_dg h s a, Nat.pow_succ, fs_mul]
    congr 1
    funext i
    show (List.range np).findSome? (fun v => H (s ++ dg np a i ++ [v])) = _
    apply fs_congr
    intro v hv
    have hv := List.mem_range.mp hv
    show _ = H (s ++ (dg np a ((i * np + v) / np) ++ [(i * np + v) % np]))
    rw [Nat.add_comm (i * np) v, Nat.add_mul_div_right _ _ h, Nat.div_eq_of_lt hv, Nat.zero_add, Nat.add_mul_mod_self_right, Nat.mod_eq_of_lt hv, List.append_assoc]
/-- the first good letters -/
def ff (np : Nat) (G : List Nat → Bool) (w : Nat) (s : List Nat) : Option (List Nat) := fg2 np (fun l => if G l = true then some l else none) w s
theorem ff_succ {np : Nat} {G : List Nat → Bool} {w : Nat} {s : List Nat} : ff np G (w + 1) s = (List.range np).findSome? fun v => ff np G w (s ++ [v]) := rfl
theorem ff_none {np : Nat} {G : List Nat → Bool} : ∀ (w : Nat) (s : List Nat), (∀ t : List Nat, t.length = w → (∀ x ∈ t, x < np) → G (s ++ t) = false) → ff np G w s = none
  | 0, s, h => by
    have := h [] rfl (fun _ q => by cases q)
    rw [List.append_nil] at this
    show (if G s = true then some s else none) = none
    rw [this]
    rfl
  | w + 1, s, h => by
    rw [ff_succ, List.findSome?_eq_none_iff]
    intro v hv
    refine ff_none w _ (fun t ht hx => ?_)
    rw [List.append_assoc]
    exact h ([v] ++ t) (by rw [List.length_append, ht, Nat.add_comm]; rfl) (fun x q => by
      rcases List.mem_append.mp q with q | q
      · rw [List.mem_singleton.mp q]; exact List.mem_range.mp hv
      · exact hx x q)
theorem ff_some {np : Nat} {G : List Nat → Bool} : ∀ (w : Nat) (s l : List Nat), ff np G w s = some l → ∃ t, t.length = w ∧ (∀ x ∈ t, x < np) ∧ l = s ++ t ∧ G l = true
  | 0, s, l, h => by
    have h : (if G s = true then some s else none) = some l := h
    by_cases q : G s = true
    · rw [if_pos q] at h
      injection h with h
      subst h
      exact ⟨[], rfl, (fun _ q => by cases q), (List.append_nil s).symm, q⟩
    · rw [if_neg q] at h
      cases h
  | w + 1, s, l, h => by
    rw [ff_succ] at h
    obtain ⟨v, hv, h⟩ := List.exists_of_findSome?_eq_some h
    obtain ⟨t, h1, h2, h3, h4⟩ := ff_some w _ l h
    refine ⟨v :: t, by rw [List.length_cons, h1], fun x hx => ?_, by rw [h3, List.append_assoc]; rfl, h4⟩
    rcases List.mem_cons.mp hx with q | q
    · rw [q]; exact List.mem_range.mp hv
    · exact h2 x q
theorem ff_no {np : Nat} {G : List Nat → Bool} : ∀ (w : Nat) (s : List Nat), ff np G w s = none → ∀ t : List Nat, t.length = w → (∀ x ∈ t, x < np) → G (s ++ t) = false
  | 0, s, h, t, ht, _ => by
    have h : (if G s = true then some s else none) = none := h
    rw [List.length_eq_zero_iff.mp ht, List.append_nil]
    by_cases q : G s = true
    · rw [if_pos q] at h
      cases h
    · exact Bool.eq_false_iff.mpr q
  | w + 1, s, h, t, ht, hx => by
    rw [ff_succ, List.findSome?_eq_none_iff] at h
    match t, ht, hx with
    | v :: t, ht, hx =>
      have := ff_no w _ (h v (List.mem_range.mpr (hx v List.mem_cons_self))) t (by rw [List.length_cons] at ht; omega) (fun x q => hx x (List.mem_cons_of_mem _ q))
      rw [List.append_assoc] at this
      exact this
