/-! the rules one by one, over numbers of facts -/
theorem n_pair_comm (a b : Nat) : n_pair a b = n_pair b a := by
  unfold n_pair
  by_cases h : a = b
  · subst h; rfl
  · have h' : ¬ b = a := fun e => h e.symm
    rw [if_neg h, if_neg h']
    by_cases h2 : b ≤ a
    · rw [if_pos h2, if_neg (show ¬ a ≤ b by omega)]
    · rw [if_neg h2, if_pos (show a ≤ b by omega)]
theorem n_ofPairs_comm (base : Nat) (p q : Option Nat) : n_ofPairs base p q = n_ofPairs base q p := by
  cases p with
  | none => cases q <;> rfl
  | some p =>
    cases q with
    | none => rfl
    | some q =>
      show (if p = q then none else if q ≤ p then some _ else some _) = (if q = p then none else if p ≤ q then some _ else some _)
      by_cases h : p = q
      · subst h; rfl
      · rw [if_neg h, if_neg (show ¬ q = p from fun e => h e.symm)]
        by_cases h2 : q ≤ p
        · rw [if_pos h2, if_neg (show ¬ p ≤ q by omega)]
        · rw [if_neg h2, if_pos (show p ≤ q by omega)]
theorem n_ofLine_s1 (a b c : Nat) : n_ofLine a b c = n_ofLine b a c := by
  unfold n_ofLine
  by_cases h : a = b ∨ a = c ∨ b = c
  · rw [if_pos h, if_pos (by omega)]
  · rw [if_neg h, if_neg (by omega)]
    congr 1; omega
theorem n_ofLine_s2 (a b c : Nat) : n_ofLine a b c = n_ofLine a c b := by
  unfold n_ofLine
  by_cases h : a = b ∨ a = c ∨ b = c
  · rw [if_pos h, if_pos (by omega)]
  · rw [if_neg h, if_neg (by omega)]
    congr 1; omega
theorem n_ofMiddle_comm (base m a b : Nat) : n_ofMiddle base m a b = n_ofMiddle base m b a := by
  unfold n_ofMiddle
  by_cases h : m = a ∨ m = b ∨ a = b
  · rw [if_pos h, if_pos (show m = b ∨ m = a ∨ b = a by omega)]
  · rw [if_neg h, if_neg (show ¬ (m = b ∨ m = a ∨ b = a) by omega)]
    by_cases h2 : b ≤ a
    · rw [if_pos h2, if_neg (show ¬ a ≤ b by omega)]
    · rw [if_neg h2, if_pos (show a ≤ b by omega)]
theorem n_ofCircle_s1 (a b c d : Nat) : n_ofCircle a b c d = n_ofCircle b a c d := by
  unfold n_ofCircle
  by_cases h : a = b ∨ a = c ∨ a = d ∨ b = c ∨ b = d ∨ c = d
  · rw [if_pos h, if_pos (by omega)]
  · rw [if_neg h, if_neg (by omega)]
    congr 1; omega
theorem n_ofCircle_s2 (a b c d : Nat) : n_ofCircle a b c d = n_ofCircle a c b d := by
  unfold n_ofCircle
  by_cases h : a = b ∨ a = c ∨ a = d ∨ b = c ∨ b = d ∨ c = d
  · rw [if_pos h, if_pos (by omega)]
  · rw [if_neg h, if_neg (by omega)]
    congr 1; omega
theorem n_ofCircle_s3 (a b c d : Nat) : n_ofCircle a b c d = n_ofCircle a b d c := by
  unfold n_ofCircle
  by_cases h : a = b ∨ a = c ∨ a = d ∨ b = c ∨ b = d ∨ c = d
  · rw [if_pos h, if_pos (by omega)]
  · rw [if_neg h, if_neg (by omega)]
    congr 1; omega
def kd (f : Nat) : Nat := if f < 128 then 0 else if f < 338 then 1 else if f < 548 then 2 else if f < 758 then 3 else if f < 905 then 4 else if f < 1033 then 5 else 6
def nn_ok (k a b c d : Nat) : Bool := (n_number k a b c d).all fun f => kd f == k && isF f
theorem nn_kd {k a b c d f : Nat} (hk : k < 7) (ha : a < 7) (hb : b < 7) (hc : c < 7) (hd : d < 7) (h : n_number k a b c d = some f) : kd f = k ∧ isF f = true := by
  have t : ∀ k, k < 7 → ∀ a, a < 7 → ∀ b, b < 7 → ∀ c, c < 7 → ∀ d, d < 7 → nn_ok k a b c d = true := by decide +kernel
  have := t k hk a ha b hb c hc d hd
  unfold nn_ok at this
  rw [h] at this
  simpa using this
theorem lohi {p : Nat} (hp : p < 21) : n_pair (pr_lo p) (pr_hi p) = some p ∧ pr_lo p < 7 ∧ pr_hi p < 7 := by
  have t : ∀ p, p < 21 → n_pair (pr_lo p) (pr_hi p) = some p ∧ pr_lo p < 7 ∧ pr_hi p < 7 := by decide +kernel
  exact t p hp
theorem lohi_np {np p : Nat} (hnp : np ≤ 7) (hp : p < np * (np - 1) / 2) : pr_lo p < np ∧ pr_hi p < np := by
  have t : ∀ n, n < 8 → ∀ p, p < n * (n - 1) / 2 → pr_lo p < n ∧ pr_hi p < n := by decide +kernel
  exact t np (by omega) p hp
theorem pair_lohi {a b p : Nat} (ha : a < 7) (hb : b < 7) (h : n_pair a b = some p) : (pr_lo p = a ∧ pr_hi p = b) ∨ (pr_lo p = b ∧ pr_hi p = a) := by
  have t : ∀ a, a < 7 → ∀ b, b < 7 → ((n_pair a b).all fun p => (pr_lo p == a && pr_hi p == b) || (pr_lo p == b && pr_hi p == a)) = true := by decide +kernel
  have := t a ha b hb
  rw [h] at this
  simpa using this
theorem pq_dec {base p q f : Nat} (hB : isB base) (hp : p < 21) (hq : q < 21) (h : n_ofPairs base (some p) (some q) = some f) : base ≤ f ∧ f < base + 210 ∧ ((n_less f = p ∧ n_great f = q) ∨ (n_less f = q ∧ n_great f = p)) := by
  have t : ∀ e ∈ [128, 338, 548], ∀ p, p < 21 → ∀ q, q < 21 → ((n_ofPairs e (some p) (some q)).all fun f => decide (e ≤ f ∧ f < e + 210) && ((n_less f == p && n_great f == q) || (n_less f == q && n_great f == p))) = true := by decide +kernel
  have := t base (by rcases hB with rfl | rfl | rfl <;> simp) p hp q hq
  rw [h] at this
  simp only [Option.all_some, Bool.and_eq_true, decide_eq_true_eq, Bool.or_eq_true, beq_iff_eq] at this
  exact ⟨this.1.1, this.1.2, this.2⟩
theorem ofPairs_some {base f : Nat} {p q : Option Nat} (h : n_ofPairs base p q = some f) : ∃ x y, p = some x ∧ q = some y := by
  cases p with
  | none => cases h
  | some p =>
    cases q with
    | none => cases h
    | some q => exact ⟨p, q, rfl, rfl⟩
/-! making an instance -/
def rt_ls (l : List Nat) (i : Nat) : Nat := l.getD i (l.headD 0)
theorem rt_mk {np : Nat} {ps : List Nat} {c : Nat} (r : Nat) (q : List rt_T × rt_T) (l : List Nat) (h0 : l ≠ []) (hl : ∀ x ∈ l, x < np) (hr : rt_rules[r]? = some q) (h1 : q.1.map (rt_f (rt_ls l)) = ps.map some) (h2 : rt_f (rt_ls l) q.2 = some c) : rt_inst np ps c := by
  refine ⟨r, q, rt_ls l, hr, fun i _ => hl _ ?_, h1, h2⟩
  unfold rt_ls
  rw [List.getD_eq_getElem?_getD]
  cases h : l[i]? with
  | some x => exact List.mem_of_getElem? h
  | none =>
    cases l with
    | nil => exact absurd rfl h0
    | cons a t => exact List.mem_cons_self
theorem all6 {np a b c d e g : Nat} (ha : a < np) (hb : b < np) (hc : c < np) (hd : d < np) (he : e < np) (hg : g < np) : ∀ x ∈ [a, b, c, d, e, g], x < np := by
  intro x hx
  simp only [List.mem_cons, List.not_mem_nil, or_false] at hx
  omega
section RI
variable {np a b c d e g f1 f2 f3 f4 : Nat}
theorem ri_0 (ha : a < np) (hb : b < np) (hc : c < np) (hd : d < np) (he : e < np) (hg : g < np) (h1 : n_ofPairs 128 (n_pair a b) (n_pair c d) = some f1) (h2 : n_ofPairs 128 (n_pair c d) (n_pair e g) = some f2) (h3 : n_ofPairs 128 (n_pair a b) (n_pair e g) = some f3) : rt_inst np [f1, f2] f3 :=
  rt_mk 0 _ [a, b, c, d, e, g] (by simp) (all6 ha hb hc hd he hg) rfl (show [_, _] = [some f1, some f2] from congr (congrArg List.cons h1) (congrArg (fun x => [x]) h2)) h3
theorem ri_1 (ha : a < np) (hb : b < np) (hc : c < np) (hd : d < np) (he : e < np) (hg : g < np) (h1 : n_ofPairs 338 (n_pair a b) (n_pair c d) = some f1) (h2 : n_ofPairs 338 (n_pair c d) (n_pair e g) = some f2) (h3 : n_ofPairs 128 (n_pair a b) (n_pair e g) = some f3) : rt_inst np [f1, f2] f3 :=
  rt_mk 1 _ [a, b, c, d, e, g] (by simp) (all6 ha hb hc hd he hg) rfl (show [_, _] = [some f1, some f2] from congr (congrArg List.cons h1) (congrArg (fun x => [x]) h2)) h3
theorem ri_2 (ha : a < np) (hb : b < np) (hc : c < np) (hd : d < np) (he : e < np) (hg : g < np) (h1 : n_ofPairs 338 (n_pair a b) (n_pair c d) = some f1) (h2 : n_ofPairs 128 (n_pair c d) (n_pair e g) = some f2) (h3 : n_ofPairs 338 (n_pair a b) (n_pair e g) = some f3) : rt_inst np [f1, f2] f3 :=
  rt_mk 2 _ [a, b, c, d, e, g] (by simp) (all6 ha hb hc hd he hg) rfl (show [_, _] = [some f1, some f2] from congr (congrArg List.cons h1) (congrArg (fun x => [x]) h2)) h3
theorem ri_3 (ha : a < np) (hb : b < np) (hc : c < np) (h1 : n_ofMiddle 758 a b c = some f1) (h3 : n_ofPairs 548 (n_pair a b) (n_pair a c) = some f3) : rt_inst np [f1] f3 :=
  rt_mk 3 _ [a, b, c, a, a, a] (by simp) (all6 ha hb hc ha ha ha) rfl (show [_] = [some f1] from congrArg (fun x => [x]) h1) h3
theorem ri_4 (ha : a < np) (hb : b < np) (hc : c < np) (h1 : n_ofMiddle 758 a b c = some f1) (h3 : n_ofMiddle 1033 a b c = some f3) : rt_inst np [f1] f3 :=
  rt_mk 4 _ [a, b, c, a, a, a] (by simp) (all6 ha hb hc ha ha ha) rfl (show [_] = [some f1] from congrArg (fun x => [x]) h1) h3
theorem ri_5 (ha : a < np) (hb : b < np) (hc : c < np) (h1 : n_ofMiddle 1033 a b c = some f1) (h3 : n_ofLine a b c = some f3) : rt_inst np [f1] f3 :=
  rt_mk 5 _ [a, b, c, a, a, a] (by simp) (all6 ha hb hc ha ha ha) rfl (show [_] = [some f1] from congrArg (fun x => [x]) h1) h3
theorem ri_6 (ha : a < np) (hb : b < np) (hc : c < np) (hd : d < np) (he : e < np) (h1 : n_ofMiddle 758 a b c = some f1) (h2 : n_ofMiddle 758 d b e = some f2) (h3 : n_ofPairs 128 (n_pair a d) (n_pair c e) = some f3) : rt_inst np [f1, f2] f3 :=
  rt_mk 6 _ [a, b, c, d, e, a] (by simp) (all6 ha hb hc hd he ha) rfl (show [_, _] = [some f1, some f2] from congr (congrArg List.cons h1) (congrArg (fun x => [x]) h2)) h3
theorem ri_7 (ha : a < np) (hb : b < np) (hc : c < np) (hd : d < np) (he : e < np) (hg : g < np) (h1 : n_ofPairs 548 (n_pair a b) (n_pair c d) = some f1) (h2 : n_ofPairs 548 (n_pair c d) (n_pair e g) = some f2) (h3 : n_ofPairs 548 (n_pair a b) (n_pair e g) = some f3) : rt_inst np [f1, f2] f3 :=
  rt_mk 7 _ [a, b, c, d, e, g] (by simp) (all6 ha hb hc hd he hg) rfl (show [_, _] = [some f1, some f2] from congr (congrArg List.cons h1) (congrArg (fun x => [x]) h2)) h3
theorem ri_8 (ha : a < np) (hb : b < np) (hc : c < np) (h1 : n_ofPairs 128 (n_pair a b) (n_pair a c) = some f1) (h3 : n_ofLine a b c = some f3) : rt_inst np [f1] f3 :=
  rt_mk 8 _ [a, b, c, a, a, a] (by simp) (all6 ha hb hc ha ha ha) rfl (show [_] = [some f1] from congrArg (fun x => [x]) h1) h3
theorem ri_9 (ha : a < np) (hb : b < np) (hc : c < np) (hd : d < np) (h1 : n_ofLine a b c = some f1) (h2 : n_ofLine a b d = some f2) (h3 : n_ofLine a c d = some f3) : rt_inst np [f1, f2] f3 :=
  rt_mk 9 _ [a, b, c, d, a, a] (by simp) (all6 ha hb hc hd ha ha) rfl (show [_, _] = [some f1, some f2] from congr (congrArg List.cons h1) (congrArg (fun x => [x]) h2)) h3
theorem ri_10 (ha : a < np) (hb : b < np) (hc : c < np) (hd : d < np) (h1 : n_ofPairs 548 (n_pair a b) (n_pair c b) = some f1) (h2 : n_ofPairs 548 (n_pair a d) (n_pair c d) = some f2) (h3 : n_ofPairs 338 (n_pair a c) (n_pair b d) = some f3) : rt_inst np [f1, f2] f3 :=
  rt_mk 10 _ [a, b, c, d, a, a] (by simp) (all6 ha hb hc hd ha ha) rfl (show [_, _] = [some f1, some f2] from congr (congrArg List.cons h1) (congrArg (fun x => [x]) h2)) h3
theorem ri_11 (ha : a < np) (hb : b < np) (hc : c < np) (hd : d < np) (h1 : n_ofMiddle 758 a b c = some f1) (h2 : n_ofPairs 338 (n_pair a d) (n_pair b c) = some f2) (h3 : n_ofPairs 548 (n_pair d b) (n_pair d c) = some f3) : rt_inst np [f1, f2] f3 :=
  rt_mk 11 _ [a, b, c, d, a, a] (by simp) (all6 ha hb hc hd ha ha) rfl (show [_, _] = [some f1, some f2] from congr (congrArg List.cons h1) (congrArg (fun x => [x]) h2)) h3
theorem ri_12 (ha : a < np) (hb : b < np) (hc : c < np) (hd : d < np) (he : e < np) (h1 : n_ofPairs 548 (n_pair a b) (n_pair a c) = some f1) (h2 : n_ofPairs 548 (n_pair a c) (n_pair a d) = some f2) (h3 : n_ofPairs 548 (n_pair a d) (n_pair a e) = some f3) (h4 : n_ofCircle b c d e = some f4) : rt_inst np [f1, f2, f3] f4 :=
  rt_mk 12 _ [a, b, c, d, e, a] (by simp) (all6 ha hb hc hd he ha) rfl (show [_, _, _] = [some f1, some f2, some f3] from congr (congrArg List.cons h1) (congr (congrArg List.cons h2) (congrArg (fun x => [x]) h3))) h4
theorem ri_13 (ha : a < np) (hb : b < np) (hc : c < np) (hd : d < np) (he : e < np) (h1 : n_ofCircle a b c d = some f1) (h2 : n_ofCircle a b c e = some f2) (h3 : n_ofCircle a b d e = some f3) : rt_inst np [f1, f2] f3 :=
  rt_mk 13 _ [a, b, c, d, e, a] (by simp) (all6 ha hb hc hd he ha) rfl (show [_, _] = [some f1, some f2] from congr (congrArg List.cons h1) (congrArg (fun x => [x]) h2)) h3
theorem ri_14 (ha : a < np) (hb : b < np) (hc : c < np) (hd : d < np) (he : e < np) (h1 : n_ofLine a b c = some f1) (h2 : n_ofPairs 128 (n_pair a b) (n_pair d e) = some f2) (h3 : n_ofPairs 128 (n_pair a c) (n_pair d e) = some f3) : rt_inst np [f1, f2] f3 :=
  rt_mk 14 _ [a, b, c, d, e, a] (by simp) (all6 ha hb hc hd he ha) rfl (show [_, _] = [some f1, some f2] from congr (congrArg List.cons h1) (congrArg (fun x => [x]) h2)) h3
theorem ri_15 (ha : a < np) (hb : b < np) (hc : c < np) (h1 : n_ofLine a b c = some f1) (h2 : n_ofPairs 548 (n_pair a b) (n_pair a c) = some f2) (h3 : n_ofMiddle 758 a b c = some f3) : rt_inst np [f1, f2] f3 :=
  rt_mk 15 _ [a, b, c, a, a, a] (by simp) (all6 ha hb hc ha ha ha) rfl (show [_, _] = [some f1, some f2] from congr (congrArg List.cons h1) (congrArg (fun x => [x]) h2)) h3
theorem ri_16 (ha : a < np) (hb : b < np) (hc : c < np) (hd : d < np) (he : e < np) (h1 : n_ofPairs 338 (n_pair a b) (n_pair c d) = some f1) (h2 : n_ofLine a b e = some f2) (h3 : n_ofPairs 338 (n_pair a e) (n_pair c d) = some f3) : rt_inst np [f1, f2] f3 :=
  rt_mk 16 _ [a, b, c, d, e, a] (by simp) (all6 ha hb hc hd he ha) rfl (show [_, _] = [some f1, some f2] from congr (congrArg List.cons h1) (congrArg (fun x => [x]) h2)) h3
end RI
/-! taking an instance apart -/
theorem map1 {α : Type} {x : Option α} {ps : List α} (h : [x] = ps.map some) : ∃ f, ps = [f] ∧ x = some f := by
  cases ps with
  | nil => cases h
  | cons a t =>
    cases t with
    | nil => exact ⟨a, rfl, by injection h⟩
    | cons b t => injection h with _ h; cases h
theorem map2 {α : Type} {x y : Option α} {ps : List α} (h : [x, y] = ps.map some) : ∃ f g, ps = [f, g] ∧ x = some f ∧ y = some g := by
  cases ps with
  | nil => cases h
  | cons a t =>
    injection h with h1 h2
    obtain ⟨g, rfl, rfl⟩ := map1 h2
    exact ⟨a, g, rfl, h1, rfl⟩
theorem map3 {α : Type} {x y w : Option α} {ps : List α} (h : [x, y, w] = ps.map some) : ∃ f g e, ps = [f, g, e] ∧ x = some f ∧ y = some g ∧ w = some e := by
  cases ps with
  | nil => cases h
  | cons a t =>
    injection h with h1 h2
    obtain ⟨g, e, rfl, rfl, rfl⟩ := map2 h2
    exact ⟨a, g, e, rfl, h1, rfl, rfl⟩
