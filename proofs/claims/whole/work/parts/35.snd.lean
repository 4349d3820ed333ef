/-! the use of a fact offers nothing but what follows -/
theorem al_try_le {T : al_S} {now o : Nat} {c : Option Nat} (g : Nat) : (al_try T now o c).1 g ≤ T.1 g := (al_R_try (now := now) (S := T) al_R_rf).1 g
theorem rt_lv_isP {np : Nat} {S0 : Nat → Prop} (h0 : ∀ g, S0 g → isP np g) : ∀ {k f : Nat}, rt_lv np S0 k f → isP np f
  | 0, f, h => h0 f h
  | k + 1, f, h => by
    rcases h with h | ⟨ps, ⟨r, q, s, hr, hs, -, hc⟩, -⟩
    · exact rt_lv_isP h0 h
    · have hq : q ∈ rt_rules := List.mem_of_getElem? hr
      have t : rt_rules.all (fun q => decide (q.2.1 < 7 ∧ q.2.2.1 < 6 ∧ q.2.2.2.1 < 6 ∧ q.2.2.2.2.1 < 6 ∧ q.2.2.2.2.2 < 6)) = true := by decide +kernel
      have t1 := List.all_eq_true.mp t q hq
      simp only [decide_eq_true_eq] at t1
      exact ⟨_, _, _, _, _, t1.1, hs _ t1.2.1, hs _ t1.2.2.1, hs _ t1.2.2.2.1, hs _ t1.2.2.2.2, hc⟩
section SN
variable {np now f : Nat} {S0 : Nat → Prop}
/-- sound, and the fact in use is no higher than it was -/
def al_P (np now f : Nat) (S0 : Nat → Prop) (T : al_S) : Prop := al_snd np S0 T ∧ T.1 f ≤ now
theorem sn_try {T : al_S} {o : Nat} {c : Option Nat} (hn : now ≤ 4) (h : al_P np now f S0 T) (hc : ∀ g, c = some g → o < 5 → ∃ ps, rt_inst np ps g ∧ ∀ p ∈ ps, T.1 p ≤ max now o) : al_P np now f S0 (al_try T now o c) := by
  refine ⟨fun x hx => ?_, Nat.le_trans (al_try_le f) h.2⟩
  unfold al_try at hx ⊢
  split at hx
  · rename_i ho
    rw [if_pos ho] at *
    cases c with
    | none => exact h.1 x hx
    | some g =>
      unfold al_offer at hx ⊢
      dsimp only at hx ⊢
      split at hx
      · rename_i hlt
        rw [if_pos hlt] at *
        have e0 : al_up T.1 g (1 + max now o) x = if x = g then 1 + max now o else T.1 x := rfl
        dsimp only at hx ⊢
        rw [e0] at hx ⊢
        by_cases e : x = g
        · subst e
          rw [if_pos rfl] at hx ⊢
          obtain ⟨ps, h1, h2⟩ := hc x rfl ho
          rw [Nat.add_comm]
          exact Or.inr ⟨ps, h1, fun p hp => rt_lv_mono (h2 p hp) (h.1 p (by have := h2 p hp; omega))⟩
        · rw [if_neg e] at hx ⊢
          exact h.1 x hx
      · rename_i hlt
        rw [if_neg hlt]
        exact h.1 x hx
  · rename_i ho
    rw [if_neg ho]
    exact h.1 x hx
theorem at_some {T : al_S} {o : Option Nat} (h : al_at T o < 5) : ∃ x, o = some x ∧ T.1 x = al_at T o := by
  cases o with
  | none => exact absurd h (show ¬ (6 : Nat) < 5 by decide)
  | some x => exact ⟨x, rfl, rfl⟩
/-- the usual try: the fact in use and another one -/
theorem sn_one {T : al_S} {o c : Option Nat} (hn : now ≤ 4) (h : al_P np now f S0 T) (hc : ∀ x g, o = some x → c = some g → rt_inst np [f, x] g ∨ rt_inst np [x, f] g) : al_P np now f S0 (al_try T now (al_at T o) c) := by
  refine sn_try hn h (fun g hg ho => ?_)
  obtain ⟨x, rfl, hx⟩ := at_some ho
  have hf := h.2
  have hb : ∀ p ∈ [f, x], T.1 p ≤ max now (al_at T (some x)) := by
    intro p hp
    simp only [List.mem_cons, List.not_mem_nil, or_false] at hp
    rcases hp with rfl | rfl
    · omega
    · omega
  rcases hc x g rfl hg with q | q
  · exact ⟨_, q, hb⟩
  · exact ⟨_, q, fun p hp => hb p (by simp only [List.mem_cons, List.not_mem_nil, or_false] at hp ⊢; exact hp.symm)⟩
theorem al_at_mono {T T' : al_S} (h : ∀ g, T'.1 g ≤ T.1 g) (o : Option Nat) : al_at T' o ≤ al_at T o := by
  cases o with
  | none => exact Nat.le_refl _
  | some x => exact h x
theorem sn_oneL {T T' : al_S} {o c : Option Nat} (hn : now ≤ 4) (hT : ∀ g, T'.1 g ≤ T.1 g) (h : al_P np now f S0 T') (hc : ∀ x g, o = some x → c = some g → rt_inst np [f, x] g ∨ rt_inst np [x, f] g) : al_P np now f S0 (al_try T' now (al_at T o) c) := by
  refine sn_try hn h (fun g hg ho => ?_)
  obtain ⟨x, rfl, hx⟩ := at_some ho
  have hf := h.2
  have hb : ∀ p ∈ [f, x], T'.1 p ≤ max now (al_at T (some x)) := by
    intro p hp
    simp only [List.mem_cons, List.not_mem_nil, or_false] at hp
    have := hT x
    rcases hp with rfl | rfl
    · omega
    · omega
  rcases hc x g rfl hg with q | q
  · exact ⟨_, q, hb⟩
  · exact ⟨_, q, fun p hp => hb p (by simp only [List.mem_cons, List.not_mem_nil, or_false] at hp ⊢; exact hp.symm)⟩
theorem sn_two {T : al_S} {o c1 c2 : Option Nat} (hn : now ≤ 4) (h : al_P np now f S0 T) (hc : ∀ x g, o = some x → c1 = some g ∨ c2 = some g → rt_inst np [f, x] g ∨ rt_inst np [x, f] g) : al_P np now f S0 (al_two T now (al_at T o) c1 c2) :=
  sn_oneL hn (fun g => al_try_le g) (sn_one hn h (fun x g h1 h2 => hc x g h1 (Or.inl h2))) (fun x g h1 h2 => hc x g h1 (Or.inr h2))
theorem sn_self {T : al_S} {c : Option Nat} (hn : now ≤ 4) (h : al_P np now f S0 T) (hc : ∀ g, c = some g → rt_inst np [f] g) : al_P np now f S0 (al_try T now now c) := by
  refine sn_try hn h (fun g hg ho => ⟨_, hc g hg, fun p hp => ?_⟩)
  simp only [List.mem_cons, List.not_mem_nil, or_false] at hp
  subst hp
  have := h.2
  omega
theorem fold_mem {α β : Type} {P : α → Prop} {F : α → β → α} : ∀ (l : List β) (S : α), (∀ S b, b ∈ l → P S → P (F S b)) → P S → P (l.foldl F S)
  | [], _, _, q => q
  | b :: t, S, h, q => fold_mem t (F S b) (fun S b' hb => h S b' (List.mem_cons_of_mem _ hb)) (h S b List.mem_cons_self q)
theorem mem_r {r n : Nat} : r ∈ List.range' 0 n ↔ r < n := by
  rw [List.mem_range'_1]
  omega
/-- pairs of points in play -/
abbrev nq (np : Nat) : Nat := np * (np - 1) / 2
theorem pr_np {p : Nat} (hnp : np ≤ 7) (hp : p < nq np) : pr_lo p < np ∧ pr_hi p < np ∧ n_pair (pr_lo p) (pr_hi p) = some p ∧ p < 21 := by
  have h21 : p < 21 := Nat.lt_of_lt_of_le hp (pairs21 hnp)
  exact ⟨(lohi_np hnp hp).1, (lohi_np hnp hp).2, (lohi h21).1, h21⟩
/-- the rules 0, 1, 2, 7 over pairs -/
theorem rp {p q r via base gives f x g : Nat} (hnp : np ≤ 7) (hp : p < nq np) (hq : q < nq np) (hr : r < nq np) (hb : (base = 128 ∧ via = 128 ∧ gives = 128) ∨ (base = 338 ∧ via = 338 ∧ gives = 128) ∨ (base = 338 ∧ via = 128 ∧ gives = 338) ∨ (base = 128 ∧ via = 338 ∧ gives = 338) ∨ (base = 548 ∧ via = 548 ∧ gives = 548))
    (h1 : n_ofPairs base (some p) (some q) = some f) (h2 : n_ofPairs via (some q) (some r) = some x) (h3 : n_ofPairs gives (some p) (some r) = some g) : rt_inst np [f, x] g ∨ rt_inst np [x, f] g := by
  obtain ⟨p1, p2, p3, -⟩ := pr_np hnp hp
  obtain ⟨q1, q2, q3, -⟩ := pr_np hnp hq
  obtain ⟨r1, r2, r3, -⟩ := pr_np hnp hr
  rw [← p3, ← q3] at h1
  rw [← q3, ← r3] at h2
  rw [← p3, ← r3] at h3
  rcases hb with ⟨rfl, rfl, rfl⟩ | ⟨rfl, rfl, rfl⟩ | ⟨rfl, rfl, rfl⟩ | ⟨rfl, rfl, rfl⟩ | ⟨rfl, rfl, rfl⟩
  · exact Or.inl (ri_0 p1 p2 q1 q2 r1 r2 h1 h2 h3)
  · exact Or.inl (ri_1 p1 p2 q1 q2 r1 r2 h1 h2 h3)
  · exact Or.inl (ri_2 p1 p2 q1 q2 r1 r2 h1 h2 h3)
  · rw [n_ofPairs_comm] at h1 h2 h3
    exact Or.inr (ri_2 r1 r2 q1 q2 p1 p2 h2 h1 h3)
  · exact Or.inl (ri_7 p1 p2 q1 q2 r1 r2 h1 h2 h3)
theorem sn_ch {T : al_S} {p q via base gives : Nat} (hn : now ≤ 4) (hnp : np ≤ 7) (hp : p < nq np) (hq : q < nq np) (hb : (base = 128 ∧ via = 128 ∧ gives = 128) ∨ (base = 338 ∧ via = 338 ∧ gives = 128) ∨ (base = 338 ∧ via = 128 ∧ gives = 338) ∨ (base = 128 ∧ via = 338 ∧ gives = 338) ∨ (base = 548 ∧ via = 548 ∧ gives = 548))
    (h1 : n_ofPairs base (some p) (some q) = some f) (h : al_P np now f S0 T) : al_P np now f S0 (al_ch np now p q via gives T) := by
  refine fold_mem _ _ (fun T r hr hT => ?_) h
  exact sn_one hn hT (fun x g h2 h3 => rp hnp hp hq (mem_r.mp hr) hb h1 h2 h3)
theorem line_some {a b c g : Nat} (h : n_ofLine a b c = some g) : a ≠ b ∧ a ≠ c ∧ b ≠ c := by
  unfold n_ofLine at h
  split at h
  · cases h
  · omega
/-- the rules 14 and 16 -/
theorem rs {base a b c q f x g : Nat} (hnp : np ≤ 7) (hb : base = 128 ∨ base = 338) (ha : a < np) (hb' : b < np) (hc : c < np) (hq : q < nq np) (h1 : n_ofPairs base (n_pair a b) (some q) = some f) (h2 : n_ofLine a b c = some x) (h3 : n_ofPairs base (n_pair a c) (some q) = some g) : rt_inst np [f, x] g ∨ rt_inst np [x, f] g := by
  obtain ⟨q1, q2, q3, -⟩ := pr_np hnp hq
  rw [← q3] at h1 h3
  rcases hb with rfl | rfl
  · exact Or.inr (ri_14 ha hb' hc q1 q2 h2 h1 h3)
  · exact Or.inl (ri_16 ha hb' q1 q2 hc h1 h2 h3)
theorem rs2 {base a b c q f x g : Nat} (hnp : np ≤ 7) (hb : base = 128 ∨ base = 338) (ha : a < np) (hb' : b < np) (hc : c < np) (hq : q < nq np) (h1 : n_ofPairs base (n_pair a b) (some q) = some f) (h2 : n_ofLine a b c = some x) (h3 : n_ofPairs base (n_pair a c) (some q) = some g ∨ n_ofPairs base (n_pair b c) (some q) = some g) : rt_inst np [f, x] g ∨ rt_inst np [x, f] g := by
  rcases h3 with h3 | h3
  · exact rs hnp hb ha hb' hc hq h1 h2 h3
  · exact rs hnp hb hb' ha hc hq (by rw [n_pair_comm]; exact h1) (by rw [n_ofLine_s1]; exact h2) h3
theorem sn_sl {T : al_S} {base p q : Nat} (hn : now ≤ 4) (hnp : np ≤ 7) (hb : base = 128 ∨ base = 338) (hp : p < nq np) (hq : q < nq np) (h1 : n_ofPairs base (some p) (some q) = some f) (h : al_P np now f S0 T) : al_P np now f S0 (al_sl np now base p q T) := by
  obtain ⟨p1, p2, p3, -⟩ := pr_np hnp hp
  rw [← p3] at h1
  refine fold_mem _ _ (fun T c hc hT => ?_) h
  exact sn_two hn hT (fun x g h2 h3 => rs2 hnp hb p1 p2 (mem_r.mp hc) hq h1 h2 h3)
theorem sn_om {T : al_S} {m p y x : Nat} (hn : now ≤ 4) (hnp : np ≤ 7) (hm : m < np) (hp : p < np) (hy : y < nq np) (hx : n_pair m p = some x) (h1 : n_ofPairs 338 (some x) (some y) = some f) (h : al_P np now f S0 T) : al_P np now f S0 (al_om now m p y T) := by
  obtain ⟨y1, y2, y3, -⟩ := pr_np hnp hy
  rw [← hx, ← y3] at h1
  exact sn_one hn h (fun w g h2 h3 => Or.inr (ri_11 hm y1 y2 hp h2 h1 h3))
/-- a fact of two pairs, taken apart -/
theorem dec_pairs {base : Nat} (hnp : np ≤ 7) (hB : isB base) (h : isP np f) (h1 : base ≤ f) (h2 : f < base + 210) : n_less f < nq np ∧ n_great f < nq np ∧ n_ofPairs base (some (n_less f)) (some (n_great f)) = some f := by
  obtain ⟨k, a, b, c, d, hk, ha, hb, hc, hd, hN⟩ := h
  have hkd := (nn_kd hk (by omega) (by omega) (by omega) (by omega) hN).1
  have hk2 : n_ofPairs base (n_pair a b) (n_pair c d) = some f := by
    unfold kd at hkd
    rcases hB with rfl | rfl | rfl
    · rw [if_neg (by omega), if_pos (by omega)] at hkd
      subst hkd
      exact hN
    · rw [if_neg (by omega), if_neg (by omega), if_pos (by omega)] at hkd
      subst hkd
      exact hN
    · rw [if_neg (by omega), if_neg (by omega), if_neg (by omega), if_pos (by omega)] at hkd
      subst hkd
      exact hN
  obtain ⟨x, y, e1, e2⟩ := ofPairs_some hk2
  rw [e1, e2] at hk2
  have hx := n_pair_lt ha hb e1
  have hy := n_pair_lt hc hd e2
  obtain ⟨-, -, q⟩ := pq_dec hB (Nat.lt_of_lt_of_le hx (pairs21 hnp)) (Nat.lt_of_lt_of_le hy (pairs21 hnp)) hk2
  rcases q with ⟨q1, q2⟩ | ⟨q1, q2⟩
  · rw [q1, q2]
    exact ⟨hx, hy, hk2⟩
  · rw [q1, q2]
    exact ⟨hy, hx, by rw [n_ofPairs_comm]; exact hk2⟩
def or3_ok (p q : Nat) : Bool := p == q || !(bitsN 7 (maskN p ||| maskN q) == 3) || (List.range 7).any fun a => (List.range 7).any fun b => (List.range 7).any fun c => ((n_pair a b == some p && n_pair a c == some q) || (n_pair a b == some q && n_pair a c == some p)) && n_ofLine a b c == some (maskN p ||| maskN q)
theorem or3 {p q : Nat} (hp : p < 21) (hq : q < 21) (hne : p ≠ q) (h3 : bitsN 7 (maskN p ||| maskN q) = 3) : ∃ a b c, a < 7 ∧ b < 7 ∧ c < 7 ∧ ((n_pair a b = some p ∧ n_pair a c = some q) ∨ (n_pair a b = some q ∧ n_pair a c = some p)) ∧ n_ofLine a b c = some (maskN p ||| maskN q) := by
  have t : ∀ p, p < 21 → ∀ q, q < 21 → or3_ok p q = true := by decide +kernel
  have t1 := t p hp q hq
  unfold or3_ok at t1
  rw [h3] at t1
  simp only [beq_self_eq_true, Bool.not_true, Bool.or_false, Bool.or_eq_true, beq_iff_eq, List.any_eq_true, List.mem_range, Bool.and_eq_true] at t1
  rcases t1 with t1 | ⟨a, ha, b, hb, c, hc, t2, t3⟩
  · exact absurd t1 hne
  · exact ⟨a, b, c, ha, hb, hc, t2, t3⟩
end SN
