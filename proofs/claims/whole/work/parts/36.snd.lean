section SO
variable {np now f : Nat} {S0 : Nat → Prop}
theorem pair_np {a b p : Nat} (hnp : np ≤ 7) (ha : a < 7) (hb : b < 7) (h : n_pair a b = some p) (hp : p < nq np) : a < np ∧ b < np := by
  have := lohi_np hnp hp
  rcases pair_lohi ha hb h with ⟨e1, e2⟩ | ⟨e1, e2⟩ <;> omega
theorem ofPairs_ne {base p q g : Nat} (h : n_ofPairs base (some p) (some q) = some g) : p ≠ q := by
  intro e
  subst e
  have : n_ofPairs base (some p) (some p) = none := if_pos rfl
  rw [this] at h
  cases h
theorem sn_par {T : al_S} (hn : now ≤ 4) (hnp : np ≤ 7) (hf : isP np f) (h1 : 128 ≤ f) (h2 : f < 338) (h : al_P np now f S0 T) : al_P np now f S0 (al_par np now f T) := by
  obtain ⟨hp, hq, hN⟩ := dec_pairs hnp (Or.inl rfl) hf h1 h2
  have hN' : n_ofPairs 128 (some (n_great f)) (some (n_less f)) = some f := by rw [n_ofPairs_comm]; exact hN
  have h6 : al_P np now f S0 (al_sl np now 128 (n_great f) (n_less f) (al_sl np now 128 (n_less f) (n_great f) (al_ch np now (n_great f) (n_less f) 338 338 (al_ch np now (n_less f) (n_great f) 338 338 (al_ch np now (n_great f) (n_less f) 128 128 (al_ch np now (n_less f) (n_great f) 128 128 T)))))) := by
    refine sn_sl hn hnp (Or.inl rfl) hq hp hN' (sn_sl hn hnp (Or.inl rfl) hp hq hN ?_)
    refine sn_ch hn hnp hq hp (base := 128) (by omega) hN' (sn_ch hn hnp hp hq (base := 128) (by omega) hN ?_)
    exact sn_ch hn hnp hq hp (base := 128) (by omega) hN' (sn_ch hn hnp hp hq (base := 128) (by omega) hN h)
  unfold al_par
  dsimp only
  split
  · rename_i h3
    refine sn_self hn h6 (fun g hg => ?_)
    obtain ⟨a, b, c, ha, hb, hc, e, e2⟩ := or3 (pr_np hnp hp).2.2.2 (pr_np hnp hq).2.2.2 (ofPairs_ne hN) h3
    rw [hg] at e2
    rcases e with ⟨e3, e4⟩ | ⟨e3, e4⟩
    · have q1 := pair_np hnp ha hb e3 hp
      have q2 := pair_np hnp ha hc e4 hq
      exact ri_8 q1.1 q1.2 q2.2 (by rw [e3, e4]; exact hN) e2
    · have q1 := pair_np hnp ha hb e3 hq
      have q2 := pair_np hnp ha hc e4 hp
      exact ri_8 q1.1 q1.2 q2.2 (by rw [e3, e4]; exact hN') e2
  · exact h6
theorem sn_perp {T : al_S} (hn : now ≤ 4) (hnp : np ≤ 7) (hf : isP np f) (h1 : 338 ≤ f) (h2 : f < 548) (h : al_P np now f S0 T) : al_P np now f S0 (al_perp np now f T) := by
  obtain ⟨hp, hq, hN⟩ := dec_pairs hnp (Or.inr (Or.inl rfl)) hf h1 h2
  have hN' : n_ofPairs 338 (some (n_great f)) (some (n_less f)) = some f := by rw [n_ofPairs_comm]; exact hN
  obtain ⟨p1, p2, p3, -⟩ := pr_np hnp hp
  obtain ⟨q1, q2, q3, -⟩ := pr_np hnp hq
  unfold al_perp
  refine sn_om hn hnp q2 q1 hp (by rw [n_pair_comm]; exact q3) hN' (sn_om hn hnp q1 q2 hp q3 hN' (sn_om hn hnp p2 p1 hq (by rw [n_pair_comm]; exact p3) hN (sn_om hn hnp p1 p2 hq p3 hN ?_)))
  refine sn_sl hn hnp (Or.inr rfl) hq hp hN' (sn_sl hn hnp (Or.inr rfl) hp hq hN ?_)
  refine sn_ch hn hnp hq hp (base := 338) (by omega) hN' (sn_ch hn hnp hp hq (base := 338) (by omega) hN ?_)
  exact sn_ch hn hnp hq hp (base := 338) (by omega) hN' (sn_ch hn hnp hp hq (base := 338) (by omega) hN h)
def eq3_ok (p q : Nat) : Bool := p == q || (maskN p &&& maskN q == 0) || (n_pair (ntzN (maskN p &&& maskN q)) (ntzN (maskN p ^^^ (maskN p &&& maskN q))) == some p && n_pair (ntzN (maskN p &&& maskN q)) (ntzN (maskN q ^^^ (maskN p &&& maskN q))) == some q && decide (ntzN (maskN p &&& maskN q) < 7 ∧ ntzN (maskN p ^^^ (maskN p &&& maskN q)) < 7 ∧ ntzN (maskN q ^^^ (maskN p &&& maskN q)) < 7))
theorem eq3 {p q : Nat} (hp : n_less f < 21) (hq : n_great f < 21) (hne : n_less f ≠ n_great f) (h0 : ¬ eq_s f = 0) : n_pair (eq_o f) (eq_a f) = some (n_less f) ∧ n_pair (eq_o f) (eq_b f) = some (n_great f) ∧ eq_o f < 7 ∧ eq_a f < 7 ∧ eq_b f < 7 := by
  have t : ∀ p, p < 21 → ∀ q, q < 21 → eq3_ok p q = true := by decide +kernel
  have t1 := t _ hp _ hq
  unfold eq3_ok at t1
  unfold eq_o eq_a eq_b eq_s at *
  simp only [Bool.or_eq_true, beq_iff_eq, Bool.and_eq_true, decide_eq_true_eq] at t1
  rcases t1 with (t1 | t1) | ⟨⟨t1, t2⟩, t3⟩
  · exact absurd t1 hne
  · exact absurd t1 h0
  · exact ⟨t1, t2, t3⟩
theorem sn_rounds {T : al_S} {o a b : Nat} (hn : now ≤ 4) (ho : o < np) (ha : a < np) (hb : b < np) (hN : n_ofPairs 548 (n_pair o a) (n_pair o b) = some f) (h : al_P np now f S0 T) : al_P np now f S0 ((List.range' 0 np).foldl (al_rounds np now o a b) T) := by
  refine fold_mem _ _ (fun T c hc hT => ?_) h
  have hc := mem_r.mp hc
  unfold al_rounds
  split
  · rename_i h5
    obtain ⟨x, hx, hx2⟩ := at_some h5
    rw [hx] at hx2 ⊢
    have hle : ∀ (l : List Nat) (U : al_S), (∀ g, U.1 g ≤ T.1 g) → al_P np now f S0 U → (∀ e ∈ l, e < np) → al_P np now f S0 (l.foldl (al_round now o a b c (al_at T (some x))) U) := by
      intro l
      induction l with
      | nil => intro U _ q _; exact q
      | cons e l ih =>
        intro U hU hP hl
        rw [List.foldl_cons]
        have he := hl e List.mem_cons_self
        refine ih _ (fun g => Nat.le_trans (al_try_le g) (hU g)) ?_ (fun y hy => hl y (List.mem_cons_of_mem _ hy))
        refine sn_try hn hP (fun g hg h5' => ?_)
        have hUx := hU x
        have hUf := hP.2
        have hTx : al_at T (some x) = T.1 x := rfl
        by_cases hmin : al_at U (n_ofPairs 548 (n_pair o c) (n_pair o e)) ≤ al_at U (n_ofPairs 548 (n_pair o a) (n_pair o e))
        · obtain ⟨y, hy, hy2⟩ := at_some (T := U) (o := n_ofPairs 548 (n_pair o c) (n_pair o e)) (by omega)
          refine ⟨[f, x, y], ri_12 ho ha hb hc he hN hx hy hg, fun p hp => ?_⟩
          simp only [List.mem_cons, List.not_mem_nil, or_false] at hp
          rcases hp with rfl | rfl | rfl <;> omega
        · obtain ⟨y, hy, hy2⟩ := at_some (T := U) (o := n_ofPairs 548 (n_pair o a) (n_pair o e)) (by omega)
          refine ⟨[y, f, x], ri_12 ho he ha hb hc (by rw [n_ofPairs_comm]; exact hy) hN hx (by rw [n_ofCircle_s1, n_ofCircle_s2, n_ofCircle_s3]; exact hg), fun p hp => ?_⟩
          simp only [List.mem_cons, List.not_mem_nil, or_false] at hp
          rcases hp with rfl | rfl | rfl <;> omega
    exact hle _ T (fun _ => Nat.le_refl _) hT (fun e he => mem_r.mp he)
  · exact hT
theorem sn_eq {T : al_S} (hn : now ≤ 4) (hnp : np ≤ 7) (hf : isP np f) (h1 : 548 ≤ f) (h2 : f < 758) (h : al_P np now f S0 T) : al_P np now f S0 (al_eq np now f T) := by
  obtain ⟨hp, hq, hN⟩ := dec_pairs hnp (Or.inr (Or.inr rfl)) hf h1 h2
  have hN' : n_ofPairs 548 (some (n_great f)) (some (n_less f)) = some f := by rw [n_ofPairs_comm]; exact hN
  have hS2 := sn_ch hn hnp hq hp (base := 548) (via := 548) (gives := 548) (by omega) hN' (sn_ch hn hnp hp hq (base := 548) (via := 548) (gives := 548) (by omega) hN h)
  unfold al_eq
  dsimp only
  split
  · exact hS2
  · rename_i h0
    obtain ⟨e1, e2, o7, a7, b7'⟩ := eq3 (p := 0) (q := 0) (pr_np hnp hp).2.2.2 (pr_np hnp hq).2.2.2 (ofPairs_ne hN) h0
    obtain ⟨ho, ha⟩ := pair_np hnp o7 a7 e1 hp
    obtain ⟨-, hb⟩ := pair_np hnp o7 b7' e2 hq
    rw [← e1, ← e2] at hN hN'
    refine sn_rounds hn ho hb ha hN' (sn_rounds hn ho ha hb hN ?_)
    refine fold_mem _ _ (fun T c hc hT => ?_) ?_
    · refine sn_one hn hT (fun x g h3 h4 => Or.inl (ri_10 ha ho hb (mem_r.mp hc) ?_ h3 h4))
      rw [n_pair_comm (eq_a f), n_pair_comm (eq_b f)]
      exact hN
    · exact sn_one hn hS2 (fun x g h3 h4 => Or.inr (ri_15 ho ha hb h3 hN h4))
theorem mid_dec {base a b c : Nat} (ha : a < 7) (hb : b < 7) (hc : c < 7) (h : n_ofMiddle base a b c = some f) : base ≤ f ∧ (f - base) / 21 = a ∧ n_pair b c = some ((f - base) % 21) ∧ (f - base) % 21 < 21 ∧ f < base + 147 := by
  have hp : ∃ p, n_pair b c = some p ∧ f = base + a * 21 + p := by
    unfold n_ofMiddle at h
    unfold n_pair
    split at h
    · cases h
    · rename_i h1
      rw [if_neg (by omega)]
      split at h
      · rename_i h2
        rw [if_pos h2]
        exact ⟨_, rfl, (Option.some.inj h).symm⟩
      · rename_i h2
        rw [if_neg h2]
        exact ⟨_, rfl, (Option.some.inj h).symm⟩
  obtain ⟨p, h1, rfl⟩ := hp
  have hp21 := p21 hb hc p h1
  have e : base + a * 21 + p - base = a * 21 + p := by omega
  rw [e]
  have e2 : (a * 21 + p) % 21 = p := by omega
  rw [e2]
  exact ⟨by omega, by omega, h1, hp21, by omega⟩
theorem mid_np {base m a b c : Nat} (hnp : np ≤ 7) (ha : a < np) (hb : b < np) (hc : c < np) (h : n_ofMiddle base a b c = some f) : (f - base) / 21 < np ∧ pr_lo ((f - base) % 21) < np ∧ pr_hi ((f - base) % 21) < np ∧ n_ofMiddle base ((f - base) / 21) (pr_lo ((f - base) % 21)) (pr_hi ((f - base) % 21)) = some f ∧ (f - base) % 21 < nq np := by
  obtain ⟨h1, h2, h3, h4, -⟩ := mid_dec (by omega) (by omega) (by omega) h
  rw [h2]
  refine ⟨ha, ?_⟩
  rcases pair_lohi (by omega) (by omega) h3 with ⟨e1, e2⟩ | ⟨e1, e2⟩
  · rw [e1, e2]
    exact ⟨hb, hc, h, n_pair_lt hb hc h3⟩
  · rw [e1, e2]
    exact ⟨hc, hb, by rw [n_ofMiddle_comm]; exact h, n_pair_lt hb hc h3⟩
theorem isP_kd {k : Nat} (hnp : np ≤ 7) (h : isP np f) (hk : kd f = k) : ∃ a b c d, a < np ∧ b < np ∧ c < np ∧ d < np ∧ n_number k a b c d = some f := by
  obtain ⟨k', a, b, c, d, hk', ha, hb, hc, hd, hN⟩ := h
  have := (nn_kd hk' (by omega) (by omega) (by omega) (by omega) hN).1
  rw [hk] at this
  subst this
  exact ⟨a, b, c, d, ha, hb, hc, hd, hN⟩
theorem sn_joins {T : al_S} {m a b : Nat} (hn : now ≤ 4) (hm : m < np) (ha : a < np) (hb : b < np) (hN : n_ofMiddle 758 m a b = some f) (h : al_P np now f S0 T) : al_P np now f S0 ((List.range' 0 np).foldl (al_joins np now m a b) T) := by
  refine fold_mem _ _ (fun T c hc hT => ?_) h
  refine fold_mem _ _ (fun T n hn' hT => ?_) hT
  exact sn_one hn hT (fun x g h3 h4 => Or.inl (ri_6 hm ha hb (mem_r.mp hn') (mem_r.mp hc) hN h3 h4))
theorem sn_mid {T : al_S} (hn : now ≤ 4) (hnp : np ≤ 7) (hf : isP np f) (h1 : 758 ≤ f) (h2 : f < 905) (h : al_P np now f S0 T) : al_P np now f S0 (al_mid np now (f - 758) T) := by
  obtain ⟨a, b, c, _, ha, hb, hc, _, hN⟩ := isP_kd (k := 4) hnp hf (by unfold kd; rw [if_neg (by omega), if_neg (by omega), if_neg (by omega), if_neg (by omega), if_pos h2])
  obtain ⟨m1, m2, m3, m4, m5⟩ := mid_np (m := 0) (base := 758) hnp ha hb hc hN
  unfold al_mid
  refine fold_mem _ _ (fun T p hp hT => ?_) (sn_joins hn m1 m3 m2 (by rw [n_ofMiddle_comm]; exact m4) (sn_joins hn m1 m2 m3 m4 (sn_self hn (sn_self hn h (fun g hg => ri_3 m1 m2 m3 m4 hg)) (fun g hg => ri_4 m1 m2 m3 m4 hg))))
  exact sn_one hn hT (fun x g h3 h4 => Or.inl (ri_11 m1 m2 m3 (mem_r.mp hp) m4 (by rw [(pr_np hnp m5).2.2.1]; exact h3) h4))
theorem sn_btw {T : al_S} (hn : now ≤ 4) (hnp : np ≤ 7) (hf : isP np f) (h1 : 1033 ≤ f) (h : al_P np now f S0 T) : al_P np now f S0 (al_btw now (f - 1033) T) := by
  obtain ⟨a, b, c, _, ha, hb, hc, _, hN⟩ := isP_kd (k := 6) hnp hf (by unfold kd; rw [if_neg (by omega), if_neg (by omega), if_neg (by omega), if_neg (by omega), if_neg (by omega), if_neg (by omega)])
  obtain ⟨m1, m2, m3, m4, m5⟩ := mid_np (m := 0) (base := 1033) hnp ha hb hc hN
  exact sn_self hn h (fun g hg => ri_5 m1 m2 m3 m4 hg)
def lb_ok (a b c x : Nat) : Bool := (n_ofLine a b c).all fun f => (f / 2 ^ x % 2 == 1) == (x == a || x == b || x == c) && decide (f < 128) && bitsN 7 f == 3
theorem line_bits {a b c x : Nat} (ha : a < 7) (hb : b < 7) (hc : c < 7) (hx : x < 7) (h : n_ofLine a b c = some f) : (f / 2 ^ x % 2 = 1 ↔ x = a ∨ x = b ∨ x = c) ∧ f < 128 ∧ bitsN 7 f = 3 := by
  have t : ∀ a, a < 7 → ∀ b, b < 7 → ∀ c, c < 7 → ∀ x, x < 7 → lb_ok a b c x = true := by decide +kernel
  have t1 := t a ha b hb c hc x hx
  unfold lb_ok at t1
  rw [h] at t1
  simp only [Option.all_some, Bool.and_eq_true, decide_eq_true_eq, beq_iff_eq] at t1
  refine ⟨?_, t1.1.2, t1.2⟩
  have t2 := t1.1.1
  rw [Bool.eq_iff_iff] at t2
  simpa [or_assoc] using t2
theorem line_np {a b c : Nat} (hnp : np ≤ 7) (hf : isP np f) (ha : a < 7) (hb : b < 7) (hc : c < 7) (h : n_ofLine a b c = some f) : a < np ∧ b < np ∧ c < np := by
  have hk : kd f = 0 := (nn_kd (k := 0) (d := 0) (by decide) ha hb hc (by decide) h).1
  obtain ⟨a', b', c', _, ha', hb', hc', _, hN⟩ := isP_kd hnp hf hk
  have g : ∀ x, x < 7 → (x = a ∨ x = b ∨ x = c) → x < np := by
    intro x hx e
    have h1 := (line_bits ha hb hc hx h).1.mpr e
    have h2 := (line_bits (by omega) (by omega) (by omega) hx hN).1.mp h1
    omega
  exact ⟨g a ha (Or.inl rfl), g b hb (Or.inr (Or.inl rfl)), g c hc (Or.inr (Or.inr rfl))⟩
def ln_ok (m e c : Nat) : Bool := !(bitsN 7 m == 3) || (if m / 2 ^ e % 2 == 1 then n_ofLine e (ln_a m e) (ln_b m e) == some m && decide (ln_a m e < 7 ∧ ln_b m e < 7) else shN m c == m || (List.range 7).any fun a => (List.range 7).any fun b => n_ofLine a b c == some m && n_ofLine a b e == some (shN m c ||| 2 ^ e) && n_ofLine a c e == some ((m ^^^ lowN (shN m c)) ||| 2 ^ e) && n_ofLine b c e == some ((m ^^^ shN m c ^^^ lowN (shN m c)) ||| 2 ^ e))
theorem ln_all {m e c : Nat} (hm : m < 128) (h3 : bitsN 7 m = 3) (he : e < 7) (hc : c < 7) : ln_ok m e c = true := by
  have t : ∀ m, m < 128 → ∀ e, e < 7 → ∀ c, c < 7 → ln_ok m e c = true := by decide +kernel
  exact t m hm e he c hc
theorem sn_line {T : al_S} (hn : now ≤ 4) (hnp : np ≤ 7) (hf : isP np f) (h1 : f < 128) (h : al_P np now f S0 T) : al_P np now f S0 ((List.range' 0 np).foldl (al_line np now f) T) := by
  obtain ⟨a0, b0, c0, _, ha0, hb0, hc0, _, hN⟩ := isP_kd (k := 0) hnp hf (by unfold kd; rw [if_pos h1])
  have h3 : bitsN 7 f = 3 := (line_bits (x := 0) (by omega) (by omega) (by omega) (by omega) hN).2.2
  refine fold_mem _ _ (fun T e he hT => ?_) h
  have he := mem_r.mp he
  unfold al_line
  split
  · rename_i hbit
    refine fold_mem _ _ (fun T c hc hT => ?_) hT
    have hc := mem_r.mp hc
    unfold al_len
    split
    · exact hT
    · rename_i hsh
      have t := ln_all (m := f) (e := e) (c := c) h1 h3 (by omega) (by omega)
      unfold ln_ok at t
      rw [h3, hbit] at t
      simp only [beq_self_eq_true, Bool.not_true, Bool.false_or, Nat.reduceBEq, Bool.false_eq_true, if_false, Bool.or_eq_true, beq_iff_eq, hsh, false_or, List.any_eq_true, List.mem_range, Bool.and_eq_true] at t
      obtain ⟨a, ha, b, hb, ⟨⟨t1, t2⟩, t3⟩, t4⟩ := t
      obtain ⟨q1, q2, -⟩ := line_np hnp hf ha hb (by omega) t1
      refine sn_two hn hT (fun x g e1 e2 => ?_)
      rw [← t2] at e1
      rw [← t3, ← t4] at e2
      rcases e2 with e2 | e2
      · exact Or.inl (ri_9 q1 q2 hc he t1 e1 e2)
      · exact Or.inl (ri_9 q2 q1 hc he (by rw [n_ofLine_s1]; exact t1) (by rw [n_ofLine_s1]; exact e1) e2)
  · rename_i hbit
    have hbit : f / 2 ^ e % 2 = 1 := by omega
    have t := ln_all (m := f) (e := e) (c := 0) h1 h3 (by omega) (by omega)
    unfold ln_ok at t
    rw [h3, hbit] at t
    simp only [beq_self_eq_true, Bool.not_true, Bool.false_or, if_true, Bool.and_eq_true, beq_iff_eq, decide_eq_true_eq] at t
    obtain ⟨t1, t2, t3⟩ := t
    obtain ⟨-, q1, q2⟩ := line_np hnp hf (show e < 7 by omega) t2 t3 t1
    have t1' : n_ofLine (ln_a f e) (ln_b f e) e = some f := by rw [n_ofLine_s2, n_ofLine_s1]; exact t1
    have hso : ∀ base T, (base = 128 ∨ base = 338) → al_P np now f S0 T → al_P np now f S0 ((List.range' 0 (np * (np - 1) / 2)).foldl (al_slideOver now base (ln_a f e) (ln_b f e) e) T) := by
      intro base T hb hT
      refine fold_mem _ _ (fun T q hq hT => ?_) hT
      exact sn_two hn hT (fun x g e1 e2 => (rs2 hnp hb q1 q2 he (mem_r.mp hq) e1 t1' e2).symm)
    exact hso _ _ (Or.inr rfl) (hso _ _ (Or.inl rfl) (sn_one hn hT (fun x g e1 e2 => Or.inl (ri_15 he q1 q2 t1 e1 e2))))
def cb_ok (a b c d x : Nat) : Bool := (n_ofCircle a b c d).all fun f => decide (905 ≤ f) && (((f - 905) / 2 ^ x % 2 == 1) == (x == a || x == b || x == c || x == d)) && decide (f < 1033) && bitsN 7 (f - 905) == 4
theorem circ_bits {a b c d x : Nat} (ha : a < 7) (hb : b < 7) (hc : c < 7) (hd : d < 7) (hx : x < 7) (h : n_ofCircle a b c d = some f) : ((f - 905) / 2 ^ x % 2 = 1 ↔ x = a ∨ x = b ∨ x = c ∨ x = d) ∧ 905 ≤ f ∧ f < 1033 ∧ bitsN 7 (f - 905) = 4 := by
  have t : ∀ a, a < 7 → ∀ b, b < 7 → ∀ c, c < 7 → ∀ d, d < 7 → ∀ x, x < 7 → cb_ok a b c d x = true := by decide +kernel
  have t1 := t a ha b hb c hc d hd x hx
  unfold cb_ok at t1
  rw [h] at t1
  simp only [Option.all_some, Bool.and_eq_true, decide_eq_true_eq, beq_iff_eq] at t1
  refine ⟨?_, t1.1.1.1, t1.1.2, t1.2⟩
  have t2 := t1.1.1.2
  rw [Bool.eq_iff_iff] at t2
  simpa [or_assoc] using t2
theorem circ_np {a b c d : Nat} (hnp : np ≤ 7) (hf : isP np f) (ha : a < 7) (hb : b < 7) (hc : c < 7) (hd : d < 7) (h : n_ofCircle a b c d = some f) : a < np ∧ b < np ∧ c < np ∧ d < np := by
  have hk : kd f = 5 := (nn_kd (k := 5) (by decide) ha hb hc hd h).1
  obtain ⟨a', b', c', d', ha', hb', hc', hd', hN⟩ := isP_kd hnp hf hk
  have g : ∀ x, x < 7 → (x = a ∨ x = b ∨ x = c ∨ x = d) → x < np := by
    intro x hx e
    have h1 := (circ_bits ha hb hc hd hx h).1.mpr e
    have h2 := (circ_bits (by omega) (by omega) (by omega) (by omega) hx hN).1.mp h1
    omega
  exact ⟨g a ha (by omega), g b hb (by omega), g c hc (by omega), g d hd (by omega)⟩
def cc_ok (m e b c : Nat) : Bool := !(bitsN 7 m == 4) || (m / 2 ^ e % 2 == 1) || shN m b == m || !(shN m b / 2 ^ c % 2 == 1) || ((List.range 7).any fun x => (List.range 7).any fun y => n_ofCircle x y c b == some (905 + m) && n_ofCircle x y c e == some (905 + (shN m b ||| 2 ^ e)) && n_ofCircle x y b e == some (905 + ((m ||| 2 ^ e) ^^^ 2 ^ c)))
theorem cc_all {m e b c : Nat} (hm : m < 128) (he : e < 7) (hb : b < 7) (hc : c < 7) : cc_ok m e b c = true := by
  have t : ∀ m, m < 128 → ∀ e, e < 7 → ∀ b, b < 7 → ∀ c, c < 7 → cc_ok m e b c = true := by decide +kernel
  exact t m hm e he b hb c hc
theorem sn_circ {T : al_S} (hn : now ≤ 4) (hnp : np ≤ 7) (hf : isP np f) (h1 : 905 ≤ f) (h2 : f < 1033) (h : al_P np now f S0 T) : al_P np now f S0 ((List.range' 0 np).foldl (al_c1 np now (f - 905)) T) := by
  obtain ⟨a0, b0, c0, d0, ha0, hb0, hc0, hd0, hN⟩ := isP_kd (k := 5) hnp hf (by unfold kd; rw [if_neg (by omega), if_neg (by omega), if_neg (by omega), if_neg (by omega), if_neg (by omega), if_pos h2])
  have h4 : bitsN 7 (f - 905) = 4 := (circ_bits (x := 0) (by omega) (by omega) (by omega) (by omega) (by omega) hN).2.2.2
  refine fold_mem _ _ (fun T e he hT => ?_) h
  have he := mem_r.mp he
  unfold al_c1
  split
  · exact hT
  · rename_i hbit
    refine fold_mem _ _ (fun T b hb hT => ?_) hT
    have hb := mem_r.mp hb
    unfold al_c2
    split
    · exact hT
    · rename_i hsh
      split
      · have hle : ∀ (l : List Nat) (U : al_S), (∀ g, U.1 g ≤ T.1 g) → al_P np now f S0 U → (∀ e ∈ l, e < np) → al_P np now f S0 (l.foldl (al_c3 now (f - 905) e (shN (f - 905) b) (al_at T (some (905 + (shN (f - 905) b ||| 2 ^ e))))) U) := by
          intro l
          induction l with
          | nil => intro U _ q _; exact q
          | cons c l ih =>
            intro U hU hP hl
            rw [List.foldl_cons]
            have hc := hl c List.mem_cons_self
            unfold al_c3
            split
            · rename_i hcb
              refine ih _ (fun g => Nat.le_trans (al_try_le g) (hU g)) ?_ (fun y hy => hl y (List.mem_cons_of_mem _ hy))
              have t := cc_all (m := f - 905) (e := e) (b := b) (c := c) (by omega) (by omega) (by omega) (by omega)
              unfold cc_ok at t
              rw [h4, hcb] at t
              have hbit' : ((f - 905) / 2 ^ e % 2 == 1) = false := by simpa using hbit
              have e905 : 905 + (f - 905) = f := by omega
              rw [hbit', e905] at t
              simp only [beq_self_eq_true, Bool.not_true, Bool.false_or, Bool.or_eq_true, beq_iff_eq, hsh, false_or, List.any_eq_true, List.mem_range, Bool.and_eq_true, Bool.or_false] at t
              obtain ⟨x, hx, y, hy, ⟨t1, t2⟩, t3⟩ := t
              obtain ⟨q1, q2, -⟩ := circ_np hnp hf hx hy (by omega) (by omega) t1
              refine sn_oneL hn hU hP (fun x' g e1 e2 => ?_)
              rw [← t2] at e1
              rw [← t3] at e2
              exact Or.inl (ri_13 q1 q2 hc hb he t1 e1 e2)
            · exact ih _ hU hP (fun y hy => hl y (List.mem_cons_of_mem _ hy))
        exact hle _ T (fun _ => Nat.le_refl _) hT (fun e he => mem_r.mp he)
      · exact hT
set_option maxRecDepth 8000 in
/-- the use of a fact is sound -/
theorem sn_use {S : al_S} (hn : now ≤ 4) (hnp : np ≤ 7) (h0 : ∀ g, S0 g → isP np g) (hs : S.1 f = now) (h : al_snd np S0 S) : al_snd np S0 (al_use np now f S) := by
  have hf : isP np f := rt_lv_isP h0 (h f (by omega))
  have hP : al_P np now f S0 S := ⟨h, by omega⟩
  unfold al_use
  split
  · exact (sn_line hn hnp hf (by omega) hP).1
  split
  · exact (sn_par hn hnp hf (by omega) (by omega) hP).1
  split
  · exact (sn_perp (T := S) hn hnp hf (show 338 ≤ f by omega) (show f < 548 by omega) hP).1
  split
  · exact (sn_eq (T := S) hn hnp hf (show 548 ≤ f by omega) (show f < 758 by omega) hP).1
  split
  · exact (sn_mid (T := S) hn hnp hf (show 758 ≤ f by omega) (show f < 905 by omega) hP).1
  split
  · exact (sn_circ (T := S) hn hnp hf (show 905 ≤ f by omega) (show f < 1033 by omega) hP).1
  · exact (sn_btw (T := S) hn hnp hf (show 1033 ≤ f by omega) hP).1
end SO
