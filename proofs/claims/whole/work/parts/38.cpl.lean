section CQ
variable {np now f : Nat} {S : al_S} {c M : Nat}
theorem le_line {T : al_S} {e : Nat} : al_le (al_line np now f T e) T := by
  unfold al_line
  split
  · refine le_fold _ _ (fun b _ T => ?_)
    unfold al_len
    split
    · exact le_rf
    · exact le_two
  · exact le_tr (le_fold _ _ (fun _ _ _ => le_two)) (le_tr (le_fold _ _ (fun _ _ _ => le_two)) le_try)
def l9_ok (a b e d : Nat) : Bool := (n_ofLine a b e).all fun f => (n_ofLine a b d).all fun x => (n_ofLine a e d).all fun c => f / 2 ^ d % 2 == 0 && !(shN f e == f) && (shN f e ||| 2 ^ d) == x && (((f ^^^ lowN (shN f e)) ||| 2 ^ d) == c || ((f ^^^ shN f e ^^^ lowN (shN f e)) ||| 2 ^ d) == c)
theorem cp_9 {a b e d x : Nat} (hn : now ≤ M) (hM : M < 5) (hnp : np ≤ 7) (ha : a < np) (hb : b < np) (he : e < np) (hd : d < np) (h1 : n_ofLine a b e = some f) (h2 : n_ofLine a b d = some x) (hx : S.1 x ≤ M) (h3 : n_ofLine a e d = some c) : (al_use np now f S).1 c ≤ M + 1 := by
  have t : ∀ a, a < 7 → ∀ b, b < 7 → ∀ e, e < 7 → ∀ d, d < 7 → l9_ok a b e d = true := by decide +kernel
  have t1 := t a (by omega) b (by omega) e (by omega) d (by omega)
  unfold l9_ok at t1
  rw [h1, h2, h3] at t1
  simp only [Option.all_some, Bool.and_eq_true, beq_iff_eq, Bool.not_eq_true', beq_eq_false_iff_ne, Bool.or_eq_true] at t1
  obtain ⟨⟨⟨t1, t2⟩, t3⟩, t4⟩ := t1
  have hf := (line_bits (x := 0) (by omega) (by omega) (by omega) (by omega) h1).2.1
  rw [use_line hf]
  refine hit_fold _ _ (fun _ _ _ => le_line) (mem_r.mpr hd) (fun T hT => ?_)
  unfold al_line
  rw [if_pos t1]
  refine hit_fold _ _ (fun b _ T => ?_) (mem_r.mpr he) (fun U hU => ?_)
  · unfold al_len
    split
    · exact le_rf
    · exact le_two
  · unfold al_len
    rw [if_neg t2]
    refine hit_two hn hM (le_tr hU hT) (x := x) (by rw [t3]) hx ?_
    rcases t4 with t4 | t4
    · exact Or.inl (by rw [t4])
    · exact Or.inr (by rw [t4])
def la_ok (a b e : Nat) : Bool := (n_ofLine a b e).all fun f => f / 2 ^ e % 2 == 1 && ((ln_a f e == a && ln_b f e == b) || (ln_a f e == b && ln_b f e == a))
theorem la {a b e : Nat} (ha : a < 7) (hb : b < 7) (he : e < 7) (h1 : n_ofLine a b e = some f) : f < 128 ∧ ¬ f / 2 ^ e % 2 = 0 ∧ ((ln_a f e = a ∧ ln_b f e = b) ∨ (ln_a f e = b ∧ ln_b f e = a)) := by
  have t : ∀ a, a < 7 → ∀ b, b < 7 → ∀ e, e < 7 → la_ok a b e = true := by decide +kernel
  have t1 := t a ha b hb e he
  unfold la_ok at t1
  rw [h1] at t1
  simp only [Option.all_some, Bool.and_eq_true, beq_iff_eq, Bool.or_eq_true] at t1
  exact ⟨(line_bits (x := 0) ha hb he (by omega) h1).2.1, by omega, t1.2⟩
/-- COL a b e in use, a and b a pair of another fact -/
theorem cp_so {a b e q base x : Nat} (hn : now ≤ M) (hM : M < 5) (hnp : np ≤ 7) (hb : base = 128 ∨ base = 338) (ha : a < np) (hb' : b < np) (he : e < np) (hq : q < nq np) (h1 : n_ofPairs base (n_pair a b) (some q) = some x) (hx : S.1 x ≤ M) (h2 : n_ofLine a b e = some f) (h3 : n_ofPairs base (n_pair a e) (some q) = some c) : (al_use np now f S).1 c ≤ M + 1 := by
  obtain ⟨f1, f2, f3⟩ := la (by omega) (by omega) (by omega) h2
  rw [use_line f1]
  refine hit_fold _ _ (fun _ _ _ => le_line) (mem_r.mpr he) (fun T hT => ?_)
  unfold al_line
  rw [if_neg f2]
  have key : ∀ U, al_le U S → ((List.range' 0 (np * (np - 1) / 2)).foldl (al_slideOver now base (ln_a f e) (ln_b f e) e) U).1 c ≤ M + 1 := by
    intro U hU
    refine hit_fold _ _ (fun _ _ _ => le_two) (mem_r.mpr hq) (fun V hV => ?_)
    rcases f3 with ⟨e1, e2⟩ | ⟨e1, e2⟩
    · exact hit_two hn hM (le_tr hV hU) (x := x) (by rw [e1, e2]; exact h1) hx (Or.inl (by rw [e1]; exact h3))
    · exact hit_two hn hM (le_tr hV hU) (x := x) (by rw [e1, e2, n_pair_comm]; exact h1) hx (Or.inr (by rw [e2]; exact h3))
  rcases hb with rfl | rfl
  · exact Nat.le_trans (le_fold _ _ (fun _ _ _ => le_two) c) (key _ (le_tr le_try hT))
  · exact key _ (le_tr (le_fold _ _ (fun _ _ _ => le_two)) (le_tr le_try hT))
theorem cp_15a {a b e x : Nat} (hn : now ≤ M) (hM : M < 5) (hnp : np ≤ 7) (ha : a < np) (hb : b < np) (he : e < np) (h1 : n_ofLine a b e = some f) (h2 : n_ofPairs 548 (n_pair a b) (n_pair a e) = some x) (hx : S.1 x ≤ M) (h3 : n_ofMiddle 758 a b e = some c) : (al_use np now f S).1 c ≤ M + 1 := by
  obtain ⟨f1, f2, f3⟩ := la (a := b) (b := e) (e := a) (by omega) (by omega) (by omega) (by rw [n_ofLine_s2, n_ofLine_s1]; exact h1)
  rw [use_line f1]
  refine hit_fold _ _ (fun _ _ _ => le_line) (mem_r.mpr ha) (fun T hT => ?_)
  unfold al_line
  rw [if_neg f2]
  refine Nat.le_trans (le_fold _ _ (fun _ _ _ => le_two) c) (Nat.le_trans (le_fold _ _ (fun _ _ _ => le_two) c) ?_)
  rcases f3 with ⟨e1, e2⟩ | ⟨e1, e2⟩
  · exact hit_one hn hM hT (x := x) (by rw [e1, e2]; exact h2) hx (by rw [e1, e2]; exact h3)
  · exact hit_one hn hM hT (x := x) (by rw [e1, e2, n_ofPairs_comm]; exact h2) hx (by rw [e1, e2, n_ofMiddle_comm]; exact h3)
/-! equal pairs with a point of both -/
def es_ok (o a b : Nat) : Bool := (n_pair o a).all fun p => (n_pair o b).all fun q => p == q || (maskN p &&& maskN q != 0 && ntzN (maskN p &&& maskN q) == o && ntzN (maskN p ^^^ (maskN p &&& maskN q)) == a && ntzN (maskN q ^^^ (maskN p &&& maskN q)) == b)
theorem es {o a b : Nat} (ho : o < 7) (ha : a < 7) (hb : b < 7) (h : n_ofPairs 548 (n_pair o a) (n_pair o b) = some f) : 548 ≤ f ∧ f < 758 ∧ ¬ eq_s f = 0 ∧ eq_o f = o ∧ ((eq_a f = a ∧ eq_b f = b) ∨ (eq_a f = b ∧ eq_b f = a)) := by
  obtain ⟨p, q, ep, eq⟩ := ofPairs_some h
  rw [ep, eq] at h
  obtain ⟨f1, f2, hpq⟩ := pq_dec (Or.inr (Or.inr rfl)) (p21 ho ha p ep) (p21 ho hb q eq) h
  have t : ∀ o, o < 7 → ∀ a, a < 7 → ∀ b, b < 7 → es_ok o a b = true := by decide +kernel
  have t1 := t o ho a ha b hb
  unfold es_ok at t1
  rw [ep, eq] at t1
  simp only [Option.all_some, Bool.and_eq_true, beq_iff_eq, Bool.or_eq_true, bne_iff_ne] at t1
  rcases t1 with t1 | ⟨⟨⟨t1, t2⟩, t3⟩, t4⟩
  · exact absurd t1 (ofPairs_ne h)
  refine ⟨f1, by omega, ?_⟩
  unfold eq_a eq_b eq_o eq_s
  rcases hpq with ⟨e1, e2⟩ | ⟨e1, e2⟩
  · rw [e1, e2]
    exact ⟨t1, t2, Or.inl ⟨t3, t4⟩⟩
  · rw [e1, e2, Nat.and_comm]
    exact ⟨t1, t2, Or.inr ⟨t4, t3⟩⟩
theorem cp_15b {a b e x : Nat} (hn : now ≤ M) (hM : M < 5) (ha : a < 7) (hb : b < 7) (he : e < 7) (h1 : n_ofLine a b e = some x) (hx : S.1 x ≤ M) (h2 : n_ofPairs 548 (n_pair a b) (n_pair a e) = some f) (h3 : n_ofMiddle 758 a b e = some c) : (al_use np now f S).1 c ≤ M + 1 := by
  obtain ⟨f1, f2, f3, f4, f5⟩ := es ha hb he h2
  rw [use_eq f1 f2]
  refine hit_eq2 f3 (F := fun T => al_try T now (al_at T (n_ofLine (eq_o f) (eq_a f) (eq_b f))) (n_ofMiddle 758 (eq_o f) (eq_a f) (eq_b f))) (by unfold eq_l; simp only [List.mem_cons, true_or, or_true]) (fun T hT => ?_)
  rcases f5 with ⟨e1, e2⟩ | ⟨e1, e2⟩
  · exact hit_one hn hM hT (x := x) (by rw [f4, e1, e2]; exact h1) hx (by rw [f4, e1, e2]; exact h3)
  · exact hit_one hn hM hT (x := x) (by rw [f4, e1, e2, n_ofLine_s2]; exact h1) hx (by rw [f4, e1, e2, n_ofMiddle_comm]; exact h3)
theorem cp_10 {a b e d x : Nat} (hn : now ≤ M) (hM : M < 5) (hnp : np ≤ 7) (ha : a < np) (hb : b < np) (he : e < np) (hd : d < np) (h1 : n_ofPairs 548 (n_pair a b) (n_pair e b) = some f) (h2 : n_ofPairs 548 (n_pair a d) (n_pair e d) = some x) (hx : S.1 x ≤ M) (h3 : n_ofPairs 338 (n_pair a e) (n_pair b d) = some c) : (al_use np now f S).1 c ≤ M + 1 := by
  obtain ⟨f1, f2, f3, f4, f5⟩ := es (o := b) (a := a) (b := e) (by omega) (by omega) (by omega) (by rw [n_pair_comm b, n_pair_comm b]; exact h1)
  rw [use_eq f1 f2]
  refine hit_eq2 f3 (F := (List.range' 0 np).foldl (al_upright now (eq_o f) (eq_a f) (eq_b f))) (by unfold eq_l; simp only [List.mem_cons, true_or, or_true]) (fun T hT => ?_)
  refine hit_fold _ _ (fun _ _ _ => le_try) (mem_r.mpr hd) (fun U hU => ?_)
  rcases f5 with ⟨e1, e2⟩ | ⟨e1, e2⟩
  · exact hit_one hn hM (le_tr hU hT) (x := x) (by rw [e1, e2]; exact h2) hx (by rw [f4, e1, e2]; exact h3)
  · exact hit_one hn hM (le_tr hU hT) (x := x) (by rw [e1, e2, n_ofPairs_comm]; exact h2) hx (by rw [f4, e1, e2, n_pair_comm]; exact h3)
/-- EQ oa ob in use, beside it ob oc, and oc od or oa od -/
theorem cp_12 {o a b e d x y : Nat} (hn : now ≤ M) (hM : M < 5) (hnp : np ≤ 7) (ho : o < np) (ha : a < np) (hb : b < np) (he : e < np) (hd : d < np) (h1 : n_ofPairs 548 (n_pair o a) (n_pair o b) = some f) (h2 : n_ofPairs 548 (n_pair o b) (n_pair o e) = some x) (hx : S.1 x ≤ M) (h4 : n_ofPairs 548 (n_pair o e) (n_pair o d) = some y ∨ n_ofPairs 548 (n_pair o a) (n_pair o d) = some y) (hy : S.1 y ≤ M) (h3 : n_ofCircle a b e d = some c) : (al_use np now f S).1 c ≤ M + 1 := by
  obtain ⟨f1, f2, f3, f4, f5⟩ := es (by omega) (by omega) (by omega) h1
  rw [use_eq f1 f2]
  have key : ∀ T, al_le T S → ((List.range' 0 np).foldl (al_rounds np now o a b) T).1 c ≤ M + 1 := by
    intro T hT
    refine hit_fold _ _ (fun _ _ _ => le_rounds) (mem_r.mpr he) (fun U hU => ?_)
    have hUS := le_tr hU hT
    unfold al_rounds
    have hsec : al_at U (some x) ≤ M := Nat.le_trans (hUS x) hx
    rw [h2, if_pos (by omega)]
    refine hit_fold _ _ (fun _ _ _ => le_try) (mem_r.mpr hd) (fun V hV => ?_)
    have hVS := le_tr hV hUS
    have hyV : V.1 y ≤ M := Nat.le_trans (hVS y) hy
    unfold al_round
    rw [h3]
    refine hit_try hn ?_ hM
    rcases h4 with h4 | h4
    · rw [h4]
      have : al_at V (some y) = V.1 y := rfl
      omega
    · rw [h4]
      have : al_at V (some y) = V.1 y := rfl
      omega
  rcases f5 with ⟨e1, e2⟩ | ⟨e1, e2⟩
  · refine hit_eq2 f3 (F := (List.range' 0 np).foldl (al_rounds np now o a b)) ?_ key
    unfold eq_l
    rw [f4, e1, e2]
    simp only [List.mem_cons, true_or, or_true]
  · refine hit_eq2 f3 (F := (List.range' 0 np).foldl (al_rounds np now o a b)) ?_ key
    unfold eq_l
    rw [f4, e1, e2]
    simp only [List.mem_cons, true_or, or_true]
theorem le_c1 {m e : Nat} {T : al_S} : al_le (al_c1 np now m T e) T := by
  unfold al_c1
  split
  · exact le_rf
  · refine le_fold _ _ (fun b _ T => ?_)
    unfold al_c2
    split
    · exact le_rf
    · split
      · refine le_fold _ _ (fun b _ T => ?_)
        unfold al_c3
        split
        · exact le_try
        · exact le_rf
      · exact le_rf
def l13_ok (a b e d g : Nat) : Bool := (n_ofCircle a b e d).all fun f => (n_ofCircle a b e g).all fun x => (n_ofCircle a b d g).all fun c => !((f - 905) / 2 ^ g % 2 == 1) && !(shN (f - 905) d == f - 905) && 905 + (shN (f - 905) d ||| 2 ^ g) == x && shN (f - 905) d / 2 ^ e % 2 == 1 && 905 + (((f - 905) ||| 2 ^ g) ^^^ 2 ^ e) == c
theorem cp_13 {a b e d g x : Nat} (hn : now ≤ M) (hM : M < 5) (hnp : np ≤ 7) (ha : a < np) (hb : b < np) (he : e < np) (hd : d < np) (hg : g < np) (h1 : n_ofCircle a b e d = some f) (h2 : n_ofCircle a b e g = some x) (hx : S.1 x ≤ M) (h3 : n_ofCircle a b d g = some c) : (al_use np now f S).1 c ≤ M + 1 := by
  have t : ∀ a, a < 7 → ∀ b, b < 7 → ∀ e, e < 7 → ∀ d, d < 7 → ∀ g, g < 7 → l13_ok a b e d g = true := by decide +kernel
  have t1 := t a (by omega) b (by omega) e (by omega) d (by omega) g (by omega)
  unfold l13_ok at t1
  rw [h1, h2, h3] at t1
  simp only [Option.all_some, Bool.and_eq_true, beq_iff_eq, Bool.not_eq_true', beq_eq_false_iff_ne] at t1
  obtain ⟨⟨⟨⟨t1, t2⟩, t3⟩, t4⟩, t5⟩ := t1
  obtain ⟨-, f1, f2, -⟩ := circ_bits (x := 0) (by omega) (by omega) (by omega) (by omega) (by omega) h1
  rw [use_circ f1 f2]
  refine hit_fold _ _ (fun _ _ _ => le_c1) (mem_r.mpr hg) (fun T hT => ?_)
  unfold al_c1
  rw [if_neg t1]
  refine hit_fold _ _ (fun b _ T => ?_) (mem_r.mpr hd) (fun U hU => ?_)
  · unfold al_c2
    split
    · exact le_rf
    · split
      · refine le_fold _ _ (fun b _ T => ?_)
        unfold al_c3
        split
        · exact le_try
        · exact le_rf
      · exact le_rf
  · have hUS := le_tr hU hT
    unfold al_c2
    have ho : al_at U (some x) ≤ M := Nat.le_trans (hUS x) hx
    rw [if_neg t2, t3, if_pos (by omega)]
    refine hit_fold _ _ (fun b _ T => ?_) (mem_r.mpr he) (fun V hV => ?_)
    · unfold al_c3
      split
      · exact le_try
      · exact le_rf
    · unfold al_c3
      rw [if_pos t4, t5]
      exact hit_try hn ho hM
end CQ
section CR
variable {np now f : Nat} {S : al_S} {c M : Nat}
theorem pr21 {np a b p : Nat} (hnp : np ≤ 7) (ha : a < np) (hb : b < np) (h : n_pair a b = some p) : p < nq np ∧ p < 21 := ⟨n_pair_lt ha hb h, p21 (by omega) (by omega) p h⟩
/-- chains, by the letters of a rule: the first premise in use, or the second -/
theorem cp_A {a b k d e g via base gives x : Nat} (hn : now ≤ M) (hM : M < 5) (hnp : np ≤ 7) (ha : a < np) (hb' : b < np) (hk : k < np) (hd : d < np) (he : e < np) (hg : g < np) (hb : (base = 128 ∧ via = 128 ∧ gives = 128) ∨ (base = 338 ∧ via = 338 ∧ gives = 128) ∨ (base = 338 ∧ via = 128 ∧ gives = 338) ∨ (base = 128 ∧ via = 338 ∧ gives = 338) ∨ (base = 548 ∧ via = 548 ∧ gives = 548))
    (h1 : n_ofPairs base (n_pair a b) (n_pair k d) = some f) (h2 : n_ofPairs via (n_pair k d) (n_pair e g) = some x) (hx : S.1 x ≤ M) (h3 : n_ofPairs gives (n_pair a b) (n_pair e g) = some c) : (al_use np now f S).1 c ≤ M + 1 := by
  obtain ⟨p, q, ep, eq⟩ := ofPairs_some h1
  obtain ⟨_, r, -, er⟩ := ofPairs_some h2
  rw [ep, eq] at h1
  rw [eq, er] at h2
  rw [ep, er] at h3
  exact cp_ch hn hM (pr21 hnp ha hb' ep).2 (pr21 hnp hk hd eq).2 (pr21 hnp he hg er).1 hb h1 h2 hx h3
theorem cp_B {a b k d e g via base gives x : Nat} (hn : now ≤ M) (hM : M < 5) (hnp : np ≤ 7) (ha : a < np) (hb' : b < np) (hk : k < np) (hd : d < np) (he : e < np) (hg : g < np) (hb : (base = 128 ∧ via = 128 ∧ gives = 128) ∨ (base = 338 ∧ via = 338 ∧ gives = 128) ∨ (base = 338 ∧ via = 128 ∧ gives = 338) ∨ (base = 128 ∧ via = 338 ∧ gives = 338) ∨ (base = 548 ∧ via = 548 ∧ gives = 548))
    (h1 : n_ofPairs via (n_pair a b) (n_pair k d) = some x) (h2 : n_ofPairs base (n_pair k d) (n_pair e g) = some f) (hx : S.1 x ≤ M) (h3 : n_ofPairs gives (n_pair a b) (n_pair e g) = some c) : (al_use np now f S).1 c ≤ M + 1 :=
  cp_A hn hM hnp he hg hk hd ha hb' hb (by rw [n_ofPairs_comm]; exact h2) (by rw [n_ofPairs_comm]; exact h1) hx (by rw [n_ofPairs_comm]; exact h3)
theorem mem1 {p : Nat} (h : f ∈ [p]) : f = p := List.mem_singleton.mp h
theorem mem2 {p q : Nat} (h : f ∈ [p, q]) : f = p ∨ f = q := by simpa using h
theorem mem3 {p q r : Nat} (h : f ∈ [p, q, r]) : f = p ∨ f = q ∨ f = r := by simpa using h
theorem rr (r : Nat) (q : List rt_T × rt_T) (h : rt_rules[r]? = some q) : r < 17 := by
  have := (List.getElem?_eq_some_iff.mp h).1
  exact this
set_option maxHeartbeats 2000000 in
/-- whatever follows from the fact in use and others is offered -/
theorem cp_use (hnp : np ≤ 7) (hn : S.1 f = now) {ps : List Nat} (hi : rt_inst np ps c) (hf : f ∈ ps) (hM : M < 5) (hp : ∀ p ∈ ps, S.1 p ≤ M) : (al_use np now f S).1 c ≤ M + 1 := by
  obtain ⟨r, q, s, hr, hs, hm, hc⟩ := hi
  have hnM : now ≤ M := by rw [← hn]; exact hp f hf
  have s0 := hs 0 (by omega)
  have s1 := hs 1 (by omega)
  have s2 := hs 2 (by omega)
  have s3 := hs 3 (by omega)
  have s4 := hs 4 (by omega)
  have s5 := hs 5 (by omega)
  have z0 : s 0 < 7 := by omega
  have z1 : s 1 < 7 := by omega
  have z2 : s 2 < 7 := by omega
  have z3 : s 3 < 7 := by omega
  have z4 : s 4 < 7 := by omega
  have hr17 := rr r q hr
  rcases (show r = 0 ∨ r = 1 ∨ r = 2 ∨ r = 3 ∨ r = 4 ∨ r = 5 ∨ r = 6 ∨ r = 7 ∨ r = 8 ∨ r = 9 ∨ r = 10 ∨ r = 11 ∨ r = 12 ∨ r = 13 ∨ r = 14 ∨ r = 15 ∨ r = 16 by omega) with rfl | rfl | rfl | rfl | rfl | rfl | rfl | rfl | rfl | rfl | rfl | rfl | rfl | rfl | rfl | rfl | rfl
  all_goals (have e := Option.some.inj hr; subst e)
  · obtain ⟨f1, f2, rfl, e1, e2⟩ := map2 hm
    have p1 := hp f1 (by simp)
    have p2 := hp f2 (by simp)
    rcases mem2 hf with rfl | rfl
    · exact cp_A hnM hM hnp s0 s1 s2 s3 s4 s5 (base := 128) (via := 128) (gives := 128) (by omega) e1 e2 p2 hc
    · exact cp_B hnM hM hnp s0 s1 s2 s3 s4 s5 (base := 128) (via := 128) (gives := 128) (by omega) e1 e2 p1 hc
  · obtain ⟨f1, f2, rfl, e1, e2⟩ := map2 hm
    have p1 := hp f1 (by simp)
    have p2 := hp f2 (by simp)
    rcases mem2 hf with rfl | rfl
    · exact cp_A hnM hM hnp s0 s1 s2 s3 s4 s5 (base := 338) (via := 338) (gives := 128) (by omega) e1 e2 p2 hc
    · exact cp_B hnM hM hnp s0 s1 s2 s3 s4 s5 (base := 338) (via := 338) (gives := 128) (by omega) e1 e2 p1 hc
  · obtain ⟨f1, f2, rfl, e1, e2⟩ := map2 hm
    have p1 := hp f1 (by simp)
    have p2 := hp f2 (by simp)
    rcases mem2 hf with rfl | rfl
    · exact cp_A hnM hM hnp s0 s1 s2 s3 s4 s5 (base := 338) (via := 128) (gives := 338) (by omega) e1 e2 p2 hc
    · exact cp_B hnM hM hnp s0 s1 s2 s3 s4 s5 (base := 128) (via := 338) (gives := 338) (by omega) e1 e2 p1 hc
  · obtain ⟨f1, rfl, e1⟩ := map1 hm
    have := mem1 hf
    subst this
    exact cp_3 hnM hM z0 z1 z2 e1 hc
  · obtain ⟨f1, rfl, e1⟩ := map1 hm
    have := mem1 hf
    subst this
    exact cp_4 hnM hM z0 z1 z2 e1 hc
  · obtain ⟨f1, rfl, e1⟩ := map1 hm
    have := mem1 hf
    subst this
    exact cp_5 hnM hM z0 z1 z2 e1 hc
  · obtain ⟨f1, f2, rfl, e1, e2⟩ := map2 hm
    have p1 := hp f1 (by simp)
    have p2 := hp f2 (by simp)
    rcases mem2 hf with rfl | rfl
    · exact cp_6 hnM hM hnp z0 z1 z2 s3 s4 e1 e2 p2 hc
    · exact cp_6 hnM hM hnp z3 z1 z4 s0 s2 e2 e1 p1 (by rw [n_pair_comm (s 3), n_pair_comm (s 4)]; exact hc)
  · obtain ⟨f1, f2, rfl, e1, e2⟩ := map2 hm
    have p1 := hp f1 (by simp)
    have p2 := hp f2 (by simp)
    rcases mem2 hf with rfl | rfl
    · exact cp_A hnM hM hnp s0 s1 s2 s3 s4 s5 (base := 548) (via := 548) (gives := 548) (by omega) e1 e2 p2 hc
    · exact cp_B hnM hM hnp s0 s1 s2 s3 s4 s5 (base := 548) (via := 548) (gives := 548) (by omega) e1 e2 p1 hc
  · obtain ⟨f1, rfl, e1⟩ := map1 hm
    have := mem1 hf
    subst this
    exact cp_8 hnM hM z0 z1 z2 e1 hc
  · obtain ⟨f1, f2, rfl, e1, e2⟩ := map2 hm
    have p1 := hp f1 (by simp)
    have p2 := hp f2 (by simp)
    rcases mem2 hf with rfl | rfl
    · exact cp_9 hnM hM hnp s0 s1 s2 s3 e1 e2 p2 hc
    · exact cp_9 hnM hM hnp s0 s1 s3 s2 e2 e1 p1 (by rw [n_ofLine_s2]; exact hc)
  · obtain ⟨f1, f2, rfl, e1, e2⟩ := map2 hm
    have p1 := hp f1 (by simp)
    have p2 := hp f2 (by simp)
    rcases mem2 hf with rfl | rfl
    · exact cp_10 hnM hM hnp s0 s1 s2 s3 e1 e2 p2 hc
    · exact cp_10 hnM hM hnp s0 s3 s2 s1 e2 e1 p1 (by rw [n_pair_comm (s 3)]; exact hc)
  · obtain ⟨f1, f2, rfl, e1, e2⟩ := map2 hm
    have p1 := hp f1 (by simp)
    have p2 := hp f2 (by simp)
    rcases mem2 hf with rfl | rfl
    · exact cp_11a hnM hM z0 z1 z2 s3 e1 e2 p2 hc
    · exact cp_11b hnM hM z0 z1 z2 z3 e1 e2 p1 hc
  · obtain ⟨f1, f2, f3, rfl, e1, e2, e3⟩ := map3 hm
    have p1 := hp f1 (by simp)
    have p2 := hp f2 (by simp)
    have p3 := hp f3 (by simp)
    have hc : n_ofCircle (s 1) (s 2) (s 3) (s 4) = some c := hc
    have e1 : n_ofPairs 548 (n_pair (s 0) (s 1)) (n_pair (s 0) (s 2)) = some f1 := e1
    have e2 : n_ofPairs 548 (n_pair (s 0) (s 2)) (n_pair (s 0) (s 3)) = some f2 := e2
    have e3 : n_ofPairs 548 (n_pair (s 0) (s 3)) (n_pair (s 0) (s 4)) = some f3 := e3
    rcases mem3 hf with rfl | rfl | rfl
    · exact cp_12 hnM hM hnp s0 s1 s2 s3 s4 e1 e2 p2 (Or.inl e3) p3 hc
    · exact cp_12 hnM hM hnp s0 s2 s3 s4 s1 e2 e3 p3 (Or.inr (by rw [n_ofPairs_comm]; exact e1)) p1 (by rw [n_ofCircle_s3, n_ofCircle_s2, n_ofCircle_s1]; exact hc)
    · exact cp_12 hnM hM hnp s0 s4 s3 s2 s1 (by rw [n_ofPairs_comm]; exact e3) (by rw [n_ofPairs_comm]; exact e2) p2 (Or.inl (by rw [n_ofPairs_comm]; exact e1)) p1 (by
        rw [n_ofCircle_s3, n_ofCircle_s2, n_ofCircle_s1, n_ofCircle_s3, n_ofCircle_s2, n_ofCircle_s3]; exact hc)
  · obtain ⟨f1, f2, rfl, e1, e2⟩ := map2 hm
    have p1 := hp f1 (by simp)
    have p2 := hp f2 (by simp)
    rcases mem2 hf with rfl | rfl
    · exact cp_13 hnM hM hnp s0 s1 s2 s3 s4 e1 e2 p2 hc
    · exact cp_13 hnM hM hnp s0 s1 s2 s4 s3 e2 e1 p1 (by rw [n_ofCircle_s3]; exact hc)
  · obtain ⟨f1, f2, rfl, e1, e2⟩ := map2 hm
    have p1 := hp f1 (by simp)
    have p2 := hp f2 (by simp)
    have hc : n_ofPairs 128 (n_pair (s 0) (s 2)) (n_pair (s 3) (s 4)) = some c := hc
    have e2 : n_ofPairs 128 (n_pair (s 0) (s 1)) (n_pair (s 3) (s 4)) = some f2 := e2
    obtain ⟨_, w, -, ew⟩ := ofPairs_some hc
    rw [ew] at hc e2
    have hw := pr21 hnp s3 s4 ew
    rcases mem2 hf with rfl | rfl
    · exact cp_so hnM hM hnp (Or.inl rfl) s0 s1 s2 hw.1 e2 p2 e1 hc
    · exact cp_sl hnM hM (Or.inl rfl) z0 z1 s2 hw.2 e2 e1 p1 hc
  · obtain ⟨f1, f2, rfl, e1, e2⟩ := map2 hm
    have p1 := hp f1 (by simp)
    have p2 := hp f2 (by simp)
    rcases mem2 hf with rfl | rfl
    · exact cp_15a hnM hM hnp s0 s1 s2 e1 e2 p2 hc
    · exact cp_15b hnM hM z0 z1 z2 e1 p1 e2 hc
  · obtain ⟨f1, f2, rfl, e1, e2⟩ := map2 hm
    have p1 := hp f1 (by simp)
    have p2 := hp f2 (by simp)
    have hc : n_ofPairs 338 (n_pair (s 0) (s 4)) (n_pair (s 2) (s 3)) = some c := hc
    have e1 : n_ofPairs 338 (n_pair (s 0) (s 1)) (n_pair (s 2) (s 3)) = some f1 := e1
    obtain ⟨_, w, -, ew⟩ := ofPairs_some hc
    rw [ew] at hc e1
    have hw := pr21 hnp s2 s3 ew
    rcases mem2 hf with rfl | rfl
    · exact cp_sl hnM hM (Or.inr rfl) z0 z1 s4 hw.2 e1 e2 p2 hc
    · exact cp_so hnM hM hnp (Or.inr rfl) s0 s1 s4 hw.1 e1 p1 e2 hc
theorem al_good_np (hnp : np ≤ 7) : al_good np := fun _ _ _ _ hn hs => ⟨fun _ _ _ hi hf hM hp => cp_use hnp hs hi hf hM hp, fun h0 h => sn_use hn hnp h0 hs h⟩
end CR
