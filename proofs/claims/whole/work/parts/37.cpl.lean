/-! the use of a fact offers all that follows from it and others -/
section CP
variable {np now f : Nat} {S : al_S} {c M : Nat}
def al_le (T S : al_S) : Prop := ∀ g, T.1 g ≤ S.1 g
theorem le_rf : al_le S S := fun _ => Nat.le_refl _
theorem le_tr {T U : al_S} (h : al_le T U) (h' : al_le U S) : al_le T S := fun g => Nat.le_trans (h g) (h' g)
theorem le_try {T : al_S} {o : Nat} {c : Option Nat} : al_le (al_try T now o c) T := fun g => al_try_le g
theorem le_two {T : al_S} {o : Nat} {c1 c2 : Option Nat} : al_le (al_two T now o c1 c2) T := le_tr le_try le_try
theorem le_fold {β : Type} {F : al_S → β → al_S} : ∀ (l : List β) (S : al_S), (∀ b ∈ l, ∀ T, al_le (F T b) T) → al_le (l.foldl F S) S
  | [], _, _ => le_rf
  | b :: t, S, h => le_tr (le_fold t (F S b) (fun b' hb => h b' (List.mem_cons_of_mem _ hb))) (h b List.mem_cons_self S)
theorem hit_fold {β : Type} {F : al_S → β → al_S} {r : β} {m : Nat} : ∀ (l : List β) (S : al_S), (∀ b ∈ l, ∀ T, al_le (F T b) T) → r ∈ l → (∀ T, al_le T S → (F T r).1 c ≤ m) → (l.foldl F S).1 c ≤ m
  | [], _, _, h, _ => by cases h
  | b :: t, S, hd, hr, h => by
    have hd' : ∀ b' ∈ t, ∀ T, al_le (F T b') T := fun b' hb => hd b' (List.mem_cons_of_mem _ hb)
    rcases List.mem_cons.mp hr with rfl | hr
    · exact Nat.le_trans (le_fold t (F S r) hd' c) (h S le_rf)
    · exact hit_fold t (F S b) hd' hr (fun T hT => h T (le_tr hT (hd b List.mem_cons_self S)))
theorem hit_try {T : al_S} {o : Nat} (hn : now ≤ M) (ho : o ≤ M) (hM : M < 5) : (al_try T now o (some c)).1 c ≤ M + 1 := by
  unfold al_try
  rw [if_pos (by omega)]
  unfold al_offer
  dsimp only
  split
  · show (if c = c then 1 + max now o else T.1 c) ≤ M + 1
    rw [if_pos rfl]
    omega
  · omega
theorem hit_one {T : al_S} {x : Nat} {o d : Option Nat} (hn : now ≤ M) (hM : M < 5) (hT : al_le T S) (ho : o = some x) (hx : S.1 x ≤ M) (hd : d = some c) : (al_try T now (al_at T o) d).1 c ≤ M + 1 := by
  subst ho hd
  exact hit_try hn (Nat.le_trans (hT x) hx) hM
theorem hit_two {T : al_S} {x : Nat} {o d1 d2 : Option Nat} (hn : now ≤ M) (hM : M < 5) (hT : al_le T S) (ho : o = some x) (hx : S.1 x ≤ M) (hd : d1 = some c ∨ d2 = some c) : (al_two T now (al_at T o) d1 d2).1 c ≤ M + 1 := by
  subst ho
  have hx' : al_at T (some x) ≤ M := Nat.le_trans (hT x) hx
  rcases hd with rfl | rfl
  · exact Nat.le_trans (al_try_le c) (hit_try hn hx' hM)
  · exact hit_try hn hx' hM
theorem le_ch {p q via gives : Nat} {T : al_S} : al_le (al_ch np now p q via gives T) T := le_fold _ _ (fun _ _ _ => le_try)
theorem le_sl {base p q : Nat} {T : al_S} : al_le (al_sl np now base p q T) T := le_fold _ _ (fun _ _ _ => le_two)
theorem le_om {m p ab : Nat} {T : al_S} : al_le (al_om now m p ab T) T := le_try
theorem le_rounds {o a b cc : Nat} {T : al_S} : al_le (al_rounds np now o a b T cc) T := by
  unfold al_rounds
  split
  · exact le_fold _ _ (fun _ _ _ => le_try)
  · exact le_rf
theorem hit_ch {p q via gives r x : Nat} {T : al_S} (hn : now ≤ M) (hM : M < 5) (hT : al_le T S) (hr : r < nq np) (h2 : n_ofPairs via (some q) (some r) = some x) (hx : S.1 x ≤ M) (h3 : n_ofPairs gives (some p) (some r) = some c) : (al_ch np now p q via gives T).1 c ≤ M + 1 :=
  hit_fold _ _ (fun _ _ _ => le_try) (mem_r.mpr hr) (fun U hU => hit_one hn hM (le_tr hU hT) h2 hx h3)
theorem hit_sl {base p q k x : Nat} {T : al_S} (hn : now ≤ M) (hM : M < 5) (hT : al_le T S) (hk : k < np) (h2 : n_ofLine (pr_lo p) (pr_hi p) k = some x) (hx : S.1 x ≤ M) (h3 : n_ofPairs base (n_pair (pr_lo p) k) (some q) = some c ∨ n_ofPairs base (n_pair (pr_hi p) k) (some q) = some c) : (al_sl np now base p q T).1 c ≤ M + 1 :=
  hit_fold _ _ (fun _ _ _ => le_two) (mem_r.mpr hk) (fun U hU => hit_two hn hM (le_tr hU hT) h2 hx h3)
/-- a row of steps -/
theorem hit_seq {F : al_S → al_S} {m : Nat} (l : List (al_S → al_S)) (hd : ∀ F ∈ l, ∀ T, al_le (F T) T) (hF : F ∈ l) (h : ∀ T, al_le T S → (F T).1 c ≤ m) : (l.foldl (fun T F => F T) S).1 c ≤ m :=
  hit_fold (F := fun T F => F T) l S hd hF h
def par_l (np now f : Nat) : List (al_S → al_S) := [al_ch np now (n_less f) (n_great f) 128 128, al_ch np now (n_great f) (n_less f) 128 128, al_ch np now (n_less f) (n_great f) 338 338, al_ch np now (n_great f) (n_less f) 338 338, al_sl np now 128 (n_less f) (n_great f), al_sl np now 128 (n_great f) (n_less f), fun T => if bitsN 7 (maskN (n_less f) ||| maskN (n_great f)) = 3 then al_try T now now (some (maskN (n_less f) ||| maskN (n_great f))) else T]
theorem par_le : ∀ F ∈ par_l np now f, ∀ T, al_le (F T) T := by
  intro F hF T
  simp only [par_l, List.mem_cons, List.not_mem_nil, or_false] at hF
  rcases hF with rfl | rfl | rfl | rfl | rfl | rfl | rfl
  · exact le_ch
  · exact le_ch
  · exact le_ch
  · exact le_ch
  · exact le_sl
  · exact le_sl
  · dsimp only
    split
    · exact le_try
    · exact le_rf
theorem hit_par {F : al_S → al_S} {m : Nat} (hF : F ∈ par_l np now f) (h : ∀ T, al_le T S → (F T).1 c ≤ m) : (al_par np now f S).1 c ≤ m := hit_seq (par_l np now f) par_le hF h
def perp_l (np now f : Nat) : List (al_S → al_S) := [al_ch np now (n_less f) (n_great f) 338 128, al_ch np now (n_great f) (n_less f) 338 128, al_ch np now (n_less f) (n_great f) 128 338, al_ch np now (n_great f) (n_less f) 128 338, al_sl np now 338 (n_less f) (n_great f), al_sl np now 338 (n_great f) (n_less f), al_om now (pr_lo (n_less f)) (pr_hi (n_less f)) (n_great f), al_om now (pr_hi (n_less f)) (pr_lo (n_less f)) (n_great f), al_om now (pr_lo (n_great f)) (pr_hi (n_great f)) (n_less f), al_om now (pr_hi (n_great f)) (pr_lo (n_great f)) (n_less f)]
theorem perp_le : ∀ F ∈ perp_l np now f, ∀ T, al_le (F T) T := by
  intro F hF T
  simp only [perp_l, List.mem_cons, List.not_mem_nil, or_false] at hF
  rcases hF with rfl | rfl | rfl | rfl | rfl | rfl | rfl | rfl | rfl | rfl
  · exact le_ch
  · exact le_ch
  · exact le_ch
  · exact le_ch
  · exact le_sl
  · exact le_sl
  · exact le_om
  · exact le_om
  · exact le_om
  · exact le_om
set_option maxRecDepth 8000 in
theorem hit_perp {F : al_S → al_S} {m : Nat} (hF : F ∈ perp_l np now f) (h : ∀ T, al_le T S → (F T).1 c ≤ m) : (al_perp np now f S).1 c ≤ m := hit_seq (perp_l np now f) perp_le hF h
def eq_l (np now f : Nat) : List (al_S → al_S) := [al_ch np now (n_less f) (n_great f) 548 548, al_ch np now (n_great f) (n_less f) 548 548, fun T => al_try T now (al_at T (n_ofLine (eq_o f) (eq_a f) (eq_b f))) (n_ofMiddle 758 (eq_o f) (eq_a f) (eq_b f)), (List.range' 0 np).foldl (al_upright now (eq_o f) (eq_a f) (eq_b f)), (List.range' 0 np).foldl (al_rounds np now (eq_o f) (eq_a f) (eq_b f)), (List.range' 0 np).foldl (al_rounds np now (eq_o f) (eq_b f) (eq_a f))]
theorem eq_le : ∀ F ∈ eq_l np now f, ∀ T, al_le (F T) T := by
  intro F hF T
  simp only [eq_l, List.mem_cons, List.not_mem_nil, or_false] at hF
  rcases hF with rfl | rfl | rfl | rfl | rfl | rfl
  · exact le_ch
  · exact le_ch
  · exact le_try
  · exact le_fold _ _ (fun _ _ _ => le_try)
  · exact le_fold _ _ (fun _ _ _ => le_rounds)
  · exact le_fold _ _ (fun _ _ _ => le_rounds)
theorem hit_eq2 {F : al_S → al_S} {m : Nat} (h0 : ¬ eq_s f = 0) (hF : F ∈ eq_l np now f) (h : ∀ T, al_le T S → (F T).1 c ≤ m) : (al_eq np now f S).1 c ≤ m := by
  have := hit_seq (S := S) (eq_l np now f) eq_le hF h
  unfold al_eq
  dsimp only
  rw [if_neg h0]
  exact this
theorem hit_eq1 {F : al_S → al_S} {m : Nat} (hF : F ∈ [al_ch np now (n_less f) (n_great f) 548 548, al_ch np now (n_great f) (n_less f) 548 548]) (h : ∀ T, al_le T S → (F T).1 c ≤ m) : (al_eq np now f S).1 c ≤ m := by
  by_cases h0 : eq_s f = 0
  · have := hit_seq (S := S) [al_ch np now (n_less f) (n_great f) 548 548, al_ch np now (n_great f) (n_less f) 548 548] (fun F hF T => by
      simp only [List.mem_cons, List.not_mem_nil, or_false] at hF
      rcases hF with rfl | rfl
      · exact le_ch
      · exact le_ch) hF h
    unfold al_eq
    dsimp only
    rw [if_pos h0]
    exact this
  · refine hit_eq2 h0 (F := F) ?_ h
    simp only [List.mem_cons, List.not_mem_nil, or_false] at hF
    simp only [eq_l, List.mem_cons]
    rcases hF with rfl | rfl
    · exact Or.inl rfl
    · exact Or.inr (Or.inl rfl)
def mid_l (np now f : Nat) : List (al_S → al_S) := [fun T => al_try T now now (n_ofPairs 548 (n_pair (f / 21) (pr_lo (f % 21))) (n_pair (f / 21) (pr_hi (f % 21)))), fun T => al_try T now now (n_ofMiddle 1033 (f / 21) (pr_lo (f % 21)) (pr_hi (f % 21))), (List.range' 0 np).foldl (al_joins np now (f / 21) (pr_lo (f % 21)) (pr_hi (f % 21))), (List.range' 0 np).foldl (al_joins np now (f / 21) (pr_hi (f % 21)) (pr_lo (f % 21))), (List.range' 0 np).foldl (al_midp now (f / 21) (f % 21))]
theorem le_joins {m a b cc : Nat} {T : al_S} : al_le (al_joins np now m a b T cc) T := le_fold _ _ (fun _ _ _ => le_try)
theorem mid_le : ∀ F ∈ mid_l np now f, ∀ T, al_le (F T) T := by
  intro F hF T
  simp only [mid_l, List.mem_cons, List.not_mem_nil, or_false] at hF
  rcases hF with rfl | rfl | rfl | rfl | rfl
  · exact le_try
  · exact le_try
  · exact le_fold _ _ (fun _ _ _ => le_joins)
  · exact le_fold _ _ (fun _ _ _ => le_joins)
  · exact le_fold _ _ (fun _ _ _ => le_try)
theorem hit_mid {F : al_S → al_S} {m : Nat} (hF : F ∈ mid_l np now f) (h : ∀ T, al_le T S → (F T).1 c ≤ m) : (al_mid np now f S).1 c ≤ m := hit_seq (mid_l np now f) mid_le hF h
theorem use_par (h1 : 128 ≤ f) (h2 : f < 338) : al_use np now f S = al_par np now f S := by
  unfold al_use
  rw [if_neg (by omega), if_pos (by omega)]
theorem use_perp (h1 : 338 ≤ f) (h2 : f < 548) : al_use np now f S = al_perp np now f S := by
  unfold al_use
  rw [if_neg (by omega), if_neg (by omega), if_pos (by omega)]
theorem use_eq (h1 : 548 ≤ f) (h2 : f < 758) : al_use np now f S = al_eq np now f S := by
  unfold al_use
  rw [if_neg (by omega), if_neg (by omega), if_neg (by omega), if_pos (by omega)]
theorem use_mid (h1 : 758 ≤ f) (h2 : f < 905) : al_use np now f S = al_mid np now (f - 758) S := by
  unfold al_use
  rw [if_neg (by omega), if_neg (by omega), if_neg (by omega), if_neg (by omega), if_pos (by omega)]
theorem use_circ (h1 : 905 ≤ f) (h2 : f < 1033) : al_use np now f S = (List.range' 0 np).foldl (al_c1 np now (f - 905)) S := by
  unfold al_use
  rw [if_neg (by omega), if_neg (by omega), if_neg (by omega), if_neg (by omega), if_neg (by omega), if_pos (by omega)]
theorem use_btw (h1 : 1033 ≤ f) : al_use np now f S = al_btw now (f - 1033) S := by
  unfold al_use
  rw [if_neg (by omega), if_neg (by omega), if_neg (by omega), if_neg (by omega), if_neg (by omega), if_neg (by omega)]
theorem use_line (h1 : f < 128) : al_use np now f S = (List.range' 0 np).foldl (al_line np now f) S := by
  unfold al_use
  rw [if_pos h1]
/-! chains -/
theorem cp_ch {p q r via base gives x : Nat} (hn : now ≤ M) (hM : M < 5) (hp : p < 21) (hq : q < 21) (hr : r < nq np) (hb : (base = 128 ∧ via = 128 ∧ gives = 128) ∨ (base = 338 ∧ via = 338 ∧ gives = 128) ∨ (base = 338 ∧ via = 128 ∧ gives = 338) ∨ (base = 128 ∧ via = 338 ∧ gives = 338) ∨ (base = 548 ∧ via = 548 ∧ gives = 548))
    (h1 : n_ofPairs base (some p) (some q) = some f) (h2 : n_ofPairs via (some q) (some r) = some x) (hx : S.1 x ≤ M) (h3 : n_ofPairs gives (some p) (some r) = some c) : (al_use np now f S).1 c ≤ M + 1 := by
  have hB : isB base := by rcases hb with ⟨rfl, -, -⟩ | ⟨rfl, -, -⟩ | ⟨rfl, -, -⟩ | ⟨rfl, -, -⟩ | ⟨rfl, -, -⟩ <;> simp [isB]
  obtain ⟨f1, f2, hpq⟩ := pq_dec hB hp hq h1
  have key : ∀ T, al_le T S → (al_ch np now p q via gives T).1 c ≤ M + 1 := fun T hT => hit_ch hn hM hT hr h2 hx h3
  rcases hb with ⟨rfl, rfl, rfl⟩ | ⟨rfl, rfl, rfl⟩ | ⟨rfl, rfl, rfl⟩ | ⟨rfl, rfl, rfl⟩ | ⟨rfl, rfl, rfl⟩
  · rw [use_par f1 (by omega)]
    refine hit_par ?_ key
    unfold par_l
    rcases hpq with ⟨rfl, rfl⟩ | ⟨rfl, rfl⟩ <;> simp only [List.mem_cons, true_or, or_true]
  · rw [use_perp f1 (by omega)]
    refine hit_perp ?_ key
    unfold perp_l
    rcases hpq with ⟨rfl, rfl⟩ | ⟨rfl, rfl⟩ <;> simp only [List.mem_cons, true_or, or_true]
  · rw [use_perp f1 (by omega)]
    refine hit_perp ?_ key
    unfold perp_l
    rcases hpq with ⟨rfl, rfl⟩ | ⟨rfl, rfl⟩ <;> simp only [List.mem_cons, true_or, or_true]
  · rw [use_par f1 (by omega)]
    refine hit_par ?_ key
    unfold par_l
    rcases hpq with ⟨rfl, rfl⟩ | ⟨rfl, rfl⟩ <;> simp only [List.mem_cons, true_or, or_true]
  · rw [use_eq f1 (by omega)]
    refine hit_eq1 ?_ key
    rcases hpq with ⟨rfl, rfl⟩ | ⟨rfl, rfl⟩ <;> simp only [List.mem_cons, true_or, or_true]
theorem cp_sl {a b k q base x : Nat} (hn : now ≤ M) (hM : M < 5) (hb : base = 128 ∨ base = 338) (ha : a < 7) (hb' : b < 7) (hk : k < np) (hq : q < 21) (h1 : n_ofPairs base (n_pair a b) (some q) = some f) (h2 : n_ofLine a b k = some x) (hx : S.1 x ≤ M) (h3 : n_ofPairs base (n_pair a k) (some q) = some c) : (al_use np now f S).1 c ≤ M + 1 := by
  obtain ⟨p, _, ep, -⟩ := ofPairs_some h1
  have hp := p21 ha hb' p ep
  rw [ep] at h1
  have hB : isB base := by rcases hb with rfl | rfl <;> simp [isB]
  obtain ⟨f1, f2, hpq⟩ := pq_dec hB hp hq h1
  have key : ∀ T, al_le T S → (al_sl np now base p q T).1 c ≤ M + 1 := by
    intro T hT
    rcases pair_lohi ha hb' ep with ⟨e1, e2⟩ | ⟨e1, e2⟩
    · exact hit_sl hn hM hT hk (by rw [e1, e2]; exact h2) hx (Or.inl (by rw [e1]; exact h3))
    · exact hit_sl hn hM hT hk (by rw [e1, e2, n_ofLine_s1]; exact h2) hx (Or.inr (by rw [e2]; exact h3))
  rcases hb with rfl | rfl
  · rw [use_par f1 (by omega)]
    refine hit_par ?_ key
    unfold par_l
    rcases hpq with ⟨rfl, rfl⟩ | ⟨rfl, rfl⟩ <;> simp only [List.mem_cons, true_or, or_true]
  · rw [use_perp f1 (by omega)]
    refine hit_perp ?_ key
    unfold perp_l
    rcases hpq with ⟨rfl, rfl⟩ | ⟨rfl, rfl⟩ <;> simp only [List.mem_cons, true_or, or_true]
def or_ok (a b e : Nat) : Bool := (n_pair a b).all fun p => (n_pair a e).all fun q => (n_ofLine a b e).all fun g => bitsN 7 (maskN p ||| maskN q) == 3 && (maskN p ||| maskN q == g)
theorem cp_8 {a b e : Nat} (hn : now ≤ M) (hM : M < 5) (ha : a < 7) (hb : b < 7) (he : e < 7) (h1 : n_ofPairs 128 (n_pair a b) (n_pair a e) = some f) (h3 : n_ofLine a b e = some c) : (al_use np now f S).1 c ≤ M + 1 := by
  obtain ⟨p, q, ep, eq⟩ := ofPairs_some h1
  rw [ep, eq] at h1
  have t : ∀ a, a < 7 → ∀ b, b < 7 → ∀ e, e < 7 → or_ok a b e = true := by decide +kernel
  have t1 := t a ha b hb e he
  unfold or_ok at t1
  rw [ep, eq, h3] at t1
  simp only [Option.all_some, Bool.and_eq_true, beq_iff_eq] at t1
  obtain ⟨f1, f2, hpq⟩ := pq_dec (Or.inl rfl) (p21 ha hb p ep) (p21 ha he q eq) h1
  rw [use_par f1 (by omega)]
  refine hit_par (F := fun T => if bitsN 7 (maskN (n_less f) ||| maskN (n_great f)) = 3 then al_try T now now (some (maskN (n_less f) ||| maskN (n_great f))) else T) (by unfold par_l; simp only [List.mem_cons, true_or, or_true]) (fun T hT => ?_)
  have e1 : maskN (n_less f) ||| maskN (n_great f) = c := by
    rcases hpq with ⟨rfl, rfl⟩ | ⟨rfl, rfl⟩
    · exact t1.2
    · rw [Nat.or_comm]; exact t1.2
  have e2 : bitsN 7 c = 3 := by rw [← t1.2]; exact t1.1
  rw [e1, if_pos e2]
  exact hit_try hn hn hM
/-! middles -/
theorem cp_mid {a b e : Nat} (ha : a < 7) (hb : b < 7) (he : e < 7) (h1 : n_ofMiddle 758 a b e = some f) : 758 ≤ f ∧ f < 905 ∧ (f - 758) / 21 = a ∧ n_pair b e = some ((f - 758) % 21) ∧ ((pr_lo ((f - 758) % 21) = b ∧ pr_hi ((f - 758) % 21) = e) ∨ (pr_lo ((f - 758) % 21) = e ∧ pr_hi ((f - 758) % 21) = b)) := by
  obtain ⟨q1, q2, q3, q4, q5⟩ := mid_dec ha hb he h1
  exact ⟨q1, q5, q2, q3, pair_lohi hb he q3⟩
theorem cp_3 {a b e : Nat} (hn : now ≤ M) (hM : M < 5) (ha : a < 7) (hb : b < 7) (he : e < 7) (h1 : n_ofMiddle 758 a b e = some f) (h3 : n_ofPairs 548 (n_pair a b) (n_pair a e) = some c) : (al_use np now f S).1 c ≤ M + 1 := by
  obtain ⟨f1, f2, q1, q2, q3⟩ := cp_mid ha hb he h1
  rw [use_mid f1 f2]
  refine hit_mid (F := fun T => al_try T now now (n_ofPairs 548 (n_pair ((f - 758) / 21) (pr_lo ((f - 758) % 21))) (n_pair ((f - 758) / 21) (pr_hi ((f - 758) % 21))))) (by unfold mid_l; simp only [List.mem_cons, true_or, or_true]) (fun T hT => ?_)
  have e1 : n_ofPairs 548 (n_pair ((f - 758) / 21) (pr_lo ((f - 758) % 21))) (n_pair ((f - 758) / 21) (pr_hi ((f - 758) % 21))) = some c := by
    rcases q3 with ⟨r1, r2⟩ | ⟨r1, r2⟩
    · rw [q1, r1, r2]; exact h3
    · rw [q1, r1, r2, n_ofPairs_comm]; exact h3
  rw [e1]
  exact hit_try hn hn hM
theorem cp_4 {a b e : Nat} (hn : now ≤ M) (hM : M < 5) (ha : a < 7) (hb : b < 7) (he : e < 7) (h1 : n_ofMiddle 758 a b e = some f) (h3 : n_ofMiddle 1033 a b e = some c) : (al_use np now f S).1 c ≤ M + 1 := by
  obtain ⟨f1, f2, q1, q2, q3⟩ := cp_mid ha hb he h1
  rw [use_mid f1 f2]
  refine hit_mid (F := fun T => al_try T now now (n_ofMiddle 1033 ((f - 758) / 21) (pr_lo ((f - 758) % 21)) (pr_hi ((f - 758) % 21)))) (by unfold mid_l; simp only [List.mem_cons, true_or, or_true]) (fun T hT => ?_)
  have e1 : n_ofMiddle 1033 ((f - 758) / 21) (pr_lo ((f - 758) % 21)) (pr_hi ((f - 758) % 21)) = some c := by
    rcases q3 with ⟨r1, r2⟩ | ⟨r1, r2⟩
    · rw [q1, r1, r2]; exact h3
    · rw [q1, r1, r2, n_ofMiddle_comm]; exact h3
  rw [e1]
  exact hit_try hn hn hM
theorem cp_5 {a b e : Nat} (hn : now ≤ M) (hM : M < 5) (ha : a < 7) (hb : b < 7) (he : e < 7) (h1 : n_ofMiddle 1033 a b e = some f) (h3 : n_ofLine a b e = some c) : (al_use np now f S).1 c ≤ M + 1 := by
  obtain ⟨q1, q2, q3, q4, q5⟩ := mid_dec ha hb he h1
  rw [use_btw q1]
  unfold al_btw
  have e1 : n_ofLine ((f - 1033) / 21) (pr_lo ((f - 1033) % 21)) (pr_hi ((f - 1033) % 21)) = some c := by
    rcases pair_lohi hb he q3 with ⟨r1, r2⟩ | ⟨r1, r2⟩
    · rw [q2, r1, r2]; exact h3
    · rw [q2, r1, r2, n_ofLine_s2]; exact h3
  rw [e1]
  exact hit_try hn hn hM
theorem cp_6 {a b e d g x : Nat} (hn : now ≤ M) (hM : M < 5) (hnp : np ≤ 7) (ha : a < 7) (hb : b < 7) (he : e < 7) (hd : d < np) (hg : g < np) (h1 : n_ofMiddle 758 a b e = some f) (h2 : n_ofMiddle 758 d b g = some x) (hx : S.1 x ≤ M) (h3 : n_ofPairs 128 (n_pair a d) (n_pair e g) = some c) : (al_use np now f S).1 c ≤ M + 1 := by
  obtain ⟨f1, f2, q1, q2, q3⟩ := cp_mid ha hb he h1
  rw [use_mid f1 f2]
  have key : ∀ T, al_le T S → ((List.range' 0 np).foldl (al_joins np now a b e) T).1 c ≤ M + 1 := fun T hT =>
    hit_fold _ _ (fun _ _ _ => le_joins) (mem_r.mpr hg) (fun U hU => hit_fold _ _ (fun _ _ _ => le_try) (mem_r.mpr hd) (fun V hV => hit_one hn hM (le_tr hV (le_tr hU hT)) h2 hx h3))
  refine hit_mid (F := (List.range' 0 np).foldl (al_joins np now a b e)) ?_ key
  unfold mid_l
  rw [q1]
  rcases q3 with ⟨r1, r2⟩ | ⟨r1, r2⟩
  · rw [r1, r2]; simp only [List.mem_cons, true_or, or_true]
  · rw [r1, r2]; simp only [List.mem_cons, true_or, or_true]
theorem cp_11a {a b e d x : Nat} (hn : now ≤ M) (hM : M < 5) (ha : a < 7) (hb : b < 7) (he : e < 7) (hd : d < np) (h1 : n_ofMiddle 758 a b e = some f) (h2 : n_ofPairs 338 (n_pair a d) (n_pair b e) = some x) (hx : S.1 x ≤ M) (h3 : n_ofPairs 548 (n_pair d b) (n_pair d e) = some c) : (al_use np now f S).1 c ≤ M + 1 := by
  obtain ⟨f1, f2, q1, q2, q3⟩ := cp_mid ha hb he h1
  rw [use_mid f1 f2]
  refine hit_mid (F := (List.range' 0 np).foldl (al_midp now ((f - 758) / 21) ((f - 758) % 21))) (by unfold mid_l; simp only [List.mem_cons, true_or, or_true]) (fun T hT => ?_)
  refine hit_fold _ _ (fun _ _ _ => le_try) (mem_r.mpr hd) (fun U hU => hit_one hn hM (le_tr hU hT) (x := x) ?_ hx ?_)
  · rw [q1, ← q2]; exact h2
  · rcases q3 with ⟨r1, r2⟩ | ⟨r1, r2⟩
    · rw [r1, r2]; exact h3
    · rw [r1, r2, n_ofPairs_comm]; exact h3
theorem cp_11b {a b e d x : Nat} (hn : now ≤ M) (hM : M < 5) (ha : a < 7) (hb : b < 7) (he : e < 7) (hd : d < 7) (h1 : n_ofMiddle 758 a b e = some x) (h2 : n_ofPairs 338 (n_pair a d) (n_pair b e) = some f) (hx : S.1 x ≤ M) (h3 : n_ofPairs 548 (n_pair d b) (n_pair d e) = some c) : (al_use np now f S).1 c ≤ M + 1 := by
  obtain ⟨p, q, ep, eq⟩ := ofPairs_some h2
  rw [ep, eq] at h2
  obtain ⟨f1, f2, hpq⟩ := pq_dec (Or.inr (Or.inl rfl)) (p21 ha hd p ep) (p21 hb he q eq) h2
  rw [use_perp f1 (by omega)]
  have key : ∀ T, al_le T S → (al_om now a d q T).1 c ≤ M + 1 := by
    intro T hT
    rcases pair_lohi hb he eq with ⟨r1, r2⟩ | ⟨r1, r2⟩
    · exact hit_one hn hM hT (x := x) (by rw [r1, r2]; exact h1) hx (by rw [r1, r2]; exact h3)
    · exact hit_one hn hM hT (x := x) (by rw [r1, r2, n_ofMiddle_comm]; exact h1) hx (by rw [r1, r2, n_ofPairs_comm]; exact h3)
  refine hit_perp ?_ key
  unfold perp_l
  rcases hpq with ⟨rfl, rfl⟩ | ⟨rfl, rfl⟩ <;> rcases pair_lohi ha hd ep with ⟨rfl, rfl⟩ | ⟨rfl, rfl⟩ <;> simp only [List.mem_cons, true_or, or_true]
end CP
