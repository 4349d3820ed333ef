theorem mm_i1_v {st : List Value} {K : Int32 → List Value → Prop} (h : mm_i1 st K) : ∃ (x : Int32) (r : List Value), st = .int x :: r ∧ K x r := by
  unfold mm_i1 at h
  split at h
  · exact ⟨_, _, rfl, h⟩
  · exact h.elim
theorem mm_i2_v {st : List Value} {K : Int32 → Int32 → List Value → Prop} (h : mm_i2 st K) : ∃ (x : Int32) (y : Int32) (r : List Value), st = .int y :: .int x :: r ∧ K x y r := by
  unfold mm_i2 at h
  split at h
  · exact ⟨_, _, _, rfl, h⟩
  · exact h.elim
theorem mm_l1_v {st : List Value} {K : Int64 → List Value → Prop} (h : mm_l1 st K) : ∃ (x : Int64) (r : List Value), st = .long x :: r ∧ K x r := by
  unfold mm_l1 at h
  split at h
  · exact ⟨_, _, rfl, h⟩
  · exact h.elim
theorem mm_l2_v {st : List Value} {K : Int64 → Int64 → List Value → Prop} (h : mm_l2 st K) : ∃ (x : Int64) (y : Int64) (r : List Value), st = .long y :: .long x :: r ∧ K x y r := by
  unfold mm_l2 at h
  split at h
  · exact ⟨_, _, _, rfl, h⟩
  · exact h.elim
theorem mm_li_v {st : List Value} {K : Int64 → Int32 → List Value → Prop} (h : mm_li st K) : ∃ (x : Int64) (y : Int32) (r : List Value), st = .int y :: .long x :: r ∧ K x y r := by
  unfold mm_li at h
  split at h
  · exact ⟨_, _, _, rfl, h⟩
  · exact h.elim
theorem mm_r1_v {st : List Value} {K : Nat → List Value → Prop} (h : mm_r1 st K) : ∃ (k : Nat) (r : List Value), st = .ref k :: r ∧ K k r := by
  unfold mm_r1 at h
  split at h
  · exact ⟨_, _, rfl, h⟩
  · exact h.elim
theorem mm_ri_v {st : List Value} {K : Nat → Int32 → List Value → Prop} (h : mm_ri st K) : ∃ (k : Nat) (x : Int32) (r : List Value), st = .int x :: .ref k :: r ∧ K k x r := by
  unfold mm_ri at h
  split at h
  · exact ⟨_, _, _, rfl, h⟩
  · exact h.elim
theorem mm_rl_v {st : List Value} {K : Nat → Int64 → List Value → Prop} (h : mm_rl st K) : ∃ (k : Nat) (x : Int64) (r : List Value), st = .long x :: .ref k :: r ∧ K k x r := by
  unfold mm_rl at h
  split at h
  · exact ⟨_, _, _, rfl, h⟩
  · exact h.elim
theorem mm_rii_v {st : List Value} {K : Nat → Int32 → Int32 → List Value → Prop} (h : mm_rii st K) : ∃ (k : Nat) (i : Int32) (x : Int32) (r : List Value), st = .int x :: .int i :: .ref k :: r ∧ K k i x r := by
  unfold mm_rii at h
  split at h
  · exact ⟨_, _, _, _, rfl, h⟩
  · exact h.elim
theorem mm_ril_v {st : List Value} {K : Nat → Int32 → Int64 → List Value → Prop} (h : mm_ril st K) : ∃ (k : Nat) (i : Int32) (x : Int64) (r : List Value), st = .long x :: .int i :: .ref k :: r ∧ K k i x r := by
  unfold mm_ril at h
  split at h
  · exact ⟨_, _, _, _, rfl, h⟩
  · exact h.elim
theorem mm_cy_v {st : List Value} {K : Nat → Int32 → Nat → Int32 → Int32 → List Value → Prop} (h : mm_cy st K) : ∃ (a : Nat) (sp : Int32) (b : Nat) (dp : Int32) (n : Int32) (r : List Value), st = .int n :: .int dp :: .ref b :: .int sp :: .ref a :: r ∧ K a sp b dp n r := by
  unfold mm_cy at h
  split at h
  · exact ⟨_, _, _, _, _, _, rfl, h⟩
  · exact h.elim
theorem mm_nn_v {st : List Value} {A B : List Value → Prop} (h : mm_nn st A B) : (∃ r, st = .null :: r ∧ A r) ∨ ∃ (k : Nat) (r : List Value), st = .ref k :: r ∧ B r := by
  unfold mm_nn at h
  split at h
  · exact Or.inl ⟨_, rfl, h⟩
  · exact Or.inr ⟨_, _, rfl, h⟩
  · exact h.elim
theorem mm_dup_v {st : List Value} {K : Value → List Value → Prop} (h : mm_dup st K) : ∃ (v : Value) (r : List Value), st = v :: r ∧ K v r ∧ ((∃ x, v = .int x) ∨ (∃ k, v = .ref k) ∨ v = .null) := by
  unfold mm_dup at h
  split at h
  · exact ⟨_, _, rfl, h, Or.inl ⟨_, rfl⟩⟩
  · exact ⟨_, _, rfl, h, Or.inr (Or.inl ⟨_, rfl⟩)⟩
  · exact ⟨_, _, rfl, h, Or.inr (Or.inr rfl)⟩
  · exact h.elim
theorem mm_xi_v {o : Option Value} {K : Int32 → Prop} (h : mm_xi o K) : ∃ x, o = some (.int x) ∧ K x := by
  unfold mm_xi at h
  split at h
  · exact ⟨_, rfl, h⟩
  · exact h.elim
theorem mm_xl_v {o : Option Value} {K : Int64 → Prop} (h : mm_xl o K) : ∃ x, o = some (.long x) ∧ K x := by
  unfold mm_xl at h
  split at h
  · exact ⟨_, rfl, h⟩
  · exact h.elim
theorem mm_xr_v {o : Option Value} {K : Value → Prop} (h : mm_xr o K) : (∃ k, o = some (.ref k) ∧ K (.ref k)) ∨ (o = some .null ∧ K .null) := by
  unfold mm_xr at h
  split at h
  · exact Or.inl ⟨_, rfl, h⟩
  · exact Or.inr ⟨rfl, h⟩
  · exact h.elim
theorem mm_pn_v {K : List Value → List Value → Prop} : ∀ (n : Nat) (st as : List Value), mm_pn n st as K → ∃ bs r, st = bs ++ r ∧ bs.length = n ∧ K (bs.reverse ++ as) r
  | 0, st, as, h => ⟨[], st, rfl, rfl, h⟩
  | _ + 1, [], _, h => h.elim
  | n + 1, v :: st, as, h => by
    obtain ⟨bs, r, e1, e2, e3⟩ := mm_pn_v n st (v :: as) h
    exact ⟨v :: bs, r, by rw [e1]; rfl, by rw [List.length_cons, e2], by simpa using e3⟩
theorem mm_sw_v {x : Int32} {K : Nat → Prop} {d : Nat} : ∀ (ts : List Int) (lo : Int), mm_sw x K d lo ts → ∀ (i : Nat) (t : Int), ts[i]? = some t → x.toInt = lo + i → K t.toNat
  | [], _, _, i, t, h, _ => by simp at h
  | a :: ts, lo, h, 0, t, e, hx => by
    simp at e
    subst e
    exact h.1 (by simpa using hx)
  | a :: ts, lo, h, i + 1, t, e, hx => by
    refine mm_sw_v ts (lo + 1) (h.2 (by rw [hx]; push_cast; omega)) i t (by simpa using e) ?_
    rw [hx]
    push_cast
    omega
theorem mm_sw_o {x : Int32} {K : Nat → Prop} {d : Nat} : ∀ (ts : List Int) (lo : Int), mm_sw x K d lo ts → (x.toInt < lo ∨ lo + ts.length ≤ x.toInt) → K d
  | [], _, h, _ => h
  | a :: ts, lo, h, hx => by
    refine mm_sw_o ts (lo + 1) (h.2 ?_) ?_
    · rcases hx with q | q
      · omega
      · simp only [List.length_cons] at q
        push_cast at q
        omega
    · rcases hx with q | q
      · exact Or.inl (by omega)
      · simp only [List.length_cons] at q
        push_cast at q
        exact Or.inr (by omega)

def mm_Cd (C : mm_C) : Prop := ∀ g as I J Q Q', C g as I J Q → C g as I J Q' → ∃ v I J, Q v I J ∧ Q' v I J
theorem mm_sw_d {x : Int32} {K K' : Nat → Prop} {d : Nat} : ∀ (lo : Int) (ts : List Int), mm_sw x K d lo ts → mm_sw x K' d lo ts → ∃ t, K t ∧ K' t
  | _, [], h, h' => ⟨_, h, h'⟩
  | lo, t :: ts, h, h' => by
    by_cases e : x.toInt = lo
    · exact ⟨_, h.1 e, h'.1 e⟩
    · exact mm_sw_d (lo + 1) ts (h.2 e) (h'.2 e)
theorem mm_br_d {c : Jvm.ClassFile.Cond} {x y : Int32} {A A' B B' : Prop} (h : mm_br c x y A B) (h' : mm_br c x y A' B') : (A ∧ A') ∨ (B ∧ B') := by
  cases c
  · by_cases e : x = y
    · exact Or.inl ⟨h.1 e, h'.1 e⟩
    · exact Or.inr ⟨h.2 e, h'.2 e⟩
  · by_cases e : x = y
    · exact Or.inr ⟨h.2 e, h'.2 e⟩
    · exact Or.inl ⟨h.1 e, h'.1 e⟩
  · by_cases e : x < y
    · exact Or.inl ⟨h.1 e, h'.1 e⟩
    · exact Or.inr ⟨h.2 e, h'.2 e⟩
  · by_cases e : y ≤ x
    · exact Or.inl ⟨h.1 e, h'.1 e⟩
    · exact Or.inr ⟨h.2 e, h'.2 e⟩
  · by_cases e : y < x
    · exact Or.inl ⟨h.1 e, h'.1 e⟩
    · exact Or.inr ⟨h.2 e, h'.2 e⟩
  · by_cases e : x ≤ y
    · exact Or.inl ⟨h.1 e, h'.1 e⟩
    · exact Or.inr ⟨h.2 e, h'.2 e⟩
theorem mm_al_d {z : mm_S} {t : Nat × Nat} {k : Nat} {i : Int32} {I : mm_I} {K K' : Int32 → Prop} (h : mm_al z t k i I K) (h' : mm_al z t k i I K') : ∃ v, K v ∧ K' v := by
  unfold mm_al at h h'
  split at h
  · rename_i e
    rw [if_pos e] at h'
    exact ⟨_, h.2, h'.2⟩
  · rename_i e
    rw [if_neg e] at h'
    split at h
    · rename_i e
      rw [if_pos e] at h'
      exact ⟨_, h.2, h'.2⟩
    · rename_i e
      rw [if_neg e] at h'
      split at h
      · rename_i e
        rw [if_pos e] at h'
        exact ⟨_, h.2, h'.2⟩
      · exact h.elim
theorem mm_an_d {z : mm_S} {t : Nat × Nat} {K K' : Int32 → Prop} (h : mm_an z t K) (h' : mm_an z t K') : ∃ v, K v ∧ K' v := by
  unfold mm_an at h h'
  split at h
  · rename_i e
    rw [if_pos e] at h'
    exact ⟨_, h, h'⟩
  · rename_i e
    rw [if_neg e] at h'
    exact ⟨_, h.2, h'.2⟩
theorem mm_app_inj {a b r s : List Value} (h : a ++ r = b ++ s) (hl : a.length = b.length) : a = b ∧ r = s := List.append_inj h hl
set_option maxHeartbeats 4000000 in
theorem mm_run_d {z : mm_S} {C : mm_C} {rt rt' : Option Value → mm_I → mm_J → Prop} {ex ex' : Nat → mm_L → List Value → mm_I → mm_J → Prop} {e : Nat} (hC : mm_Cd C) : ∀ (is : List Instr) (ls : mm_L) (st : List Value) (I : mm_I) (J : mm_J), mm_run z C rt ex e is ls st I J → mm_run z C rt' ex' e is ls st I J → (∃ v I J, rt v I J ∧ rt' v I J) ∨ ∃ pc ls st I J, ex pc ls st I J ∧ ex' pc ls st I J
  | [], ls, st, I, J, h, h' => Or.inr ⟨_, _, _, _, _, h, h'⟩
  | i :: is, ls, st, I, J, h, h' => by
    have ih := mm_run_d (z := z) (e := e) (rt := rt) (rt' := rt') (ex := ex) (ex' := ex') hC is
    cases i
    case iconst v =>
      exact ih _ _ _ _ h h'
    case sipush v =>
      exact ih _ _ _ _ h h'
    case aconst_null =>
      exact ih _ _ _ _ h h'
    case anewarray n =>
      exact ih _ _ _ _ h h'
    case iload k =>
      obtain ⟨x, e1, h1⟩ := mm_xi_v h
      obtain ⟨y, e2, h2⟩ := mm_xi_v h'
      rw [e1] at e2
      cases e2
      exact ih _ _ _ _ h1 h2
    case lload k =>
      obtain ⟨x, e1, h1⟩ := mm_xl_v h
      obtain ⟨y, e2, h2⟩ := mm_xl_v h'
      rw [e1] at e2
      cases e2
      exact ih _ _ _ _ h1 h2
    case iinc k n =>
      obtain ⟨x, e1, h1⟩ := mm_xi_v h
      obtain ⟨y, e2, h2⟩ := mm_xi_v h'
      rw [e1] at e2
      cases e2
      exact ih _ _ _ _ h1 h2
    case aload k =>
      have h1 : mm_xr (mm_gt ls k) (fun v => mm_run z C rt ex e is ls (v :: st) I J) := h
      have h2 : mm_xr (mm_gt ls k) (fun v => mm_run z C rt' ex' e is ls (v :: st) I J) := h'
      rcases mm_xr_v h1 with ⟨a, e1, q1⟩ | ⟨e1, q1⟩ <;> rcases mm_xr_v h2 with ⟨b, e2, q2⟩ | ⟨e2, q2⟩ <;> rw [e1] at e2 <;> cases e2
      · exact ih _ _ _ _ q1 q2
      · exact ih _ _ _ _ q1 q2
    case istore k =>
      obtain ⟨a0, r, e1, h1⟩ := mm_i1_v h
      obtain ⟨b0, r2, e2, h2⟩ := mm_i1_v h'
      rw [e1] at e2
      cases e2
      exact ih _ _ _ _ h1 h2
    case ineg =>
      obtain ⟨a0, r, e1, h1⟩ := mm_i1_v h
      obtain ⟨b0, r2, e2, h2⟩ := mm_i1_v h'
      rw [e1] at e2
      cases e2
      exact ih _ _ _ _ h1 h2
    case i2l =>
      obtain ⟨a0, r, e1, h1⟩ := mm_i1_v h
      obtain ⟨b0, r2, e2, h2⟩ := mm_i1_v h'
      rw [e1] at e2
      cases e2
      exact ih _ _ _ _ h1 h2
    case lstore k =>
      obtain ⟨a0, r, e1, h1⟩ := mm_l1_v h
      obtain ⟨b0, r2, e2, h2⟩ := mm_l1_v h'
      rw [e1] at e2
      cases e2
      exact ih _ _ _ _ h1 h2
    case l2i =>
      obtain ⟨a0, r, e1, h1⟩ := mm_l1_v h
      obtain ⟨b0, r2, e2, h2⟩ := mm_l1_v h'
      rw [e1] at e2
      cases e2
      exact ih _ _ _ _ h1 h2
    case iadd =>
      obtain ⟨a0, a1, r, e1, h1⟩ := mm_i2_v h
      obtain ⟨b0, b1, r2, e2, h2⟩ := mm_i2_v h'
      rw [e1] at e2
      cases e2
      exact ih _ _ _ _ h1 h2
    case isub =>
      obtain ⟨a0, a1, r, e1, h1⟩ := mm_i2_v h
      obtain ⟨b0, b1, r2, e2, h2⟩ := mm_i2_v h'
      rw [e1] at e2
      cases e2
      exact ih _ _ _ _ h1 h2
    case imul =>
      obtain ⟨a0, a1, r, e1, h1⟩ := mm_i2_v h
      obtain ⟨b0, b1, r2, e2, h2⟩ := mm_i2_v h'
      rw [e1] at e2
      cases e2
      exact ih _ _ _ _ h1 h2
    case iand =>
      obtain ⟨a0, a1, r, e1, h1⟩ := mm_i2_v h
      obtain ⟨b0, b1, r2, e2, h2⟩ := mm_i2_v h'
      rw [e1] at e2
      cases e2
      exact ih _ _ _ _ h1 h2
    case ior =>
      obtain ⟨a0, a1, r, e1, h1⟩ := mm_i2_v h
      obtain ⟨b0, b1, r2, e2, h2⟩ := mm_i2_v h'
      rw [e1] at e2
      cases e2
      exact ih _ _ _ _ h1 h2
    case ixor =>
      obtain ⟨a0, a1, r, e1, h1⟩ := mm_i2_v h
      obtain ⟨b0, b1, r2, e2, h2⟩ := mm_i2_v h'
      rw [e1] at e2
      cases e2
      exact ih _ _ _ _ h1 h2
    case ishl =>
      obtain ⟨a0, a1, r, e1, h1⟩ := mm_i2_v h
      obtain ⟨b0, b1, r2, e2, h2⟩ := mm_i2_v h'
      rw [e1] at e2
      cases e2
      exact ih _ _ _ _ h1 h2
    case ishr =>
      obtain ⟨a0, a1, r, e1, h1⟩ := mm_i2_v h
      obtain ⟨b0, b1, r2, e2, h2⟩ := mm_i2_v h'
      rw [e1] at e2
      cases e2
      exact ih _ _ _ _ h1 h2
    case iushr =>
      obtain ⟨a0, a1, r, e1, h1⟩ := mm_i2_v h
      obtain ⟨b0, b1, r2, e2, h2⟩ := mm_i2_v h'
      rw [e1] at e2
      cases e2
      exact ih _ _ _ _ h1 h2
    case idiv =>
      obtain ⟨a0, a1, r, e1, h1⟩ := mm_i2_v h
      obtain ⟨b0, b1, r2, e2, h2⟩ := mm_i2_v h'
      rw [e1] at e2
      cases e2
      exact ih _ _ _ _ h1.2 h2.2
    case irem =>
      obtain ⟨a0, a1, r, e1, h1⟩ := mm_i2_v h
      obtain ⟨b0, b1, r2, e2, h2⟩ := mm_i2_v h'
      rw [e1] at e2
      cases e2
      exact ih _ _ _ _ h1.2 h2.2
    case ladd =>
      obtain ⟨a0, a1, r, e1, h1⟩ := mm_l2_v h
      obtain ⟨b0, b1, r2, e2, h2⟩ := mm_l2_v h'
      rw [e1] at e2
      cases e2
      exact ih _ _ _ _ h1 h2
    case lsub =>
      obtain ⟨a0, a1, r, e1, h1⟩ := mm_l2_v h
      obtain ⟨b0, b1, r2, e2, h2⟩ := mm_l2_v h'
      rw [e1] at e2
      cases e2
      exact ih _ _ _ _ h1 h2
    case lmul =>
      obtain ⟨a0, a1, r, e1, h1⟩ := mm_l2_v h
      obtain ⟨b0, b1, r2, e2, h2⟩ := mm_l2_v h'
      rw [e1] at e2
      cases e2
      exact ih _ _ _ _ h1 h2
    case land =>
      obtain ⟨a0, a1, r, e1, h1⟩ := mm_l2_v h
      obtain ⟨b0, b1, r2, e2, h2⟩ := mm_l2_v h'
      rw [e1] at e2
      cases e2
      exact ih _ _ _ _ h1 h2
    case lor =>
      obtain ⟨a0, a1, r, e1, h1⟩ := mm_l2_v h
      obtain ⟨b0, b1, r2, e2, h2⟩ := mm_l2_v h'
      rw [e1] at e2
      cases e2
      exact ih _ _ _ _ h1 h2
    case lcmp =>
      obtain ⟨a0, a1, r, e1, h1⟩ := mm_l2_v h
      obtain ⟨b0, b1, r2, e2, h2⟩ := mm_l2_v h'
      rw [e1] at e2
      cases e2
      exact ih _ _ _ _ h1 h2
    case lshl =>
      obtain ⟨a0, a1, r, e1, h1⟩ := mm_li_v h
      obtain ⟨b0, b1, r2, e2, h2⟩ := mm_li_v h'
      rw [e1] at e2
      cases e2
      exact ih _ _ _ _ h1 h2
    case lshr =>
      obtain ⟨a0, a1, r, e1, h1⟩ := mm_li_v h
      obtain ⟨b0, b1, r2, e2, h2⟩ := mm_li_v h'
      rw [e1] at e2
      cases e2
      exact ih _ _ _ _ h1 h2
    case lushr =>
      obtain ⟨a0, a1, r, e1, h1⟩ := mm_li_v h
      obtain ⟨b0, b1, r2, e2, h2⟩ := mm_li_v h'
      rw [e1] at e2
      cases e2
      exact ih _ _ _ _ h1 h2
    case dup2 =>
      obtain ⟨a0, a1, r, e1, h1⟩ := mm_ri_v h
      obtain ⟨b0, b1, r2, e2, h2⟩ := mm_ri_v h'
      rw [e1] at e2
      cases e2
      exact ih _ _ _ _ h1 h2
    case getfield n =>
      obtain ⟨a0, r, e1, h1⟩ := mm_r1_v h
      obtain ⟨b0, r2, e2, h2⟩ := mm_r1_v h'
      rw [e1] at e2
      cases e2
      exact ih _ _ _ _ h1.2 h2.2
    case getstatic n =>
      obtain ⟨a0, r, e1, h1⟩ := mm_r1_v h
      obtain ⟨b0, r2, e2, h2⟩ := mm_r1_v h'
      rw [e1] at e2
      cases e2
      exact ih _ _ _ _ h1.2 h2.2
    case instanceof n =>
      obtain ⟨a0, r, e1, h1⟩ := mm_r1_v h
      obtain ⟨b0, r2, e2, h2⟩ := mm_r1_v h'
      rw [e1] at e2
      cases e2
      exact ih _ _ _ _ h1.2 h2.2
    case putfield n =>
      obtain ⟨a0, a1, r, e1, h1⟩ := mm_ri_v h
      obtain ⟨b0, b1, r2, e2, h2⟩ := mm_ri_v h'
      rw [e1] at e2
      cases e2
      exact ih _ _ _ _ h1.2 h2.2
    case putstatic n =>
      obtain ⟨a0, a1, r, e1, h1⟩ := mm_ri_v h
      obtain ⟨b0, b1, r2, e2, h2⟩ := mm_ri_v h'
      rw [e1] at e2
      cases e2
      exact ih _ _ _ _ h1.2.2 h2.2.2
    case checkcast n =>
      obtain ⟨a0, a1, r, e1, h1⟩ := mm_rl_v h
      obtain ⟨b0, b1, r2, e2, h2⟩ := mm_rl_v h'
      rw [e1] at e2
      cases e2
      exact ih _ _ _ _ h1.2 h2.2
    case laload =>
      obtain ⟨a0, a1, r, e1, h1⟩ := mm_ri_v h
      obtain ⟨b0, b1, r2, e2, h2⟩ := mm_ri_v h'
      rw [e1] at e2
      cases e2
      exact ih _ _ _ _ h1.2.2 h2.2.2
    case baload =>
      obtain ⟨a0, a1, r, e1, h1⟩ := mm_ri_v h
      obtain ⟨b0, b1, r2, e2, h2⟩ := mm_ri_v h'
      rw [e1] at e2
      cases e2
      exact ih _ _ _ _ h1.2.2 h2.2.2
    case aaload =>
      obtain ⟨a0, a1, r, e1, h1⟩ := mm_ri_v h
      obtain ⟨b0, b1, r2, e2, h2⟩ := mm_ri_v h'
      rw [e1] at e2
      cases e2
      exact ih _ _ _ _ h1.2.2 h2.2.2
    case iastore =>
      obtain ⟨a0, a1, a2, r, e1, h1⟩ := mm_rii_v h
      obtain ⟨b0, b1, b2, r2, e2, h2⟩ := mm_rii_v h'
      rw [e1] at e2
      cases e2
      exact ih _ _ _ _ h1.2.2 h2.2.2
    case bastore =>
      obtain ⟨a0, a1, a2, r, e1, h1⟩ := mm_rii_v h
      obtain ⟨b0, b1, b2, r2, e2, h2⟩ := mm_rii_v h'
      rw [e1] at e2
      cases e2
      exact ih _ _ _ _ h1.2.2.2 h2.2.2.2
    case lastore =>
      obtain ⟨a0, a1, a2, r, e1, h1⟩ := mm_ril_v h
      obtain ⟨b0, b1, b2, r2, e2, h2⟩ := mm_ril_v h'
      rw [e1] at e2
      cases e2
      exact ih _ _ _ _ h1.2.2 h2.2.2
    case monitorenter =>
      obtain ⟨a0, a1, a2, a3, a4, r, e1, h1⟩ := mm_cy_v h
      obtain ⟨b0, b1, b2, b3, b4, r2, e2, h2⟩ := mm_cy_v h'
      rw [e1] at e2
      cases e2
      exact ih _ _ _ _ h1.2.2.2.2.2.2.2.2 h2.2.2.2.2.2.2.2.2
    case if_icmp c t =>
      obtain ⟨a0, a1, r, e1, h1⟩ := mm_i2_v h
      obtain ⟨b0, b1, r2, e2, h2⟩ := mm_i2_v h'
      rw [e1] at e2
      cases e2
      rcases mm_br_d h1 h2 with ⟨q1, q2⟩ | ⟨q1, q2⟩
      · exact Or.inr ⟨_, _, _, _, _, q1, q2⟩
      · exact ih _ _ _ _ q1 q2
    case ifCond c t =>
      obtain ⟨a0, r, e1, h1⟩ := mm_i1_v h
      obtain ⟨b0, r2, e2, h2⟩ := mm_i1_v h'
      rw [e1] at e2
      cases e2
      rcases mm_br_d h1 h2 with ⟨q1, q2⟩ | ⟨q1, q2⟩
      · exact Or.inr ⟨_, _, _, _, _, q1, q2⟩
      · exact ih _ _ _ _ q1 q2
    case tableswitch d lo hi ts =>
      obtain ⟨a0, r, e1, h1⟩ := mm_i1_v h
      obtain ⟨b0, r2, e2, h2⟩ := mm_i1_v h'
      rw [e1] at e2
      cases e2
      obtain ⟨t, q1, q2⟩ := mm_sw_d _ _ h1 h2
      exact Or.inr ⟨_, _, _, _, _, q1, q2⟩
    case iaload =>
      obtain ⟨a0, a1, r, e1, h1⟩ := mm_ri_v h
      obtain ⟨b0, b1, r2, e2, h2⟩ := mm_ri_v h'
      rw [e1] at e2
      cases e2
      obtain ⟨v, q1, q2⟩ := mm_al_d h1 h2
      exact ih _ _ _ _ q1 q2
    case arraylength =>
      obtain ⟨a0, r, e1, h1⟩ := mm_r1_v h
      obtain ⟨b0, r2, e2, h2⟩ := mm_r1_v h'
      rw [e1] at e2
      cases e2
      obtain ⟨v, q1, q2⟩ := mm_an_d h1 h2
      exact ih _ _ _ _ q1 q2
    case ireturn =>
      obtain ⟨a0, r, e1, h1⟩ := mm_i1_v h
      obtain ⟨b0, r2, e2, h2⟩ := mm_i1_v h'
      rw [e1] at e2
      cases e2
      exact Or.inl ⟨_, _, _, h1.2, h2.2⟩
    case freturn =>
      obtain ⟨a0, r, e1, h1⟩ := mm_i1_v h
      obtain ⟨b0, r2, e2, h2⟩ := mm_i1_v h'
      rw [e1] at e2
      cases e2
      exact Or.inl ⟨_, _, _, h1.2.2, h2.2.2⟩
    case lreturn =>
      obtain ⟨a0, r, e1, h1⟩ := mm_l1_v h
      obtain ⟨b0, r2, e2, h2⟩ := mm_l1_v h'
      rw [e1] at e2
      cases e2
      exact Or.inl ⟨_, _, _, h1.2, h2.2⟩
    case return_ =>
      exact Or.inl ⟨_, _, _, h.2, h'.2⟩
    case pop =>
      have g1 : mm_dup st (fun _ r => mm_run z C rt ex e is ls r I J) := h
      have g2 : mm_dup st (fun _ r => mm_run z C rt' ex' e is ls r I J) := h'
      obtain ⟨v, r, e1, h1, -⟩ := mm_dup_v g1
      obtain ⟨v2, r2, e2, h2, -⟩ := mm_dup_v g2
      rw [e1] at e2
      cases e2
      exact ih _ _ _ _ h1 h2
    case dup =>
      have g1 : mm_dup st (fun v r => mm_run z C rt ex e is ls (v :: v :: r) I J) := h
      have g2 : mm_dup st (fun v r => mm_run z C rt' ex' e is ls (v :: v :: r) I J) := h'
      obtain ⟨v, r, e1, h1, -⟩ := mm_dup_v g1
      obtain ⟨v2, r2, e2, h2, -⟩ := mm_dup_v g2
      rw [e1] at e2
      cases e2
      exact ih _ _ _ _ h1 h2
    case goto t =>
      exact Or.inr ⟨_, _, _, _, _, h, h'⟩
    case ifnull t =>
      rcases mm_nn_v h with ⟨r, e1, h1⟩ | ⟨k1, r, e1, h1⟩ <;> rcases mm_nn_v h' with ⟨r2, e2, h2⟩ | ⟨k2, r2, e2, h2⟩ <;> rw [e1] at e2 <;> cases e2
      · exact Or.inr ⟨_, _, _, _, _, h1, h2⟩
      · exact ih _ _ _ _ h1 h2
    case ifnonnull t =>
      rcases mm_nn_v h with ⟨r, e1, h1⟩ | ⟨k1, r, e1, h1⟩ <;> rcases mm_nn_v h' with ⟨r2, e2, h2⟩ | ⟨k2, r2, e2, h2⟩ <;> rw [e1] at e2 <;> cases e2
      · exact ih _ _ _ _ h1 h2
      · exact Or.inr ⟨_, _, _, _, _, h1, h2⟩
    case astore k =>
      rcases mm_nn_v h with ⟨r, e1, h1⟩ | ⟨k1, r, e1, h1⟩ <;> rcases mm_nn_v h' with ⟨r2, e2, h2⟩ | ⟨k2, r2, e2, h2⟩ <;> rw [e1] at e2 <;> cases e2
      · exact ih _ _ _ _ h1 h2
      · rw [e1] at h1 h2
        exact ih _ _ _ _ h1 h2
    case areturn =>
      rcases mm_nn_v h with ⟨r, e1, h1⟩ | ⟨k1, r, e1, h1⟩ <;> rcases mm_nn_v h' with ⟨r2, e2, h2⟩ | ⟨k2, r2, e2, h2⟩ <;> rw [e1] at e2 <;> cases e2
      · exact Or.inl ⟨_, _, _, h1.2, h2.2⟩
      · rw [e1] at h1 h2
        exact Or.inl ⟨_, _, _, (show r = [] ∧ rt (some (.ref k1)) I J from h1).2, (show r = [] ∧ rt' (some (.ref k1)) I J from h2).2⟩
    case invokeinterface g n =>
      obtain ⟨bs, r, e1, hb, h1⟩ := mm_pn_v _ _ _ h
      obtain ⟨bs2, r2, e2, hb2, h2⟩ := mm_pn_v _ _ _ h'
      rw [e1] at e2
      obtain ⟨rfl, rfl⟩ := mm_app_inj e2 (hb.trans hb2.symm)
      obtain ⟨v, I2, J2, q1, q2⟩ := hC _ _ _ _ _ _ h1.2 h2.2
      exact ih _ _ _ _ q1 q2
    case multianewarray g n =>
      obtain ⟨bs, r, e1, hb, h1⟩ := mm_pn_v _ _ _ h
      obtain ⟨bs2, r2, e2, hb2, h2⟩ := mm_pn_v _ _ _ h'
      rw [e1] at e2
      obtain ⟨rfl, rfl⟩ := mm_app_inj e2 (hb.trans hb2.symm)
      obtain ⟨v, I2, J2, q1, q2⟩ := hC _ _ _ _ _ _ h1.2.2 h2.2.2
      exact ih _ _ _ _ q1 q2
    all_goals exact False.elim h
theorem mm_at_v {z : mm_S} {d : Nat} {bs : List mm_B} {rt : Option Value → mm_I → mm_J → Prop} {pc : Nat} {ls : mm_L} {st : List Value} {I : mm_I} {J : mm_J} (h : mm_at z (mm_call z d) bs rt pc ls st I J) : ∃ e is, mm_bk bs pc = some (e, is) ∧ mm_run z (mm_call z d) rt (mm_at z (mm_call z d) bs rt) e is ls st I J := by
  refine h (fun pc ls st I J => ∃ e is, mm_bk bs pc = some (e, is) ∧ mm_run z (mm_call z d) rt (mm_at z (mm_call z d) bs rt) e is ls st I J) ?_
  intro pc ls st I J e is hb hq
  refine ⟨e, is, hb, mm_run_m (mm_call_m d) (fun _ _ _ q => q) ?_ is ls st I J hq⟩
  rintro pc ls st I J ⟨e, is, hb, hq⟩
  exact mm_at_i hb hq
theorem mm_at_d {z : mm_S} {d : Nat} {bs : List mm_B} {rt rt' : Option Value → mm_I → mm_J → Prop} (hC : mm_Cd (mm_call z d)) {pc : Nat} {ls : mm_L} {st : List Value} {I : mm_I} {J : mm_J} (h : mm_at z (mm_call z d) bs rt pc ls st I J) (h' : mm_at z (mm_call z d) bs rt' pc ls st I J) : ∃ v I J, rt v I J ∧ rt' v I J := by
  refine h (fun pc ls st I J => mm_at z (mm_call z d) bs rt' pc ls st I J → ∃ v I J, rt v I J ∧ rt' v I J) ?_ h'
  intro pc ls st I J e is hb hq h2
  obtain ⟨e2, is2, hb2, hq2⟩ := mm_at_v h2
  cases hb.symm.trans hb2
  rcases mm_run_d hC is ls st I J hq hq2 with q | ⟨pc, ls, st, I, J, q1, q2⟩
  · exact q
  · exact q1 q2
theorem mm_call_det {z : mm_S} : ∀ d : Nat, mm_Cd (mm_call z d)
  | 0 => fun _ _ _ _ _ _ h _ => h.elim
  | d + 1 => fun _ _ _ _ _ _ h h' => mm_at_d (mm_call_det d) h.2 h'.2
/-- a call that ends with one answer and one memory: then it may be rewritten -/
theorem mm_ev {z : mm_S} {d g : Nat} {as : List Value} {I I' : mm_I} {J J' : mm_J} {r : Option Value} (h : mm_call z d g as I J (fun v a b => v = r ∧ a = I' ∧ b = J')) (Q : Option Value → mm_I → mm_J → Prop) : mm_call z d g as I J Q = Q r I' J' := by
  apply propext
  constructor
  · intro h2
    obtain ⟨v, a, b, ⟨rfl, rfl, rfl⟩, q⟩ := mm_call_det d _ _ _ _ _ _ h h2
    exact q
  · intro q
    refine mm_call_m d _ _ _ _ _ _ ?_ h
    rintro v a b ⟨rfl, rfl, rfl⟩
    exact q
/-- the same from a place inside -/
theorem mm_evat {z : mm_S} {d : Nat} {bs : List mm_B} {pc : Nat} {ls : mm_L} {st : List Value} {I I' : mm_I} {J J' : mm_J} {r : Option Value} (h : mm_at z (mm_call z d) bs (fun v a b => v = r ∧ a = I' ∧ b = J') pc ls st I J) (Q : Option Value → mm_I → mm_J → Prop) : mm_at z (mm_call z d) bs Q pc ls st I J = Q r I' J' := by
  apply propext
  constructor
  · intro h2
    obtain ⟨v, a, b, ⟨rfl, rfl, rfl⟩, q⟩ := mm_at_d (mm_call_det d) h h2
    exact q
  · intro q
    refine mm_at_m (mm_call_m d) ?_ h
    rintro v a b ⟨rfl, rfl, rfl⟩
    exact q
/-- unfolding by blocks -/
def mm_un (z : mm_S) (C : mm_C) (bs : List mm_B) (rt : Option Value → mm_I → mm_J → Prop) : Nat → Nat → mm_L → List Value → mm_I → mm_J → Prop
  | 0, pc, ls, st, I, J => mm_at z C bs rt pc ls st I J
  | n + 1, pc, ls, st, I, J => ∃ e is, mm_bk bs pc = some (e, is) ∧ mm_run z C rt (mm_un z C bs rt n) e is ls st I J
theorem mm_un_at {z : mm_S} {d : Nat} {bs : List mm_B} {rt : Option Value → mm_I → mm_J → Prop} : ∀ (n pc : Nat) (ls : mm_L) (st : List Value) (I : mm_I) (J : mm_J), mm_un z (mm_call z d) bs rt n pc ls st I J → mm_at z (mm_call z d) bs rt pc ls st I J
  | 0, _, _, _, _, _, h => h
  | n + 1, pc, ls, st, I, J, h => by
    obtain ⟨e, is, hb, hq⟩ := h
    exact mm_at_i hb (mm_run_m (mm_call_m d) (fun _ _ _ q => q) (mm_un_at n) is ls st I J hq)
theorem mm_un_s {z : mm_S} {C : mm_C} {bs : List mm_B} {rt : Option Value → mm_I → mm_J → Prop} {n pc : Nat} {ls : mm_L} {st : List Value} {I : mm_I} {J : mm_J} {e : Nat} {is : List Instr} (hb : mm_bk bs pc = some (e, is)) : mm_un z C bs rt (n + 1) pc ls st I J = mm_run z C rt (mm_un z C bs rt n) e is ls st I J := by
  apply propext
  constructor
  · rintro ⟨e2, is2, hb2, hq⟩
    cases hb.symm.trans hb2
    exact hq
  · intro hq
    exact ⟨e, is, hb, hq⟩
theorem mm_call_u (n : Nat) {z : mm_S} {d g : Nat} {as : List Value} {I : mm_I} {J : mm_J} {Q : Option Value → mm_I → mm_J → Prop} (hl : Nat.ble (mm_en as).length (mm_ml g) = true) (h : mm_un z (mm_call z d) (mm_code g) Q n 0 (mm_entry as (mm_ml g)) [] I J) : mm_call z (d + 1) g as I J Q := mm_call_i hl (mm_un_at n _ _ _ _ _ h)
