/-! the picture of the cells in the heap -/
abbrev ms_X : Type := Nat × va_G × (Nat → ClassId) × (Nat → Nat)
def ms_A (X : ms_X) : Nat → Prop := fun q => X.1 ≤ q
def ms_r (X : ms_X) (k : Nat) : Nat := if k < 900 then X.1 + k else X.2.2.2 k
def ms_v (X : ms_X) : Value → Value
  | .ref k => .ref (ms_r X k)
  | v => v
theorem ms_v_cat (X : ms_X) (v : Value) : (ms_v X v).category = v.category := by cases v <;> rfl
theorem ms_v_rf (X : ms_X) (o : Option Nat) (h : ∀ k, o = some k → k < 900) : ms_v X (va_rf o) = va_rf (o.map (X.1 + ·)) := by
  cases o with
  | none => rfl
  | some k =>
    show Value.ref (ms_r X k) = Value.ref (X.1 + k)
    rw [ms_r, if_pos (h k rfl)]
abbrev ms_uT (c : String × List (String × String × Bool)) : u_T := mk_uT c
def ms_cl : List vw_C := mt_cls.map fun c => (c.1, ms_uT c, c.2.length)
def ms_fv (X : ms_X) (I : mm_I) (J : mm_J) (k f t : Nat) : Value := if t = 1 then .long (J k f) else if t = 2 then va_rf ((mm_R k f).map (X.1 + ·)) else .int (I k f)
def ms_fs (X : ms_X) (I : mm_I) (J : mm_J) (k : Nat) : List Value := (List.range (mm_T k).2).map fun f => ms_fv X I J k f (mk_ty ((mm_T k).1 * 100 + f))
def ms_ar (X : ms_X) (I : mm_I) (J : mm_J) (k : Nat) : vp_A := ((mm_T k).2, if (mm_T k).1 = 101 then .inr (.inl (J k)) else if (mm_T k).1 = 100 ∨ (mm_T k).1 = 102 then .inl (I k) else .inr (.inr (.inr (.inr fun j => (mm_R k j).map (X.1 + ·)))))
def ms_ce (X : ms_X) (I : mm_I) (J : mm_J) (k : Nat) : va_E := if (mm_T k).1 < 100 then .inr ((mm_T k).1, ms_fs X I J k) else .inl (X.2.2.1 (mm_T k).1, ms_ar X I J k)
def ms_ws (X : ms_X) (I : mm_I) (J : mm_J) : va_W := (List.range mm_N).map fun k => (X.1 + k, ms_ce X I J k)
def ms_tys (X : ms_X) : List (ClassId × FieldType) := [(X.2.2.1 100, .int), (X.2.2.1 101, .long), (X.2.2.1 102, .boolean), (X.2.2.1 103, .object "RowGrader$Row"), (X.2.2.1 104, .object "RowGrader$Figure"), (X.2.2.1 105, .array .int)]
def ms_P (X : ms_X) (I : mm_I) (J : mm_J) (H : Heap) : Prop := va_P X.2.1 ms_cl (ms_ws X I J) H
def ms_Z (X : ms_X) (z : mm_S) (U : State) : Prop := (∀ q ∈ mt_st, va_Z q.2.1 q.2.2.1 "[I" (.ref (X.2.2.2 q.1)) (ms_A X) U U.heap ∧ va_T .int (X.2.2.2 q.1) q.2.2.2.length (fun j => .int (Int32.ofInt (q.2.2.2.getD j 0))) (ms_A X) U U.heap) ∧ va_X (X.2.2.2 999) z.1 z.2 U U.heap ∧ X.2.2.2 999 < X.1
def ms_E (X : ms_X) (z : mm_S) (U : State) : Prop := va_K X.2.1 ms_cl (ms_tys X) U ∧ ms_Z X z U ∧ X.1 ≤ U.heap.size
theorem ms_ws_at {X : ms_X} {I : mm_I} {J : mm_J} {k : Nat} (h : k < mm_N) : (ms_ws X I J)[k]? = some (X.1 + k, ms_ce X I J k) := by
  simp [ms_ws, h]
theorem ms_D (X : ms_X) (I : mm_I) (J : mm_J) : va_D (ms_A X) (ms_ws X I J) := by
  have key : ∀ (i : Nat) (q : Nat × va_E), (ms_ws X I J)[i]? = some q → q.1 = X.1 + i := by
    intro i q h
    have hi : i < mm_N := by
      have := (List.getElem?_eq_some_iff.mp h).1
      simpa [ms_ws] using this
    rw [ms_ws_at hi] at h
    cases h
    rfl
  refine ⟨fun i j p q hp hq h => ?_, fun k q h => ?_⟩
  · rw [key i p hp, key j q hq] at h
    omega
  · show X.1 ≤ q.1
    rw [key k q h]
    omega
theorem ms_set {X : ms_X} {I I' : mm_I} {J J' : mm_J} {k : Nat} (hI : ∀ a, a ≠ k → I' a = I a) (hJ : ∀ a, a ≠ k → J' a = J a) : (ms_ws X I J).set k (X.1 + k, ms_ce X I' J' k) = ms_ws X I' J' := by
  apply List.ext_getElem?
  intro i
  by_cases hi : i < mm_N
  · rw [ms_ws_at hi]
    by_cases e : i = k
    · subst e
      rw [List.getElem?_set_self (by simpa [ms_ws] using hi)]
    · rw [List.getElem?_set_ne (fun h => e h.symm), ms_ws_at hi]
      have : ms_ce X I J i = ms_ce X I' J' i := by
        unfold ms_ce ms_fs ms_ar ms_fv
        rw [hI i e, hJ i e]
      rw [this]
  · rw [List.getElem?_eq_none (by simp [ms_ws]; omega), List.getElem?_eq_none (by simp [ms_ws]; omega)]
theorem ms_Tl_len : mt_Tl.length = 158 := by decide +kernel
theorem ms_T_lt {k : Nat} (h : (mm_T k).1 < 200) : k < mm_N := by
  unfold mm_T at h
  split at h
  · by_cases hk : k < 158
    · exact hk
    · rw [List.getD_eq_getElem?_getD, List.getElem?_eq_none (by rw [ms_Tl_len]; omega)] at h
      exact absurd h (by decide)
  · split at h
    · exact absurd h (by decide)
    · split at h
      · exact absurd h (by simp)
      · exact absurd h (by decide)
theorem ms_r_lt {X : ms_X} {k : Nat} (h : k < mm_N) : ms_r X k = X.1 + k := by
  have : mm_N = 158 := rfl
  rw [ms_r, if_pos (by omega)]
theorem ms_R_lt : ∀ r ∈ mt_Rl, ∀ o ∈ r, o = none ∨ ∃ k, o = some k ∧ k < 900 := by
  have h : (mt_Rl.all fun r => r.all fun o => match o with | none => true | some k => decide (k < 900)) = true := by decide +kernel
  intro r hr o ho
  have h1 := List.all_eq_true.mp (List.all_eq_true.mp h r hr) o ho
  cases o with
  | none => exact Or.inl rfl
  | some k => exact Or.inr ⟨k, rfl, by simpa using h1⟩
theorem ms_R_ok {k j r : Nat} (h : mm_R k j = some r) : r < 900 := by
  unfold mm_R at h
  have h1 : some r ∈ mt_Rl.getD k [] := by
    rw [List.getD_eq_getElem?_getD] at h
    cases hq : (mt_Rl.getD k [])[j]? with
    | none => rw [hq] at h; cases h
    | some o =>
      rw [hq] at h
      have : o = some r := h
      subst this
      exact List.mem_of_getElem? hq
  have h2 : mt_Rl.getD k [] ∈ mt_Rl := by
    rw [List.getD_eq_getElem?_getD] at h1 ⊢
    cases hq : mt_Rl[k]? with
    | none => rw [hq] at h1; cases h1
    | some l => exact List.mem_of_getElem? hq
  rcases ms_R_lt _ h2 _ h1 with e | ⟨q, e, hq⟩
  · cases e
  · cases e
    exact hq
/-! the locals -/
def ms_ll (X : ms_X) : Nat → mm_L → List (Nat × Value)
  | _, [] => []
  | i, none :: t => ms_ll X (i + 1) t
  | i, some v :: t => (i, ms_v X v) :: ms_ll X (i + 1) t
theorem ms_ll_mem {X : ms_X} {q : Nat × Value} : ∀ {ls : mm_L} {i : Nat}, q ∈ ms_ll X i ls ↔ ∃ (j : Nat) (v : Value), q = (i + j, ms_v X v) ∧ mm_gt ls j = some v := by
  intro ls
  induction ls with
  | nil =>
    intro i
    constructor
    · intro h
      cases h
    · rintro ⟨j, v, -, h⟩
      cases h
  | cons o t ih =>
    intro i
    have step : q ∈ ms_ll X (i + 1) t ↔ ∃ (j : Nat) (v : Value), q = (i + (j + 1), ms_v X v) ∧ mm_gt t j = some v := by
      rw [ih]
      constructor
      · rintro ⟨j, v, h1, h2⟩
        exact ⟨j, v, by rw [h1, Nat.add_assoc, Nat.add_comm 1 j], h2⟩
      · rintro ⟨j, v, h1, h2⟩
        exact ⟨j, v, by rw [h1, Nat.add_assoc, Nat.add_comm 1 j], h2⟩
    cases o with
    | none =>
      show q ∈ ms_ll X (i + 1) t ↔ _
      rw [step]
      constructor
      · rintro ⟨j, v, h1, h2⟩
        exact ⟨j + 1, v, h1, h2⟩
      · rintro ⟨j, v, h1, h2⟩
        cases j with
        | zero => cases h2
        | succ j => exact ⟨j, v, h1, h2⟩
    | some w =>
      show q ∈ (i, ms_v X w) :: ms_ll X (i + 1) t ↔ _
      rw [List.mem_cons, step]
      constructor
      · rintro (h | ⟨j, v, h1, h2⟩)
        · exact ⟨0, w, h, rfl⟩
        · exact ⟨j + 1, v, h1, h2⟩
      · rintro ⟨j, v, h1, h2⟩
        cases j with
        | zero =>
          cases h2
          exact Or.inl h1
        | succ j => exact Or.inr ⟨j, v, h1, h2⟩
def ms_lv (X : ms_X) (ls : Array Slot) (n : Nat) (l : mm_L) : Prop := lv_has ls n (ms_ll X 0 l)
theorem ms_lv_at {X : ms_X} {ls : Array Slot} {n : Nat} {l : mm_L} (h : ms_lv X ls n l) {i : Nat} {v : Value} (hv : mm_gt l i = some v) : ls[i]? = some (.val (ms_v X v)) := by
  have := h.2.2 (i, ms_v X v) (ms_ll_mem.mpr ⟨i, v, by rw [Nat.zero_add], hv⟩)
  exact this
theorem mm_clr_some {o : Option Value} {v : Value} (h : mm_clr o = some v) : o = some v ∧ ¬ v.category = 2 := by
  cases o with
  | none => cases h
  | some w => cases w <;> first | (cases h; done) | (cases h; exact ⟨rfl, by simp [Value.category]⟩)
theorem mm_gt_s1 : ∀ (ls : mm_L) (i : Nat) (x : Value) (j : Nat) (v : Value), mm_gt (mm_s1 ls i x) j = some v → (j = i ∧ v = x) ∨ (j ≠ i ∧ mm_gt ls j = some v ∧ (j + 1 = i → ¬ v.category = 2))
  | [], _, _, j, v, h => by cases h
  | o :: t, 0, x, 0, v, h => by
    cases h
    exact Or.inl ⟨rfl, rfl⟩
  | o :: t, 0, x, j + 1, v, h => Or.inr ⟨by omega, h, fun e => by omega⟩
  | o :: t, 1, x, 0, v, h => by
    obtain ⟨h1, h2⟩ := mm_clr_some h
    exact Or.inr ⟨by omega, h1, fun _ => h2⟩
  | o :: t, 1, x, j + 1, v, h => by
    rcases mm_gt_s1 t 0 x j v h with ⟨h1, h2⟩ | ⟨h1, h2, h3⟩
    · exact Or.inl ⟨by omega, h2⟩
    · exact Or.inr ⟨by omega, h2, fun e => by omega⟩
  | o :: t, i + 2, x, 0, v, h => Or.inr ⟨by omega, h, fun e => by omega⟩
  | o :: t, i + 2, x, j + 1, v, h => by
    rcases mm_gt_s1 t (i + 1) x j v h with ⟨h1, h2⟩ | ⟨h1, h2, h3⟩
    · exact Or.inl ⟨by omega, h2⟩
    · exact Or.inr ⟨by omega, h2, fun e => h3 (by omega)⟩
theorem mm_gt_s2 : ∀ (ls : mm_L) (i : Nat) (x : Value) (j : Nat) (v : Value), mm_gt (mm_s2 ls i x) j = some v → (j = i ∧ v = x) ∨ (j ≠ i ∧ j ≠ i + 1 ∧ mm_gt ls j = some v ∧ (j + 1 = i → ¬ v.category = 2))
  | [], _, _, j, v, h => by cases h
  | o :: t, 0, x, 0, v, h => by
    cases h
    exact Or.inl ⟨rfl, rfl⟩
  | o :: [], 0, x, j + 1, v, h => by cases h
  | o :: o2 :: t, 0, x, 1, v, h => by cases h
  | o :: o2 :: t, 0, x, j + 2, v, h => Or.inr ⟨by omega, by omega, h, fun e => by omega⟩
  | o :: t, 1, x, 0, v, h => by
    obtain ⟨h1, h2⟩ := mm_clr_some h
    exact Or.inr ⟨by omega, by omega, h1, fun _ => h2⟩
  | o :: t, 1, x, j + 1, v, h => by
    rcases mm_gt_s2 t 0 x j v h with ⟨h1, h2⟩ | ⟨h1, h2, h3, h4⟩
    · exact Or.inl ⟨by omega, h2⟩
    · exact Or.inr ⟨by omega, by omega, h3, fun e => by omega⟩
  | o :: t, i + 2, x, 0, v, h => Or.inr ⟨by omega, by omega, h, fun e => by omega⟩
  | o :: t, i + 2, x, j + 1, v, h => by
    rcases mm_gt_s2 t (i + 1) x j v h with ⟨h1, h2⟩ | ⟨h1, h2, h3, h4⟩
    · exact Or.inl ⟨by omega, h2⟩
    · exact Or.inr ⟨by omega, by omega, h3, fun e => h4 (by omega)⟩
theorem ms_lv_s1 {X : ms_X} {ls : Array Slot} {n i : Nat} {l : mm_L} {x : Value} (h : lv_has ls n ((i, ms_v X x) :: (ms_ll X 0 l).filter (fun q => !(q.1 == i) && !(q.1 + 1 == i && q.2.category == 2)))) : ms_lv X ls n (mm_s1 l i x) := by
  refine ⟨h.1, h.2.1, fun q hq => ?_⟩
  obtain ⟨j, v, rfl, hv⟩ := ms_ll_mem.mp hq
  rw [Nat.zero_add]
  rcases mm_gt_s1 l i x j v hv with ⟨rfl, rfl⟩ | ⟨h1, h2, h3⟩
  · exact h.2.2 _ List.mem_cons_self
  · refine h.2.2 (j, ms_v X v) (List.mem_cons_of_mem _ (List.mem_filter.mpr ⟨ms_ll_mem.mpr ⟨j, v, by rw [Nat.zero_add], h2⟩, ?_⟩))
    rw [ms_v_cat]
    by_cases e : j + 1 = i
    · simp [h1, h3 e]
    · simp [h1, e]
theorem ms_lv_s2 {X : ms_X} {ls : Array Slot} {n i : Nat} {l : mm_L} {x : Value} (h : lv_has ls n ((i, ms_v X x) :: (ms_ll X 0 l).filter (fun q => !(q.1 == i) && (!(q.1 == i + 1) && !(q.1 + 1 == i && q.2.category == 2))))) : ms_lv X ls n (mm_s2 l i x) := by
  refine ⟨h.1, h.2.1, fun q hq => ?_⟩
  obtain ⟨j, v, rfl, hv⟩ := ms_ll_mem.mp hq
  rw [Nat.zero_add]
  rcases mm_gt_s2 l i x j v hv with ⟨rfl, rfl⟩ | ⟨h1, h1', h2, h3⟩
  · exact h.2.2 _ List.mem_cons_self
  · refine h.2.2 (j, ms_v X v) (List.mem_cons_of_mem _ (List.mem_filter.mpr ⟨ms_ll_mem.mpr ⟨j, v, by rw [Nat.zero_add], h2⟩, ?_⟩))
    rw [ms_v_cat]
    by_cases e : j + 1 = i
    · simp [h1, h1', h3 e]
    · simp [h1, h1', e]
theorem mm_gt_app : ∀ (a : mm_L) (n j : Nat) (v : Value), mm_gt (a ++ List.replicate n none) j = some v → mm_gt a j = some v
  | [], n, j, v, h => by
    exfalso
    rw [List.nil_append] at h
    induction n generalizing j with
    | zero => cases h
    | succ n ih =>
      cases j with
      | zero => cases h
      | succ j => exact ih j h
  | o :: t, n, 0, v, h => h
  | o :: t, n, j + 1, v, h => mm_gt_app t n j v h
theorem ms_en_mem {X : ms_X} : ∀ (as : List Value) (i j : Nat) (v : Value), mm_gt (mm_en as) j = some v → (i + j, ms_v X v) ∈ lv_args i (as.map (ms_v X))
  | [], _, _, _, h => by cases h
  | w :: as, i, j, v, h => by
    by_cases hw : w.category = 2
    · have e1 : mm_en (w :: as) = some w :: none :: mm_en as := by
        cases w <;> first | rfl | (exfalso; simp [Value.category] at hw)
      have e2 : lv_args i ((w :: as).map (ms_v X)) = (i, ms_v X w) :: lv_args (i + 2) (as.map (ms_v X)) := by
        show (i, ms_v X w) :: lv_args (if (ms_v X w).category = 2 then i + 2 else i + 1) (as.map (ms_v X)) = _
        rw [ms_v_cat, if_pos hw]
      rw [e1] at h
      rw [e2]
      match j, h with
      | 0, h =>
        cases h
        exact List.mem_cons_self
      | 1, h => cases h
      | j + 2, h =>
        have := ms_en_mem (X := X) as (i + 2) j v h
        rw [show i + (j + 2) = i + 2 + j by omega]
        exact List.mem_cons_of_mem _ this
    · have e1 : mm_en (w :: as) = some w :: mm_en as := by
        cases w <;> first | rfl | (exfalso; exact hw rfl)
      have e2 : lv_args i ((w :: as).map (ms_v X)) = (i, ms_v X w) :: lv_args (i + 1) (as.map (ms_v X)) := by
        show (i, ms_v X w) :: lv_args (if (ms_v X w).category = 2 then i + 2 else i + 1) (as.map (ms_v X)) = _
        rw [ms_v_cat, if_neg hw]
      rw [e1] at h
      rw [e2]
      match j, h with
      | 0, h =>
        cases h
        exact List.mem_cons_self
      | j + 1, h =>
        have := ms_en_mem (X := X) as (i + 1) j v h
        rw [show i + (j + 1) = i + 1 + j by omega]
        exact List.mem_cons_of_mem _ this
theorem ms_lv_en {X : ms_X} {ls : Array Slot} {n k : Nat} {as : List Value} (h : lv_has ls n (lv_args 0 (as.map (ms_v X)))) : ms_lv X ls n (mm_entry as k) := by
  refine ⟨h.1, h.2.1, fun q hq => ?_⟩
  obtain ⟨j, v, rfl, hv⟩ := ms_ll_mem.mp hq
  have := ms_en_mem (X := X) as 0 j v (mm_gt_app _ _ _ _ hv)
  exact h.2.2 _ this
