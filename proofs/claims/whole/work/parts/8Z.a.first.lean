/-! the first state -/
def cs_I0 : mm_I := fun k => cs_vI (cs_h0.getD k (0, [])).2
def cs_J0 : mm_J := fun k => cs_vJ (cs_h0.getD k (0, [])).2
def cs_rO (v : Value) : Option Nat := match v with
  | .ref r => some r
  | _ => none
/-- a cell as the tables have it -/
def cs_cok (k : Nat) : Bool := decide ((cs_h0.getD k (0, [])).1 = (mm_T k).1) && decide ((cs_h0.getD k (0, [])).2.length = (mm_T k).2) && (if (cs_h0.getD k (0, [])).1 < 100 then (List.range (cs_h0.getD k (0, [])).2.length).all (fun f => match (cs_h0.getD k (0, [])).2.getD f .null with
  | .int _ => decide (mk_ty ((mm_T k).1 * 100 + f) ≠ 1 ∧ mk_ty ((mm_T k).1 * 100 + f) ≠ 2)
  | .long _ => decide (mk_ty ((mm_T k).1 * 100 + f) = 1)
  | .ref r => decide (mk_ty ((mm_T k).1 * 100 + f) = 2 ∧ mm_R k f = some r ∧ r < 900)
  | .null => decide (mk_ty ((mm_T k).1 * 100 + f) = 2 ∧ mm_R k f = none)
  | _ => false) else (decide ((cs_h0.getD k (0, [])).1 < 103) || decide ((cs_h0.getD k (0, [])).2.map cs_rO = mt_Rl.getD k [])))
set_option maxRecDepth 100000 in
theorem cs_cok_ok : (List.range 158).all cs_cok = true := by decide +kernel
theorem cs_h0_len : cs_h0.length = 158 := by decide +kernel
theorem cs_ce {X : ms_X} {k : Nat} (hk : k < 158) : cs_e X (cs_h0.getD k (0, [])) = ms_ce X cs_I0 cs_J0 k := by
  have h := List.all_eq_true.mp cs_cok_ok k (List.mem_range.mpr hk)
  unfold cs_cok at h
  simp only [Bool.and_eq_true, decide_eq_true_eq] at h
  obtain ⟨⟨h1, h2⟩, h3⟩ := h
  have eI : cs_I0 k = cs_vI (cs_h0.getD k (0, [])).2 := rfl
  have eJ : cs_J0 k = cs_vJ (cs_h0.getD k (0, [])).2 := rfl
  generalize cs_h0.getD k (0, []) = c at h1 h2 h3 eI eJ ⊢
  by_cases q : c.1 < 100
  · rw [if_pos q] at h3
    rw [cs_e_o q]
    unfold ms_ce
    rw [if_pos (by omega), ← h1]
    congr 2
    unfold ms_fs
    apply List.ext_getElem?
    intro f
    rw [List.getElem?_map, List.getElem?_map]
    by_cases hf : f < c.2.length
    · have t := List.all_eq_true.mp h3 f (List.mem_range.mpr hf)
      rw [List.getElem?_range (by omega)]
      rw [List.getD_eq_getElem?_getD] at t
      have eIf : cs_I0 k f = cs_vI c.2 f := by rw [eI]
      have eJf : cs_J0 k f = cs_vJ c.2 f := by rw [eJ]
      cases ev : c.2[f]? with
      | none => rw [List.getElem?_eq_none_iff] at ev; omega
      | some v =>
        rw [ev] at t
        show some (ms_v X v) = some (ms_fv X cs_I0 cs_J0 k f (mk_ty ((mm_T k).1 * 100 + f)))
        congr 1
        unfold ms_fv
        cases v with
        | int x =>
          have t := of_decide_eq_true t
          rw [if_neg t.1, if_neg t.2, eIf]
          show Value.int x = _
          unfold cs_vI
          rw [ev]
        | long x =>
          have t := of_decide_eq_true t
          rw [if_pos t, eJf]
          show Value.long x = _
          unfold cs_vJ
          rw [ev]
        | ref r =>
          have t := of_decide_eq_true t
          rw [if_neg (by omega), if_pos t.1, t.2.1, cs_r t.2.2]
          rfl
        | null =>
          have t := of_decide_eq_true t
          rw [if_neg (by omega), if_pos t.1, t.2]
          rfl
        | _ => cases t
    · rw [List.getElem?_eq_none (by omega), List.getElem?_eq_none (by rw [List.length_range]; omega)]
      rfl
  · rw [if_neg q] at h3
    unfold cs_e ms_ce
    rw [if_neg q, if_neg (by omega), ← h1]
    congr 2
    unfold cs_a ms_ar
    rw [h2, ← h1]
    congr 1
    by_cases q1 : c.1 = 101
    · rw [if_pos q1, if_pos q1, eJ]
    · rw [if_neg q1, if_neg q1]
      by_cases q2 : c.1 = 100 ∨ c.1 = 102
      · rw [if_pos q2, if_pos q2, eI]
      · rw [if_neg q2, if_neg q2]
        have h3 : c.2.map cs_rO = mt_Rl.getD k [] := by
          simp only [Bool.or_eq_true, decide_eq_true_eq] at h3
          exact h3.resolve_left (by omega)
        congr 4
        funext j
        unfold mm_R
        rw [← h3, List.getD_eq_getElem?_getD, List.getElem?_map]
        unfold cs_vR
        cases ev : c.2[j]? with
        | none => rfl
        | some v => cases v <;> rfl
theorem cs_ws0 {X : ms_X} : cs_ws X cs_h0 = ms_ws X cs_I0 cs_J0 := by
  unfold cs_ws ms_ws
  rw [cs_h0_len]
  refine List.map_congr_left (fun k hk => ?_)
  rw [cs_ce (List.mem_range.mp hk)]
def cs_wl : List (List Nat) := [[108, 105, 110, 101], [112, 97, 114], [112, 101, 114, 112], [101, 113], [109, 105, 100], [99, 105, 114, 99], [98, 116, 119], [103, 105, 118, 101, 110], [115, 101, 101, 110], [98, 121], [111, 102]]
def cs_W0 : Nat → Nat → List Nat := fun _ k => cs_wl.getD k []
def cs_s0 : st_T := (0, 0, 0, false, fun _ => (fun _ => 0, fun _ => 0, 0), fun _ => 0, 0, 0, cs_W0, fun _ => (0, 0, -5, []), false, fun _ => gr0, [])
theorem cs_rw : rw_W cs_W0 := by
  have h1 : ∀ k, k < 11 → isW (cs_wl.getD k []) := by
    have t : ∀ k, k < 11 → (cs_wl.getD k [] ≠ [] ∧ (cs_wl.getD k []).length ≤ 8 ∧ ((cs_wl.getD k []).all fun c => decide (97 ≤ c ∧ c ≤ 122)) = true) := by decide +kernel
    intro k hk
    obtain ⟨a, b, c⟩ := t k hk
    exact ⟨a, b, fun x hx => of_decide_eq_true (List.all_eq_true.mp c x hx)⟩
  have h2 : ∀ k, k < 11 → ∀ k', k' < 11 → cs_wl.getD k [] = cs_wl.getD k' [] → k = k' := by decide +kernel
  exact ⟨fun l k _ hk => h1 k hk, fun l k k' _ hk hk' e => h2 k hk k' hk' e⟩
theorem cs_iv : ivt cs_s0 := by
  refine iv_0 ⟨⟨?_, ?_, ?_, ?_⟩, fun i _ => ⟨fun p _ => ⟨?_, ?_⟩, ?_⟩, cs_rw, fun r r1 r2 => ?_, fun w => ?_⟩ rfl rfl
  · show 0 ≤ 7; omega
  · show 0 ≤ 6; omega
  · show 0 ≤ 40; omega
  · show 0 < 2; omega
  · show bd 0; unfold bd; decide
  · show bd 0; unfold bd; decide
  · show 0 < 128; omega
  · have : r ≤ 0 := r2
    omega
  · cases w
set_option maxRecDepth 100000 in
theorem cs_wC : ∀ k, k < 22 → cs_J0 107 k = tk_x 0 256 (cs_wl.getD (k % 11) []) ∧ cs_J0 139 k = tk_w (cs_wl.getD (k % 11) []) := by decide +kernel
set_option maxRecDepth 100000 in
theorem cs_fC : ∀ i, i < 6 → ∀ p, p < 7 → cs_I0 (86 + 3 * i + 1) p = 0 ∧ cs_I0 (86 + 3 * i + 2) p = 0 ∧ cs_I0 (86 + 3 * i) 2 = 0 ∧ cs_I0 128 (7 * i + p) = 0 ∧ cs_I0 129 (7 * i + p) = 0 ∧ cs_I0 130 (7 * i + p) = 0 := by decide +kernel
set_option maxRecDepth 100000 in
theorem cs_tC : ∀ m, m < 17 → (cs_I0 131 m = nI (mtL.getD m 0) ∧ cs_I0 132 m = nI (mtF.getD m 0) ∧ cs_I0 133 m = Int32.ofInt (mt1.getD m 0) ∧ cs_I0 134 m = Int32.ofInt (mt2.getD m 0) ∧ cs_I0 135 m = Int32.ofInt (mt3.getD m 0)) := by decide +kernel
set_option maxRecDepth 100000 in
theorem cs_sC : (cs_I0 1 0 = 0 ∧ cs_I0 1 1 = 0 ∧ cs_I0 1 2 = 0 ∧ cs_I0 1 3 = 0 ∧ cs_I0 104 1 = 0 ∧ cs_I0 106 1 = 0 ∧ cs_I0 112 3 = 0) ∧ (cs_I0 127 0 = 0 ∧ cs_I0 127 1 = 0 ∧ cs_I0 127 24 = 0 ∧ cs_I0 127 25 = 0 ∧ cs_I0 127 12 = 0 ∧ cs_I0 127 14 = 0 ∧ cs_I0 127 37 = 0 ∧ cs_I0 145 0 = 0 ∧ cs_I0 147 0 = 0) := by decide +kernel
theorem cs_has0 {p : Nat} : fg_has ((fun _ => 0, fun _ => 0, 0) : fg_T) p = false := by
  unfold fg_has
  show (0 / 2 ^ p % 2 == 1) = false
  rw [Nat.zero_div]
  rfl
theorem cs_repC : repC cs_I0 cs_J0 cs_s0 := by
  obtain ⟨⟨a1, a2, a3, a4, a5, a6, a7⟩, _⟩ := cs_sC
  refine ⟨⟨a1, a2, a3, a4⟩, fun i hi => ⟨fun p hp => (cs_fC i hi p hp).1, fun p hp => (cs_fC i hi p hp).2.1, (cs_fC i hi 0 (by omega)).2.2.1, by show 0 < 128; omega⟩, ⟨a5, by show 0 ≤ 120; omega, fun i hi => absurd hi (Nat.not_lt_zero i)⟩, ⟨a6, fun l k hl hk => ?_⟩, fun r r1 r2 => ?_, (fun q => by cases q), a7, (fun q => by cases q)⟩
  · have := (cs_wC (11 * l + k) (by omega)).1
    rw [show (11 * l + k) % 11 = k by omega] at this
    exact this
  · have : r ≤ 0 := r2
    omega
theorem cs_repM : repM cs_I0 cs_J0 cs_s0 := by
  obtain ⟨_, a1, a2, a3, a4, a5, a6, a7, a8, a9⟩ := cs_sC
  refine ⟨⟨a1, a2, a3, a4⟩, fun i hi p hp => ⟨(cs_fC i hi p hp).2.2.2.1, (cs_fC i hi p hp).2.2.2.2.1, ?_⟩, ⟨a5, by show 0 ≤ 120; omega, fun i hi => absurd hi (Nat.not_lt_zero i)⟩, ⟨a6, fun l k hl hk => ?_⟩, fun r r1 r2 => ?_, (fun q => by cases q), a7, (fun q => by cases q), fun m hm => cs_tC m hm, a8, a9⟩
  · show _ = mb (fg_has ((fun _ => 0, fun _ => 0, 0) : fg_T) p)
    rw [cs_has0]
    exact (cs_fC i hi p hp).2.2.2.2.2
  · have := (cs_wC (11 * l + k) (by omega)).2
    rw [show (11 * l + k) % 11 = k by omega] at this
    exact this
  · have : r ≤ 0 := r2
    omega
