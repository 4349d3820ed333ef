/-! levels as the reference spreads them -/
/-- levels after letters have been gone through -/
noncomputable def wS (V : Nat → Nat) (to m : Nat) (P : List Nat → Prop) (f : Nat) : Nat := cif (6 ≤ V f ∧ ∃ l, P l ∧ gG m f (kV V to) l = true) to (V f)
theorem cif_c {α : Type} {p q : Prop} {a b : α} (h : p ↔ q) : cif p a b = cif q a b := by rw [propext h]
theorem wS_kV {V : Nat → Nat} {to m : Nat} {P : List Nat → Prop} (h5 : to ≤ 6) : kV (wS V to m P) to = kV V to := by
  funext g
  unfold kV
  apply decide_eq_decide.mpr
  unfold wS
  by_cases q : 6 ≤ V g ∧ ∃ l, P l ∧ gG m g (kV V to) l = true
  · rw [cif_pos q]
    omega
  · rw [cif_neg q]
theorem wS_no {V : Nat → Nat} {to m : Nat} {P : List Nat → Prop} {l : List Nat} (h : ∀ f, gG m f (kV V to) l = false) : wS V to m (fun x => P x ∨ x = l) = wS V to m P := by
  funext f
  unfold wS
  refine cif_c ⟨fun ⟨a, x, b, c⟩ => ⟨a, x, ?_, c⟩, fun ⟨a, x, b, c⟩ => ⟨a, x, Or.inl b, c⟩⟩
  rcases b with b | b
  · exact b
  · rw [b, h f] at c; cases c
theorem wS_add {V : Nat → Nat} {to m g : Nat} {P : List Nat → Prop} {l : List Nat} (h5 : to ≤ 5) (h : gG m g (kV V to) l = true) (h' : ∀ f, f ≠ g → gG m f (kV V to) l = false) : wS V to m (fun x => P x ∨ x = l) = if 6 ≤ wS V to m P g then gup (wS V to m P) g to else wS V to m P := by
  funext f
  by_cases e : f = g
  · subst e
    by_cases q : 6 ≤ V f
    · have e1 : wS V to m (fun x => P x ∨ x = l) f = to := cif_pos ⟨q, l, Or.inr rfl, h⟩
      rw [e1]
      by_cases q2 : ∃ x, P x ∧ gG m f (kV V to) x = true
      · have e2 : wS V to m P f = to := cif_pos ⟨q, q2⟩
        rw [if_neg (by omega), e2]
      · have e2 : wS V to m P f = V f := cif_neg (fun w => q2 w.2)
        rw [if_pos (by omega), gup_at, if_pos rfl]
    · have e1 : wS V to m (fun x => P x ∨ x = l) f = V f := cif_neg (fun w => q w.1)
      have e2 : wS V to m P f = V f := cif_neg (fun w => q w.1)
      rw [if_neg (by omega), e1, e2]
  · have e1 : wS V to m (fun x => P x ∨ x = l) f = wS V to m P f := by
      unfold wS
      refine cif_c ⟨fun ⟨a, x, b, c⟩ => ⟨a, x, ?_, c⟩, fun ⟨a, x, b, c⟩ => ⟨a, x, Or.inl b, c⟩⟩
      rcases b with b | b
      · exact b
      · rw [b, h' f e] at c; cases c
    rw [e1]
    split
    · rw [gup_at, if_neg e]
    · rfl
theorem wS_P {V : Nat → Nat} {to m : Nat} {P P' : List Nat → Prop} (h : ∀ l, P l ↔ P' l) : wS V to m P = wS V to m P' := by
  have : P = P' := funext fun l => propext (h l)
  rw [this]
theorem wS_0 {V : Nat → Nat} {to m : Nat} {P : List Nat → Prop} (h : ∀ l, ¬ P l) : wS V to m P = V := by
  funext f
  exact cif_neg (fun ⟨_, l, b, _⟩ => h l b)
/-- all letters of a rule -/
def lal (np m : Nat) (l : List Nat) : Prop := l.length = ltr m ∧ ∀ x ∈ l, x < np
noncomputable def spR (np to : Nat) (V : Nat → Nat) (m : Nat) : Nat → Nat := wS V to m (lal np m)
/-- a level of all rules -/
noncomputable def spL (np to : Nat) (V : Nat → Nat) : Nat → Nat := (List.range' 0 17).foldl (spR np to) V
theorem spL_k {np to : Nat} {V : Nat → Nat} (h5 : to ≤ 5) : ∀ (w m : Nat) (W : Nat → Nat), m + w = 17 → (∀ f, W f = cif (6 ≤ V f ∧ ∃ m' l, m' < m ∧ lal np m' l ∧ gG m' f (kV V to) l = true) to (V f)) → ∀ f, (List.range' m w).foldl (spR np to) W f = cif (6 ≤ V f ∧ ∃ m' l, m' < 17 ∧ lal np m' l ∧ gG m' f (kV V to) l = true) to (V f)
  | 0, m, W, hm, h, f => by
    rw [show m = 17 by omega] at h
    exact h f
  | w + 1, m, W, hm, h, f => by
    rw [List.range'_succ, List.foldl_cons]
    refine spL_k h5 w (m + 1) _ (by omega) (fun f => ?_) f
    have hk : kV W to = kV V to := by
      funext g
      unfold kV
      apply decide_eq_decide.mpr
      rw [h g]
      by_cases q : 6 ≤ V g ∧ ∃ m' l, m' < m ∧ lal np m' l ∧ gG m' g (kV V to) l = true
      · rw [cif_pos q]
        omega
      · rw [cif_neg q]
    unfold spR wS
    rw [hk, h f]
    by_cases q : 6 ≤ V f ∧ ∃ m' l, m' < m ∧ lal np m' l ∧ gG m' f (kV V to) l = true
    · rw [cif_pos q, cif_neg (fun w => by omega), cif_pos ⟨q.1, by obtain ⟨_, a, b, c, e⟩ := q; exact ⟨a, b, by omega, e⟩⟩]
    · rw [cif_neg q]
      refine cif_c ⟨fun ⟨a, l, b, c⟩ => ⟨a, m, l, by omega, b, c⟩, fun ⟨a, m', l, b, c, e⟩ => ⟨a, ?_⟩⟩
      by_cases q2 : m' = m
      · subst q2
        exact ⟨l, c, e⟩
      · exact absurd ⟨a, m', l, by omega, c, e⟩ q
theorem spL_at {np to : Nat} {V : Nat → Nat} (h5 : to ≤ 5) (f : Nat) : spL np to V f = cif (6 ≤ V f ∧ ∃ m l, m < 17 ∧ lal np m l ∧ gG m f (kV V to) l = true) to (V f) := by
  refine spL_k h5 17 0 V rfl (fun f => ?_) f
  rw [cif_neg]
  rintro ⟨_, m, l, h, _⟩
  omega
/-- instances of rules, as letters -/
theorem inst_iff {np f : Nat} {kn : Nat → Bool} : (∃ ps, rt_inst np ps f ∧ ∀ p ∈ ps, kn p = true) ↔ ∃ m l, m < 17 ∧ lal np m l ∧ gG m f kn l = true := by
  constructor
  · rintro ⟨ps, ⟨r, q, s, hr, hs, h1, h2⟩, hp⟩
    have hr17 := rr r q hr
    have eq : rul r = q := by
      unfold rul
      rw [List.getD_eq_getElem?_getD, hr]
      rfl
    obtain ⟨t1, t2, t3, t4, t5, k7, l6⟩ := tb_rul hr17
    have hL : ltr r = pw (rul r).2 + 1 := rfl
    have ls : ∀ j, j < ltr r → ls_f ((List.range' 0 (ltr r)).map s) j = s j := by
      intro j hj
      unfold ls_f
      rw [List.getD_eq_getElem?_getD, List.getElem?_map, List.getElem?_range' hj]
      show s (0 + 1 * j) = s j
      rw [Nat.one_mul, Nat.zero_add]
    have rf : ∀ t, pw t < ltr r → rt_f (ls_f ((List.range' 0 (ltr r)).map s)) t = rt_f s t := fun t ht => rt_f_c (fun j hj => ls j (by omega))
    refine ⟨r, (List.range' 0 (ltr r)).map s, hr17, ⟨by rw [List.length_map, List.length_range'], fun x hx => ?_⟩, ?_⟩
    · obtain ⟨j, hj, rfl⟩ := List.mem_map.mp hx
      rw [List.mem_range'_1] at hj
      exact hs j (by omega)
    · unfold gG
      rw [Bool.and_eq_true]
      refine ⟨List.all_eq_true.mpr (fun t ht => ?_), ?_⟩
      · rw [rf t (by have := t5 t ht; omega)]
        rw [eq] at ht
        have : rt_f s t ∈ ps.map some := by rw [← h1]; exact List.mem_map.mpr ⟨t, ht, rfl⟩
        obtain ⟨p, hp1, hp2⟩ := List.mem_map.mp this
        rw [← hp2]
        exact hp p hp1
      · rw [rf _ (by omega), eq, h2]
        exact beq_self_eq_true _
  · rintro ⟨m, l, hm, ⟨hl, hx⟩, hG⟩
    obtain ⟨t1, t2, t3, t4, t5, k7, l6⟩ := tb_rul hm
    unfold gG at hG
    rw [Bool.and_eq_true] at hG
    obtain ⟨g1, g2⟩ := hG
    have np0 : 0 < np := by
      have : l ≠ [] := by
        rintro rfl
        have : (0 : Nat) = pw (rul m).2 + 1 := hl
        omega
      obtain ⟨x, hx'⟩ := List.exists_mem_of_ne_nil _ this
      have := hx x hx'
      omega
    have som : ∀ t ∈ (rul m).1, ∃ g, rt_f (ls_f l) t = some g ∧ kn g = true := by
      intro t ht
      have := List.all_eq_true.mp g1 t ht
      cases e : rt_f (ls_f l) t with
      | none => rw [e] at this; cases this
      | some g => rw [e] at this; exact ⟨g, rfl, this⟩
    refine ⟨(rul m).1.map fun t => (rt_f (ls_f l) t).getD 0, ⟨m, rul m, ls_f l, ?_, fun i _ => getD_lt hx np0 i, ?_, eq_of_beq g2⟩, fun p hp => ?_⟩
    · unfold rul
      rw [List.getD_eq_getElem?_getD]
      have : m < rt_rules.length := hm
      rw [List.getElem?_eq_getElem this]
      rfl
    · rw [List.map_map]
      refine List.map_congr_left (fun t ht => ?_)
      obtain ⟨g, e, _⟩ := som t ht
      show _ = some ((rt_f (ls_f l) t).getD 0)
      rw [e]
      rfl
    · obtain ⟨t, ht, rfl⟩ := List.mem_map.mp hp
      obtain ⟨g, e, h⟩ := som t ht
      rw [e]
      exact h
/-- levels up to a depth -/
noncomputable def lvN (np : Nat) (S0 : Nat → Prop) (n f : Nat) : Nat := if rt_lvl np S0 f ≤ n then rt_lvl np S0 f else 6
theorem rt_lvl_6 {np : Nat} {S0 : Nat → Prop} {f : Nat} : rt_lvl np S0 f ≤ 6 := by
  by_cases q : rt_lvl np S0 f ≤ 5
  · omega
  · unfold rt_lvl
    by_cases q0 : rt_lv np S0 0 f
    · rw [cif_pos q0]; omega
    rw [cif_neg q0]
    by_cases q1 : rt_lv np S0 1 f
    · rw [cif_pos q1]; omega
    rw [cif_neg q1]
    by_cases q2 : rt_lv np S0 2 f
    · rw [cif_pos q2]; omega
    rw [cif_neg q2]
    by_cases q3 : rt_lv np S0 3 f
    · rw [cif_pos q3]; omega
    rw [cif_neg q3]
    by_cases q4 : rt_lv np S0 4 f
    · rw [cif_pos q4]; omega
    rw [cif_neg q4]
    by_cases q5 : rt_lv np S0 5 f
    · rw [cif_pos q5]; omega
    rw [cif_neg q5]
    exact Nat.le_refl 6
theorem lvN_S {np n : Nat} {S0 : Nat → Prop} (hn : n + 1 ≤ 5) : spL np (n + 1) (lvN np S0 n) = lvN np S0 (n + 1) := by
  funext f
  rw [spL_at hn]
  have h6 := @rt_lvl_6 np S0 f
  have k1 := @rt_lvl_le np S0 f n (by omega)
  have k2 := @rt_lvl_le np S0 f (n + 1) hn
  have hk : ∀ g, kV (lvN np S0 n) (n + 1) g = true ↔ rt_lv np S0 n g := by
    intro g
    unfold kV
    rw [decide_eq_true_eq, ← @rt_lvl_le np S0 g n (by omega)]
    unfold lvN
    split <;> omega
  have hi : (∃ m l, m < 17 ∧ lal np m l ∧ gG m f (kV (lvN np S0 n) (n + 1)) l = true) ↔ ∃ ps, rt_inst np ps f ∧ ∀ p ∈ ps, rt_lv np S0 n p := by
    rw [← inst_iff]
    constructor
    · rintro ⟨ps, a, b⟩
      exact ⟨ps, a, fun p hp => (hk p).mp (b p hp)⟩
    · rintro ⟨ps, a, b⟩
      exact ⟨ps, a, fun p hp => (hk p).mpr (b p hp)⟩
  have hlv : rt_lv np S0 (n + 1) f ↔ rt_lv np S0 n f ∨ ∃ ps, rt_inst np ps f ∧ ∀ p ∈ ps, rt_lv np S0 n p := Iff.rfl
  have e0 : lvN np S0 n f = if rt_lvl np S0 f ≤ n then rt_lvl np S0 f else 6 := rfl
  have e1 : lvN np S0 (n + 1) f = if rt_lvl np S0 f ≤ n + 1 then rt_lvl np S0 f else 6 := rfl
  by_cases q : rt_lvl np S0 f ≤ n
  · rw [cif_neg (fun w => by rw [e0, if_pos q] at w; omega), e0, e1, if_pos q, if_pos (by omega)]
  · by_cases q2 : rt_lvl np S0 f ≤ n + 1
    · have w := (hlv.mp (k2.mp q2)).resolve_left (fun w => q (k1.mpr w))
      rw [cif_pos ⟨by rw [e0, if_neg q]; omega, hi.mpr w⟩, e1, if_pos q2]
      omega
    · rw [cif_neg, e0, e1, if_neg q, if_neg q2]
      rintro ⟨_, w⟩
      exact q2 (k2.mpr (hlv.mpr (Or.inr (hi.mp w))))
