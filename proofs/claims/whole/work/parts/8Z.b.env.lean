/-! the law's surroundings at its entry -/
def en_F : List Jvm.Cond := flatC (Jvm.Cond.and given_1 narrow_1)
def en_rw (tm : Term) (ty : FieldType) (n : Nat) (f : Nat → Int32) : List Jvm.Cond := [Jvm.Cond.arrayOf tm ty, Jvm.Cond.eq (.length tm) (.int (Int32.ofNat n))] ++ (List.range n).map fun j => Jvm.Cond.eq (.elem tm (.int (Int32.ofNat j))) (.int (f j))
def en_row (i : Nat) (tm : Term) (ty : FieldType) (n : Nat) (f : Nat → Int32) : Bool := decide ((en_F.drop i).take (n + 2) = en_rw tm ty n f)
theorem en_row_in {i n : Nat} {tm : Term} {ty : FieldType} {f : Nat → Int32} (h : en_row i tm ty n f = true) : Jvm.Cond.arrayOf tm ty ∈ en_F ∧ Jvm.Cond.eq (.length tm) (.int (Int32.ofNat n)) ∈ en_F ∧ ∀ j, j < n → Jvm.Cond.eq (.elem tm (.int (Int32.ofNat j))) (.int (f j)) ∈ en_F := by
  have h := of_decide_eq_true h
  have t : ∀ w ∈ en_rw tm ty n f, w ∈ en_F := fun w hw => List.mem_of_mem_drop (List.mem_of_mem_take (h ▸ hw))
  refine ⟨t _ (by simp [en_rw]), t _ (by simp [en_rw]), fun j hj => t _ ?_⟩
  unfold en_rw
  exact List.mem_append_right _ (List.mem_map.mpr ⟨j, List.mem_range.mpr hj, rfl⟩)
def en_pl : List (Nat × Nat × Nat) := [(578, 110, 10), (583, 110, 34), (864, 108, 79), (858, 108, 58)]
def en_sw (q : Nat × String × String × List Int) (a : Nat × Nat × Nat) : Bool := decide (lw_tbl[a.1]? = some (Jvm.Cond.laysStatic q.2.1 q.2.2.1 "[I")) && (decide (lw_tbl[a.2.1]? = some (Jvm.Cond.initialized q.2.1)) && en_row a.2.2 (.static q.2.1 q.2.2.1 "[I") .int q.2.2.2.length (fun j => Int32.ofInt (q.2.2.2.getD j 0)))
set_option maxRecDepth 100000 in
theorem en_sw_ok : (mt_st.all fun q => en_pl.any (en_sw q)) = true := by decide +kernel
set_option maxRecDepth 100000 in
theorem en_key : ∀ q ∈ mt_st, mt_st.find? (fun r => decide (r.1 = q.1)) = some q ∧ q.1 ≠ 999 ∧ q.1 ≠ 998 ∧ q.2.2.2.length < 2 ^ 31 := by decide +kernel
set_option maxRecDepth 100000 in
theorem en_tx : en_row 371 (.field (.string "RowGrader$Words" 15) "java/lang/String" "value" "[B") .byte 46 (fun j => cs_tx.getD j 0) = true := by decide +kernel
set_option maxRecDepth 100000 in
theorem en_ot : en_F[4]? = some (Jvm.Cond.eq (.static "java/lang/String" "COMPACT_STRINGS" "Z") (.int 1)) ∧ en_F[5]? = some (Jvm.Cond.isRef (.static "jdk/internal/util/Preconditions" "SIOOBE_FORMATTER" "Ljava/util/function/BiFunction;")) ∧ en_F[369]? = some (Jvm.Cond.exactly (.string "RowGrader$Words" 15) "java/lang/String") ∧ en_F[370]? = some (Jvm.Cond.eq (.field (.string "RowGrader$Words" 15) "java/lang/String" "coder" "B") (.int 0)) := by decide +kernel
set_option maxRecDepth 100000 in
theorem en_tb : lw_tbl[185]? = some (Jvm.Cond.arrayClass .int) ∧ lw_tbl[332]? = some (Jvm.Cond.arrayClass .long) ∧ lw_tbl[1268]? = some (Jvm.Cond.arrayClass .boolean) ∧ lw_tbl[186]? = some (Jvm.Cond.arrayOver (.object "RowGrader$Row")) ∧ lw_tbl[188]? = some (Jvm.Cond.arrayOver (.object "RowGrader$Figure")) ∧ lw_tbl[376]? = some (Jvm.Cond.arrayOver (.array .int)) ∧ lw_tbl[272]? = some (Jvm.Cond.stringRef "RowGrader$Words" 15 cs_text) := by decide +kernel
set_option maxRecDepth 100000 in
theorem en_ts : lw_tbl[282]? = some (Jvm.Cond.laysStatic "java/lang/String" "COMPACT_STRINGS" "Z") ∧ lw_tbl[298]? = some (Jvm.Cond.laysStatic "jdk/internal/util/Preconditions" "SIOOBE_FORMATTER" "Ljava/util/function/BiFunction;") ∧ lw_tbl[100]? = some (Jvm.Cond.initialized "java/lang/String") ∧ lw_tbl[102]? = some (Jvm.Cond.initialized "jdk/internal/util/Preconditions") := by decide +kernel
def en_nw (q : Nat × Nat × Nat × Nat) : Bool := match cs_ms[q.2.2.1]? with
  | some m => decide (lw_tbl[q.2.2.2]? = some (Jvm.Cond.methodLinkNest (mk_own q.1) q.2.1 m.1 "RowGrader"))
  | none => true
set_option maxRecDepth 100000 in
theorem en_nw_ok : cs_in.all en_nw = true := by decide +kernel
def en_iq (C : String) (w : Jvm.Cond) : Bool := match w with
  | .instantiable D _ => decide (D = C)
  | _ => false
set_option maxRecDepth 100000 in
theorem en_iq_ok : (mt_cls.all fun q => lw_tbl.any (en_iq q.1)) = true := by decide +kernel
section ENV
variable {s : State} {args : Array Value}
theorem en_D (hts : ∀ w ∈ lw_tbl, w.before args s = true) : ∃ D : va_G, ∀ (c : Nat) (q : vw_C), ms_cl[c]? = some q → u_Kn s q.1 q.2.1 q.2.2 (D.1 c) (D.2 c) := by
  have h : ∀ c : Nat, ∃ y : ClassId × (Nat → Nat), ∀ q : vw_C, ms_cl[c]? = some q → u_Kn s q.1 q.2.1 q.2.2 y.1 y.2 := by
    intro c
    cases e : mt_cls[c]? with
    | none =>
      refine ⟨(0, fun _ => 0), fun q hq => ?_⟩
      unfold ms_cl at hq
      rw [List.getElem?_map, e] at hq
      cases hq
    | some r =>
      obtain ⟨w, w1, w2⟩ := List.any_eq_true.mp (List.all_eq_true.mp en_iq_ok r (List.mem_of_getElem? e))
      cases w with
      | instantiable C n =>
        have e2 : C = r.1 := of_decide_eq_true w2
        subst e2
        obtain ⟨cC, iS, hk⟩ := u_known (s := s) (args := args) (ws := ms_gw) (fun w hw => hts w (List.mem_filter.mp hw).1) (ms_cl_in e) (hts _ w1)
        refine ⟨(cC, iS), fun q hq => ?_⟩
        unfold ms_cl at hq
        rw [List.getElem?_map, e] at hq
        cases hq
        exact hk
      | _ => cases w2
  obtain ⟨f, hf⟩ := Classical.axiomOfChoice h
  exact ⟨(fun c => (f c).1, fun c => (f c).2), fun c q hq => hf c q hq⟩
def en_ty (cc : Nat → ClassId) : List (ClassId × FieldType) := [(cc 100, .int), (cc 101, .long), (cc 102, .boolean), (cc 103, .object "RowGrader$Row"), (cc 104, .object "RowGrader$Figure"), (cc 105, .array .int)]
theorem en_cc (hts : ∀ w ∈ lw_tbl, w.before args s = true) : ∃ cc : Nat → ClassId, (∀ (k : Nat) (q : ClassId × FieldType), (en_ty cc)[k]? = some q → ArrOfT s q.1 q.2 ∧ va_RA s q.1 q.2) ∧ ∃ k : Class, s.vm.classes[cc 105]? = some k ∧ k.kind = .array (cc 100) (.array .int) := by
  obtain ⟨t1, t2, t3, t4, t5, t6, _⟩ := en_tb
  obtain ⟨c0, k0, m0, a1, a2, a3⟩ := Cond.arrayClass_spec (hts _ (List.mem_of_getElem? t1))
  obtain ⟨c1, k1, m1, b1, b2, b3⟩ := Cond.arrayClass_spec (hts _ (List.mem_of_getElem? t2))
  obtain ⟨c2, k2, m2, d1, d2, d3⟩ := Cond.arrayClass_spec (hts _ (List.mem_of_getElem? t3))
  obtain ⟨m3, c3, k3, e1, -, e2, e3, e4⟩ := Cond.arrayOver_spec (hts _ (List.mem_of_getElem? t4))
  obtain ⟨m4, c4, k4, f1, -, f2, f3, f4⟩ := Cond.arrayOver_spec (hts _ (List.mem_of_getElem? t5))
  obtain ⟨m5, c5, k5, g1, -, g2, g3, g4⟩ := arrayOverA_spec (hts _ (List.mem_of_getElem? t6))
  have g0 : m5 = c0 := Option.some.inj (g1.symm.trans a1)
  subst g0
  refine ⟨fun n => if n = 100 then m5 else if n = 101 then c1 else if n = 102 then c2 else if n = 103 then c3 else if n = 104 then c4 else c5, ?_, k5, g2, g3⟩
  intro k q hq
  match k, hq with
  | 0, hq => cases hq; exact ⟨fun n z => ⟨fun k h => (by cases h), k0, a2, m0, a3⟩, a1⟩
  | 1, hq => cases hq; exact ⟨fun n z => ⟨fun k h => (by cases h), k1, b2, m1, b3⟩, b1⟩
  | 2, hq => cases hq; exact ⟨fun n z => ⟨fun k h => (by cases h), k2, d2, m2, d3⟩, d1⟩
  | 3, hq => cases hq; exact ⟨fun n z => ⟨fun k h => (by cases h), k3, e2, m3, e3⟩, k3, m3, e2, e3, e1, e4⟩
  | 4, hq => cases hq; exact ⟨fun n z => ⟨fun k h => (by cases h), k4, f2, m4, f3⟩, k4, m4, f2, f3, f1, f4⟩
  | 5, hq => cases hq; exact ⟨fun n z => ⟨fun k h => (by cases h), k5, g2, m5, g3⟩, g4⟩
  | _ + 6, hq => cases hq
theorem en_st (hts : ∀ w ∈ lw_tbl, w.before args s = true) (hF : ∀ w ∈ en_F, w.before args s = true) : ∃ st : Nat → Nat, ∀ q ∈ mt_st, va_Z q.2.1 q.2.2.1 "[I" (.ref (st q.1)) (fun a => s.heap.size ≤ a) s s.heap ∧ va_T .int (st q.1) q.2.2.2.length (fun j => .int (Int32.ofInt (q.2.2.2.getD j 0))) (fun a => s.heap.size ≤ a) s s.heap := by
  have hA : ∀ a : Nat, a < s.heap.size → ¬ s.heap.size ≤ a := fun a h => Nat.not_le_of_lt h
  have h : ∀ q : Nat × String × String × List Int, ∃ t : Nat, q ∈ mt_st → va_Z q.2.1 q.2.2.1 "[I" (.ref t) (fun a => s.heap.size ≤ a) s s.heap ∧ va_T .int t q.2.2.2.length (fun j => .int (Int32.ofInt (q.2.2.2.getD j 0))) (fun a => s.heap.size ≤ a) s s.heap := by
    intro q
    by_cases hq : q ∈ mt_st
    · obtain ⟨a, a1, a2⟩ := List.any_eq_true.mp (List.all_eq_true.mp en_sw_ok q hq)
      unfold en_sw at a2
      simp only [Bool.and_eq_true, decide_eq_true_eq] at a2
      obtain ⟨b1, b2, b3⟩ := a2
      obtain ⟨c1, c2, c3⟩ := en_row_in b3
      obtain ⟨t, ht, hT⟩ := va_Tof (f := fun j => .int (Int32.ofInt (q.2.2.2.getD j 0))) (A := fun a => s.heap.size ≤ a) (en_key q hq).2.2.2 (hF _ c1) (va_eqt (hF _ c2)) (fun j hj => va_eqt (hF _ (c3 j hj))) hA
      exact ⟨t, fun _ => ⟨va_Zof (hts _ (List.mem_of_getElem? b1)) (hts _ (List.mem_of_getElem? b2)) ht hA, hT⟩⟩
    · exact ⟨0, fun w => absurd w hq⟩
  obtain ⟨f, hf⟩ := Classical.axiomOfChoice h
  refine ⟨fun n => f ((mt_st.find? (fun r => decide (r.1 = n))).getD (0, "", "", [])), fun q hq => ?_⟩
  have e := (en_key q hq).1
  dsimp only
  rw [e]
  exact hf q hq
theorem en_str (hts : ∀ w ∈ lw_tbl, w.before args s = true) (hF : ∀ w ∈ en_F, w.before args s = true) : ∃ a vv : Nat, va_O "java/lang/String" a (fun a => s.heap.size ≤ a) s s.heap ∧ va_OF "java/lang/String" "coder" "B" (.int 0) a (fun a => s.heap.size ≤ a) s s.heap ∧ va_OF "java/lang/String" "value" "[B" (.ref vv) a (fun a => s.heap.size ≤ a) s s.heap ∧ va_T .byte vv 46 (fun j => .int (cs_tx.getD j 0)) (fun a => s.heap.size ≤ a) s s.heap ∧ vk_R "RowGrader$Words" 15 cs_text a s := by
  have hA : ∀ a : Nat, a < s.heap.size → ¬ s.heap.size ≤ a := fun a h => Nat.not_le_of_lt h
  obtain ⟨o1, o2, o3, o4⟩ := en_ot
  obtain ⟨c1, c2, c3⟩ := en_row_in en_tx
  obtain ⟨adK, adV, h1, h2⟩ := vk_Sof (s := s) (args := args) (N := 1) (tm := fun _ => .string "RowGrader$Words" 15) (len := [46]) (byt := [cs_tx]) (A := fun a => s.heap.size ≤ a) (fun i hi => by
      have : i = 0 := by omega
      subst this
      decide) (fun i _ => hF _ (List.mem_of_getElem? o3)) (fun i _ => hF _ (List.mem_of_getElem? o4)) (fun i _ => hF _ c1) (fun i hi => by
      have : i = 0 := by omega
      subst this
      exact hF _ c2) (fun i hi j hj => by
      have : i = 0 := by omega
      subst this
      exact hF _ (c3 j hj)) (fun i j hi hj w => absurd (by omega) w) hA
  obtain ⟨z1, z2, z3, z4⟩ := h1.1 0 (by omega)
  exact ⟨adK 0, adV 0, z1, z2, z3, z4, vk_R.of (hts _ (List.mem_of_getElem? en_tb.2.2.2.2.2.2)) (h2 0 (by omega))⟩
theorem en_fm (hts : ∀ w ∈ lw_tbl, w.before args s = true) (hF : ∀ w ∈ en_F, w.before args s = true) : ∃ fm : Option Nat, va_Z "java/lang/String" "COMPACT_STRINGS" "Z" (.int 1) (fun a => s.heap.size ≤ a) s s.heap ∧ va_Z "jdk/internal/util/Preconditions" "SIOOBE_FORMATTER" "Ljava/util/function/BiFunction;" (va_rf fm) (fun a => s.heap.size ≤ a) s s.heap := by
  have hA : ∀ a : Nat, a < s.heap.size → ¬ s.heap.size ≤ a := fun a h => Nat.not_le_of_lt h
  obtain ⟨o1, o2, o3, o4⟩ := en_ot
  obtain ⟨u1, u2, u3, u4⟩ := en_ts
  have z1 := va_Zof (A := fun a => s.heap.size ≤ a) (hts _ (List.mem_of_getElem? u1)) (hts _ (List.mem_of_getElem? u3)) (va_eqi (hF _ (List.mem_of_getElem? o1))) hA
  rcases va_Zqof (A := fun a => s.heap.size ≤ a) (hts _ (List.mem_of_getElem? u2)) (hts _ (List.mem_of_getElem? u4)) (hF _ (List.mem_of_getElem? o2)) hA with h | ⟨t, h⟩
  · exact ⟨none, z1, h⟩
  · exact ⟨some t, z1, h⟩
theorem en_all {b L : Nat} {xs : Nat → Int32} (hts : ∀ w ∈ lw_tbl, w.before args s = true) (hX : va_X b L xs s s.heap) (hb : b < s.heap.size) (hg : (Jvm.Cond.and given_1 narrow_1).before args s = true) : ∃ X : ms_X, X.1 = s.heap.size ∧ X.2.2.2 999 = b ∧ ms_E X (L, xs) s ∧ cs_E X s := by
  have hF : ∀ w ∈ en_F, w.before args s = true := flat_of_before _ hg
  obtain ⟨D, hD⟩ := en_D hts
  obtain ⟨cc, hc, k5, q1, q2⟩ := en_cc hts
  obtain ⟨st, hst⟩ := en_st hts hF
  obtain ⟨sa, vv, s1, s2, s3, s4, s5⟩ := en_str hts hF
  obtain ⟨fm, m1, m2⟩ := en_fm hts hF
  have hK : va_K D ms_cl (en_ty cc) s := ⟨hD, hc⟩
  refine ⟨(s.heap.size, D, cc, fun n => if n = 999 then b else if n = 998 then sa else st n), rfl, rfl, ⟨hK, ⟨fun q hq => ?_, hX, hb⟩, Nat.le_refl _⟩, ⟨hK, ⟨va_AO.of (hts _ (List.mem_of_getElem? en_tb.2.2.2.1)), va_AO.of (hts _ (List.mem_of_getElem? en_tb.2.2.2.2.1)), ⟨k5, q1, q2⟩, fun q hq m hm => ?_, s5⟩, ⟨vv, fm, s1, s2, s3, s4, m1, m2⟩, Nat.le_refl _⟩⟩
  · obtain ⟨_, n1, n2, _⟩ := en_key q hq
    have e : (if q.1 = 999 then b else if q.1 = 998 then sa else st q.1) = st q.1 := by rw [if_neg n1, if_neg n2]
    show va_Z q.2.1 q.2.2.1 "[I" (.ref (if q.1 = 999 then b else if q.1 = 998 then sa else st q.1)) (fun a => s.heap.size ≤ a) s s.heap ∧ va_T .int (if q.1 = 999 then b else if q.1 = 998 then sa else st q.1) q.2.2.2.length (fun j => .int (Int32.ofInt (q.2.2.2.getD j 0))) (fun a => s.heap.size ≤ a) s s.heap
    rw [e]
    exact hst q hq
  · have t := List.all_eq_true.mp en_nw_ok q hq
    unfold en_nw at t
    rw [hm] at t
    exact va_Nw.of rfl (hts _ (List.mem_of_getElem? (of_decide_eq_true t)))
end ENV
