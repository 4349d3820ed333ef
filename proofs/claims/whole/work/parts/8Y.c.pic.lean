/-! the constructors' cells in the heap -/
def cs_vI (l : List Value) (j : Nat) : Int32 := match l[j]? with
  | some (.int x) => x
  | _ => 0
def cs_vJ (l : List Value) (j : Nat) : Int64 := match l[j]? with
  | some (.long x) => x
  | _ => 0
def cs_vR (X : ms_X) (l : List Value) (j : Nat) : Option Nat := match l[j]? with
  | some (.ref k) => some (X.1 + k)
  | _ => none
def cs_a (X : ms_X) (c : Nat × List Value) : vp_A := (c.2.length, if c.1 = 101 then .inr (.inl (cs_vJ c.2)) else if c.1 = 100 ∨ c.1 = 102 then .inl (cs_vI c.2) else .inr (.inr (.inr (.inr (cs_vR X c.2)))))
def cs_e (X : ms_X) (c : Nat × List Value) : va_E := if c.1 < 100 then .inr (c.1, c.2.map (ms_v X)) else .inl (X.2.2.1 c.1, cs_a X c)
def cs_ws (X : ms_X) (h : cs_H) : va_W := (List.range h.length).map fun k => (X.1 + k, cs_e X (h.getD k (0, [])))
def cs_P (X : ms_X) (h : cs_H) (H : Heap) : Prop := va_P X.2.1 ms_cl (cs_ws X h) H
section CSP
variable {X : ms_X} {h : cs_H}
theorem cs_ws_len : (cs_ws X h).length = h.length := by unfold cs_ws; rw [List.length_map, List.length_range]
theorem cs_ws_at {k : Nat} {c : Nat × List Value} (e : h[k]? = some c) : (cs_ws X h)[k]? = some (X.1 + k, cs_e X c) := by
  have hk : k < h.length := (List.getElem?_eq_some_iff.mp e).1
  unfold cs_ws
  rw [List.getElem?_map, List.getElem?_range hk]
  show some (X.1 + k, cs_e X (h.getD k (0, []))) = _
  rw [List.getD_eq_getElem?_getD, e]
  rfl
theorem cs_ws_lt {k : Nat} {q : Nat × va_E} (e : (cs_ws X h)[k]? = some q) : k < h.length ∧ q.1 = X.1 + k := by
  have hk : k < h.length := by
    have := (List.getElem?_eq_some_iff.mp e).1
    rw [cs_ws_len] at this
    exact this
  refine ⟨hk, ?_⟩
  rw [cs_ws_at (List.getElem?_eq_getElem hk)] at e
  cases e
  rfl
theorem cs_D : va_D (ms_A X) (cs_ws X h) := by
  refine ⟨fun i j p q hp hq e => ?_, fun k q hq => ?_⟩
  · have a := cs_ws_lt hp
    have b := cs_ws_lt hq
    omega
  · have a := cs_ws_lt hq
    show X.1 ≤ q.1
    omega
theorem cs_ws_set {k : Nat} {c : Nat × List Value} (hk : k < h.length) : (cs_ws X h).set k (X.1 + k, cs_e X c) = cs_ws X (h.set k c) := by
  apply List.ext_getElem?
  intro i
  by_cases hi : i < h.length
  · by_cases e : i = k
    · subst e
      rw [List.getElem?_set_self (by rw [cs_ws_len]; exact hi), cs_ws_at (List.getElem?_set_self hi)]
    · rw [List.getElem?_set_ne (fun w => e w.symm), cs_ws_at (List.getElem?_eq_getElem hi), cs_ws_at (c := h[i]) (by rw [List.getElem?_set_ne (fun w => e w.symm)]; exact List.getElem?_eq_getElem hi)]
  · rw [List.getElem?_eq_none (by rw [List.length_set, cs_ws_len]; omega), List.getElem?_eq_none (by rw [cs_ws_len, List.length_set]; omega)]
theorem cs_ws_app {c : Nat × List Value} : cs_ws X (h ++ [c]) = cs_ws X h ++ [(X.1 + h.length, cs_e X c)] := by
  apply List.ext_getElem?
  intro i
  by_cases hi : i < h.length
  · rw [List.getElem?_append_left (by rw [cs_ws_len]; exact hi), cs_ws_at (List.getElem?_eq_getElem hi), cs_ws_at (c := h[i]) (by rw [List.getElem?_append_left hi]; exact List.getElem?_eq_getElem hi)]
  · rw [List.getElem?_append_right (by rw [cs_ws_len]; omega), cs_ws_len]
    by_cases e : i = h.length
    · subst e
      rw [Nat.sub_self, cs_ws_at (c := c) (by rw [List.getElem?_append_right (Nat.le_refl _), Nat.sub_self]; rfl)]
      rfl
    · rw [List.getElem?_eq_none (by rw [cs_ws_len, List.length_append]; simp; omega), List.getElem?_eq_none (by simp; omega)]
theorem cs_e_o {c : Nat × List Value} (hc : c.1 < 100) : cs_e X c = .inr (c.1, c.2.map (ms_v X)) := by unfold cs_e; rw [if_pos hc]
theorem cs_e_i {c : Nat × List Value} (hc : c.1 = 100 ∨ c.1 = 102) : cs_e X c = .inl (X.2.2.1 c.1, c.2.length, .inl (cs_vI c.2)) := by
  unfold cs_e cs_a
  rw [if_neg (by omega), if_neg (by omega), if_pos hc]
theorem cs_e_l {c : Nat × List Value} (hc : c.1 = 101) : cs_e X c = .inl (X.2.2.1 c.1, c.2.length, .inr (.inl (cs_vJ c.2))) := by
  unfold cs_e cs_a
  rw [if_neg (by omega), if_pos hc]
theorem cs_e_q {c : Nat × List Value} (hc : 103 ≤ c.1) : cs_e X c = .inl (X.2.2.1 c.1, c.2.length, .inr (.inr (.inr (.inr (cs_vR X c.2))))) := by
  unfold cs_e cs_a
  rw [if_neg (by omega), if_neg (by omega), if_neg (by omega)]
theorem cs_vI_set {l : List Value} {i : Nat} {x : Int32} (hi : i < l.length) : upd (cs_vI l) i x = cs_vI (l.set i (.int x)) := by
  funext j
  unfold upd cs_vI
  by_cases e : j = i
  · subst e
    rw [if_pos rfl, List.getElem?_set_self hi]
  · rw [if_neg e, List.getElem?_set_ne (fun w => e w.symm)]
theorem cs_vJ_set {l : List Value} {i : Nat} {x : Int64} (hi : i < l.length) : vp_updL (cs_vJ l) i x = cs_vJ (l.set i (.long x)) := by
  funext j
  unfold vp_updL cs_vJ
  by_cases e : j = i
  · subst e
    rw [if_pos rfl, List.getElem?_set_self hi]
  · rw [if_neg e, List.getElem?_set_ne (fun w => e w.symm)]
theorem cs_vR_set {l : List Value} {i v : Nat} (hi : i < l.length) : va_up (cs_vR X l) i (some (X.1 + v)) = cs_vR X (l.set i (.ref v)) := by
  funext j
  unfold va_up cs_vR
  by_cases e : j = i
  · subst e
    rw [if_pos rfl, List.getElem?_set_self hi]
  · rw [if_neg e, List.getElem?_set_ne (fun w => e w.symm)]
theorem cs_vI_rep {n : Nat} : cs_vI (List.replicate n (.int 0)) = fun _ => 0 := by
  funext j
  unfold cs_vI
  rw [List.getElem?_replicate]
  split
  · rename_i e
    split at e
    · cases e; rfl
    · cases e
  · rfl
theorem cs_vJ_rep {n : Nat} : cs_vJ (List.replicate n (.long 0)) = fun _ => 0 := by
  funext j
  unfold cs_vJ
  rw [List.getElem?_replicate]
  split
  · rename_i e
    split at e
    · cases e; rfl
    · cases e
  · rfl
theorem cs_vR_rep {n : Nat} : cs_vR X (List.replicate n .null) = fun _ => none := by
  funext j
  unfold cs_vR
  rw [List.getElem?_replicate]
  split
  · rename_i e
    split at e
    · cases e
    · cases e
  · rfl
theorem cs_n_app {c : Nat × List Value} : cs_n (h ++ [c]) = cs_n h + c.2.length := by
  unfold cs_n
  simp
theorem cs_n_set {k : Nat} {c c' : Nat × List Value} (e : h[k]? = some c) (hl : c'.2.length = c.2.length) : cs_n (h.set k c') = cs_n h := by
  unfold cs_n
  congr 1
  apply List.ext_getElem?
  intro i
  rw [List.getElem?_map, List.getElem?_map]
  by_cases q : i = k
  · subst q
    rw [List.getElem?_set_self (List.getElem?_eq_some_iff.mp e).1, e]
    show some c'.2.length = some c.2.length
    rw [hl]
  · rw [List.getElem?_set_ne (fun w => q w.symm)]
theorem cs_vp {i : Int32} {n : Nat} (h : cs_in_ i n = true) : vp_in i n ∧ i.toNatClampNeg < n := by
  unfold cs_in_ at h
  simp only [Bool.and_eq_true, Bool.not_eq_true', decide_eq_false_iff_not, decide_eq_true_eq] at h
  exact ⟨fun w => w.elim h.1 (fun w => by omega), h.2⟩
theorem cs_inj {a a' : mm_L} {b b' : List Value} {c c' : cs_H} (h : (some (a, b, c) : Option cs_S) = some (a', b', c')) : a = a' ∧ b = b' ∧ c = c' := by
  injection h with h
  injection h with h1 h
  injection h with h2 h3
  exact ⟨h1, h2, h3⟩
end CSP
/-! the surroundings of constructors -/
def cs_text : String := "line par perp eq mid circ btw given seen by of"
def cs_m2 (X : ms_X) (U : State) : Prop := ∃ k : Class, U.vm.classes[X.2.2.1 105]? = some k ∧ k.kind = .array (X.2.2.1 100) (.array .int)
def cs_T (X : ms_X) (U : State) : Prop := ∃ (vv : Nat) (fm : Option Nat), va_O "java/lang/String" (X.2.2.2 998) (ms_A X) U U.heap ∧ va_OF "java/lang/String" "coder" "B" (.int 0) (X.2.2.2 998) (ms_A X) U U.heap ∧ va_OF "java/lang/String" "value" "[B" (.ref vv) (X.2.2.2 998) (ms_A X) U U.heap ∧ va_T .byte vv 46 (fun j => .int (cs_tx.getD j 0)) (ms_A X) U U.heap ∧ va_Z "java/lang/String" "COMPACT_STRINGS" "Z" (.int 1) (ms_A X) U U.heap ∧ va_Z "jdk/internal/util/Preconditions" "SIOOBE_FORMATTER" "Ljava/util/function/BiFunction;" (va_rf fm) (ms_A X) U U.heap
def cs_V (X : ms_X) (U : State) : Prop := va_AO "RowGrader$Row" U ∧ va_AO "RowGrader$Figure" U ∧ cs_m2 X U ∧ (∀ q ∈ cs_in, ∀ m, cs_ms[q.2.2.1]? = some m → va_Nw (.methodLinkNest (mk_own q.1) q.2.1 m.1 "RowGrader") U) ∧ vk_R "RowGrader$Words" 15 cs_text (X.2.2.2 998) U
def cs_E (X : ms_X) (U : State) : Prop := va_K X.2.1 ms_cl (ms_tys X) U ∧ cs_V X U ∧ cs_T X U ∧ X.1 ≤ U.heap.size
theorem cs_m2_moved {X : ms_X} {u U : State} (hvm : u.vm.Alike U.vm) (h : cs_m2 X u) : cs_m2 X U := by
  obtain ⟨k, h1, h2⟩ := h
  obtain ⟨k', hk', he⟩ := hvm.2.2 _ _ h1
  exact ⟨k', hk', by rw [he]; exact h2⟩
theorem cs_T_kept {X : ms_X} {u U : State} (hvm : u.vm.Alike U.vm) (hk : ∀ a : Nat, a < u.heap.size → ¬ ms_A X a → U.heap[a]? = u.heap[a]?) (h : cs_T X u) : cs_T X U := by
  obtain ⟨vv, fm, h1, h2, h3, h4, h5, h6⟩ := h
  exact ⟨vv, fm, va_O.moved hvm (h1.kept hk), va_OF.moved hvm (h2.kept hk), va_OF.moved hvm (h3.kept hk), va_T.moved hvm (h4.kept hk), va_Z.moved hvm (h5.kept hk), va_Z.moved hvm (h6.kept hk)⟩
theorem cs_V_warm {X : ms_X} {s U : State} (hW : s.WarmedH U.vm) (h : cs_V X s) : cs_V X U := by
  obtain ⟨h1, h2, h3, h4, h5⟩ := h
  exact ⟨h1.moved hW.alike, h2.moved hW.alike, cs_m2_moved hW.alike h3, fun q hq m hm => (h4 q hq m hm).warmM hW, h5.warm hW⟩
theorem cs_V_same {X : ms_X} {u U : State} (hv : u.vm = U.vm) (h : cs_V X u) : cs_V X U := by
  obtain ⟨h1, h2, h3, h4, h5⟩ := h
  have ha : u.vm.Alike U.vm := by rw [hv]; exact Vm.Alike.refl _
  exact ⟨h1.moved ha, h2.moved ha, cs_m2_moved ha h3, fun q hq m hm => (h4 q hq m hm).same rfl hv, h5.same hv.symm⟩
/-- where a call begins -/
theorem cs_E_call {X : ms_X} {s U : State} {H : Heap} {locs : List Loc} (hE : cs_E X s) (hS : va_S (ms_A X) s.heap H locs) (hU : U.heap = H) (hW : s.WarmedH U.vm) : cs_E X U := by
  obtain ⟨h1, h2, h3, h4⟩ := hE
  refine ⟨va_K.moved hW.alike h1, cs_V_warm hW h2, cs_T_kept hW.alike (fun a a1 a2 => by rw [hU]; exact hS.2.1 a a1 a2) h3, ?_⟩
  rw [hU]
  exact Nat.le_trans h4 hS.1
theorem cs_E_same {X : ms_X} {u U : State} (hv : u.vm = U.vm) (hh : U.heap = u.heap) (hE : cs_E X u) : cs_E X U := by
  obtain ⟨h1, h2, h3, h4⟩ := hE
  have ha : u.vm.Alike U.vm := by rw [hv]; exact Vm.Alike.refl _
  exact ⟨va_K.moved ha h1, cs_V_same hv h2, cs_T_kept ha (fun a _ _ => by rw [hh]) h3, by rw [hh]; exact h4⟩
/-- the heap's size, where all cells are known -/
theorem cs_size {p : Program} {l : Launch} {e : Env} {R : Room} {s : State} {m : MethodId} {args : Array Value} {below : List Frame} {meth : Method} {c : Code} {cells slots : Nat} {QQ : State → Prop} {X : ms_X} {h : cs_H} {H : Heap} {locs : List Loc} {g : JFrame} (hP : cs_P X h H) (hS : va_S (ms_A X) s.heap H locs) (hB : X.1 ≤ s.heap.size) (hc : s.heap.size + cells = X.1 + h.length) (kk : H.size = X.1 + h.length → W p l e R s m args below meth c H locs cells slots QQ g) : W p l e R s m args below meth c H locs cells slots QQ g := by
  intro T hT Xs
  refine kk ?_ T hT Xs
  have h1 := Xs.heapSize
  rw [hT] at h1
  have h2 : X.1 + h.length ≤ H.size := by
    cases hn : h.length with
    | zero => have := hS.1; omega
    | succ n =>
      have hk : n < h.length := by omega
      have := (hP n _ (cs_ws_at (List.getElem?_eq_getElem hk))).lt
      show X.1 + (n + 1) ≤ H.size
      have t : X.1 + n < H.size := this
      omega
  omega
