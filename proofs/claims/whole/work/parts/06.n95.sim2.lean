/-! ===== the small machine's runs are the machine's ===== -/
def ms_gw : List Jvm.Cond := lw_tbl.filter goodWord
theorem mk_w_in {i : Nat} {w : Jvm.Cond} (h : mk_w i w = true) : w ∈ ms_gw := by
  unfold mk_w at h
  simp only [Bool.and_eq_true, decide_eq_true_eq] at h
  exact List.mem_filter.mpr ⟨List.mem_of_getElem? h.1, h.2⟩
theorem ms_gw_good : GoodIn lw_tbl ms_gw := fun w hw => ⟨(List.mem_filter.mp hw).1, good_of_word (List.mem_filter.mp hw).2⟩
def ms_Pc (X : ms_X) (z : mm_S) (as : List Value) (I : mm_I) (J : mm_J) : Array Value → State → Prop := fun v U => v = (as.map (ms_v X)).toArray ∧ ms_P X I J U.heap ∧ ms_E X z U
def ms_Qc (X : ms_X) (Q : Option Value → mm_I → mm_J → Prop) : Array Value → State → Outcome → State → Prop := fun _ st oc t => (∃ r I J, oc = .returned (r.map (ms_v X)) ∧ Q r I J ∧ ms_P X I J t.heap) ∧ va_F (ms_A X) st t
def ms_wm (m : mt_M) : List Jvm.Cond := .code m.1 (mk_by m) m.2.2.1 m.2.2.2.1 :: ms_gw
def ms_Cs (l : Launch) (R : Room) (X : ms_X) (z : mm_S) (C : mm_C) : Prop := ∀ g m as I J Q, mt_ms[g]? = some m → mk_words m = true → C g as I J Q → ∃ rm : Room, rm.cells = 0 ∧ rm.slots = 0 ∧ rm.frames + 1 ≤ R.frames ∧ 38 + rm.locals ≤ R.locals ∧ Met l m.1 (ms_wm m) rm (ms_Pc X z as I J) (ms_Qc X Q) 0 0 (ms_A X)
theorem ms_Z_moved {X : ms_X} {z : mm_S} {u U : State} (hvm : u.vm.Alike U.vm) (hh : U.heap = u.heap) (h : ms_Z X z u) : ms_Z X z U := by
  obtain ⟨h1, h2, h3⟩ := h
  refine ⟨fun q hq => ?_, by rw [hh]; exact va_X.moved hvm h2, h3⟩
  obtain ⟨a, b⟩ := h1 q hq
  rw [hh]
  exact ⟨va_Z.moved hvm a, va_T.moved hvm b⟩
theorem ms_E_moved {X : ms_X} {z : mm_S} {u U : State} (hvm : u.vm.Alike U.vm) (hh : U.heap = u.heap) (h : ms_E X z u) : ms_E X z U := ⟨va_K.moved hvm h.1, ms_Z_moved hvm hh h.2.1, by rw [hh]; exact h.2.2⟩
/-- what a later heap keeps of the constants -/
theorem ms_Z_kept {X : ms_X} {z : mm_S} {u U : State} (hvm : u.vm.Alike U.vm) (hk : ∀ a : Nat, a < u.heap.size → ¬ ms_A X a → U.heap[a]? = u.heap[a]?) (hB : X.1 ≤ u.heap.size) (h : ms_Z X z u) : ms_Z X z U := by
  obtain ⟨h1, h2, h3⟩ := h
  refine ⟨fun q hq => ?_, va_X.moved hvm (h2.kept (hk _ (by omega) (by unfold ms_A; omega))), h3⟩
  obtain ⟨a, b⟩ := h1 q hq
  exact ⟨va_Z.moved hvm (a.kept hk), va_T.moved hvm (b.kept hk)⟩
theorem ms_blind (X : ms_X) (z : mm_S) (as : List Value) (I : mm_I) (J : mm_J) : FrameBlind (ms_Pc X z as I J) := by
  intro a U g mk q
  obtain ⟨q1, q2, q3⟩ := q
  exact ⟨q1, q2, ms_E_moved (u := U) (U := U.calling g mk a) (Vm.Alike.refl U.vm) rfl q3⟩
section MS
variable {p : Program} {l : Launch} {e : Env} {R : Room} {s : State} {m : MethodId} {args : Array Value} {below : List Frame} {meth : Method} {c : Code} {cells slots : Nat} {QQ : State → Prop}
/-- behind a call -/
theorem ms_callK {X : ms_X} {Q : Option Value → mm_I → mm_J → Prop} {H : Heap} {locs : List Loc} {pc : Nat} {ls : Array Slot} {st0 rest : List Value} {a : Array Value} (hr : va_Run p l e R s m args below meth c H locs cells slots 0 0 (F0 m pc ls st0) rest (ms_Qc X Q a) (ms_A X)) (hS : va_S (ms_A X) s.heap H locs)
    (kk : ∀ (r : Option Value) (I : mm_I) (J : mm_J) (H1 : Heap) (locs1 : List Loc), Q r I J → ms_P X I J H1 → va_S (ms_A X) s.heap H1 locs1 → W p l e R s m args below meth c H1 locs1 cells slots QQ (F0 m (pc + 3) ls ((r.map (ms_v X)).toList ++ rest))) : W p l e R s m args below meth c H locs cells slots QQ (F0 m pc ls st0) := by
  intro T hT Xs
  obtain ⟨v, st₀, t, T', L, h0, X', hL, e1, e2, ⟨⟨r, I, J, hv, hp, hb⟩, hz, hk⟩, st⟩ := hr T hT Xs
  cases hv
  rw [h0] at hz hk
  obtain ⟨t2, a1, b1⟩ := kk r I J T'.heap (locs ++ L) hp (by rw [e1]; exact hb)
    ⟨Nat.le_trans hS.1 (by rw [e1]; exact hz), fun q h1 h2 => by rw [e1, hk q (Nat.lt_of_lt_of_le h1 hS.1) h2]; exact hS.2.1 q h1 h2, fun q hq => by
      rcases List.mem_append.mp hq with h | h
      · exact hS.2.2 q h
      · exact hL q h⟩ T' rfl X'
  exact ⟨t2, st t2 a1, b1⟩
theorem ms_cl_at {ci : Nat} {q : String × List (String × String × Bool)} (h : mt_cls[ci]? = some q) : ms_cl[ci]? = some (q.1, ms_uT q, q.2.length) := by
  unfold ms_cl
  rw [List.getElem?_map, h]
  rfl
theorem mk_fd_v {n : Nat} {f : String × String × String × Bool} (h : mk_fd n = some f) : ∃ q, mt_cls[n / 100]? = some q ∧ n % 100 < q.2.length ∧ ms_uT q (n % 100) = f ∧ f.1 = q.1 := by
  unfold mk_fd at h
  cases h1 : mt_cls[n / 100]? with
  | none => rw [h1] at h; cases h
  | some q =>
    rw [h1] at h
    dsimp only at h
    cases h2 : q.2[n % 100]? with
    | none => rw [h2] at h; cases h
    | some g =>
      rw [h2] at h
      cases h
      exact ⟨q, rfl, (List.getElem?_eq_some_iff.mp h2).1, by show mk_uT q (n % 100) = _; unfold mk_uT; rw [h2], rfl⟩
theorem ms_cl_in {ci : Nat} {q : String × List (String × String × Bool)} (h : mt_cls[ci]? = some q) : ∀ w ∈ u_ws q.1 (ms_uT q) q.2.length, w ∈ ms_gw := by
  intro w hw
  obtain ⟨k, hk, rfl⟩ := List.mem_map.mp hw
  have h1 : ci < mt_cls.length := (List.getElem?_eq_some_iff.mp h).1
  have h2 := List.all_eq_true.mp mk_lpw_ok ci (List.mem_range.mpr (by rw [show mt_cls.length = 11 from rfl] at h1; exact h1))
  unfold mk_lpw at h2
  rw [h] at h2
  exact mk_w_in (List.all_eq_true.mp h2 k hk)
/-- an object's cell: its class, its fields -/
theorem ms_obj {X : ms_X} {I : mm_I} {J : mm_J} {k n : Nat} {f : String × String × String × Bool} (hf : mk_fd n = some f) (hT : (mm_T k).1 = n / 100) : k < mm_N ∧ (ms_ws X I J)[k]? = some (X.1 + k, .inr (n / 100, ms_fs X I J k)) ∧ n % 100 < (mm_T k).2 ∧ (ms_fs X I J k)[n % 100]? = some (ms_fv X I J k (n % 100) (mk_ty n)) := by
  obtain ⟨q, h1, h2, h3, h4⟩ := mk_fd_v hf
  have hc : n / 100 < 11 := by
    have := (List.getElem?_eq_some_iff.mp h1).1
    rw [show mt_cls.length = 11 from rfl] at this
    exact this
  have hk : k < mm_N := ms_T_lt (by omega)
  have hsz : (mm_T k).2 = q.2.length := by
    have h5 := List.all_eq_true.mp mk_sz_ok k (List.mem_range.mpr hk)
    unfold mk_sz at h5
    rw [hT, h1] at h5
    simp only [decide_eq_true_eq] at h5
    exact h5
  refine ⟨hk, ?_, by omega, ?_⟩
  · rw [ms_ws_at hk]
    unfold ms_ce
    rw [if_pos (by omega), hT]
  · unfold ms_fs
    rw [List.getElem?_map, List.getElem?_range (by omega)]
    show some (ms_fv X I J k (n % 100) (mk_ty ((mm_T k).1 * 100 + n % 100))) = _
    rw [hT, Nat.mul_comm, Nat.div_add_mod]
/-- an array's cell -/
theorem ms_arr {X : ms_X} {I : mm_I} {J : mm_J} {k t : Nat} (hT : (mm_T k).1 = t) (h1 : 100 ≤ t) (h2 : t ≤ 105) : k < mm_N ∧ (ms_ws X I J)[k]? = some (X.1 + k, .inl (X.2.2.1 t, ms_ar X I J k)) := by
  have hk : k < mm_N := ms_T_lt (by omega)
  refine ⟨hk, ?_⟩
  rw [ms_ws_at hk]
  unfold ms_ce
  rw [if_neg (by omega), hT]
theorem ms_ar_i {X : ms_X} {I : mm_I} {J : mm_J} {k : Nat} (hT : (mm_T k).1 = 100 ∨ (mm_T k).1 = 102) : ms_ar X I J k = ((mm_T k).2, .inl (I k)) := by
  unfold ms_ar
  rw [if_neg (by omega), if_pos hT]
theorem ms_ar_l {X : ms_X} {I : mm_I} {J : mm_J} {k : Nat} (hT : (mm_T k).1 = 101) : ms_ar X I J k = ((mm_T k).2, .inr (.inl (J k))) := by
  unfold ms_ar
  rw [if_pos hT]
theorem ms_ar_q {X : ms_X} {I : mm_I} {J : mm_J} {k : Nat} (hT : 103 ≤ (mm_T k).1) : ms_ar X I J k = ((mm_T k).2, .inr (.inr (.inr (.inr fun j => (mm_R k j).map (X.1 + ·))))) := by
  unfold ms_ar
  rw [if_neg (by omega), if_neg (by omega)]
/-- writing a field -/
theorem ms_putfs {X : ms_X} {I I' : mm_I} {J J' : mm_J} {k f : Nat} {v : Value} (hv : v = ms_fv X I' J' k f (mk_ty ((mm_T k).1 * 100 + f))) (ho : ∀ g, g ≠ f → I' k g = I k g ∧ J' k g = J k g) : (ms_fs X I J k).set f v = ms_fs X I' J' k := by
  unfold ms_fs
  apply List.ext_getElem?
  intro i
  by_cases hi : i < (mm_T k).2
  · by_cases e : i = f
    · subst e
      rw [List.getElem?_set_self (by simpa using hi), List.getElem?_map, List.getElem?_range hi]
      exact congrArg some hv
    · rw [List.getElem?_set_ne (fun h => e h.symm), List.getElem?_map, List.getElem?_map, List.getElem?_range hi]
      show some (ms_fv X I J k i _) = some (ms_fv X I' J' k i _)
      unfold ms_fv
      rw [(ho i e).1, (ho i e).2]
  · rw [List.getElem?_eq_none (by simp; omega), List.getElem?_eq_none (by simp; omega)]
end MS
