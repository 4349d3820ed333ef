/-! steps of the constructors are the machine's -/
def cs_ln : Instr → Nat
  | .bipush _ | .ldc _ | .newarray _ => 2
  | .sipush _ | .ldc2_w _ | .iinc _ _ | .if_icmp _ _ | .goto _ | .getfield _ | .putfield _ | .invokestatic _ | .invokevirtual _ | .invokespecial _ | .new _ | .anewarray _ => 3
  | .multianewarray _ _ => 4
  | _ => 1
def cs_isR : FieldType → Bool
  | .object _ => true
  | .array _ => true
  | _ => false
theorem cs_isR_ok {ty : FieldType} (h : cs_isR ty = true) (a : Nat) : narrow ty (.ref a) = .ref a ∧ fits ty (.ref a) = true := by
  cases ty <;> first | exact ⟨rfl, rfl⟩ | cases h
/-- fields of a class: defaults and descriptors -/
def cs_fok (ci : Nat) : Bool := match mt_cls[ci]? with
  | some c => (List.range c.2.length).all fun f => match parseFieldDescriptor (mk_uT c f).2.2.1 with
    | some ty => (mk_ty (ci * 100 + f) != 2 || cs_isR ty) && decide (defaultValue ty = (cs_dv ci).getD f .null) && decide ((cs_dv ci).getD f .null = .null ∨ (cs_dv ci).getD f .null = .int 0 ∨ (cs_dv ci).getD f .null = .long 0)
    | none => false
  | none => false
set_option maxRecDepth 100000 in
theorem cs_fok_ok : (List.range 11).all cs_fok = true := by decide +kernel
theorem cs_own {k : Nat} {cq : String × List (String × String × Bool)} (h : mt_cls[k]? = some cq) : k < 11 ∧ mk_own k = cq.1 := by
  have h11 : k < 11 := (List.getElem?_eq_some_iff.mp h).1
  refine ⟨h11, ?_⟩
  have h5 := List.all_eq_true.mp mk_ownn k (List.mem_range.mpr h11)
  rw [h] at h5
  unfold mk_own
  rw [List.getD_eq_getElem?_getD]
  cases e : mt_own[k]? with
  | none => rw [e] at h5; cases h5
  | some b =>
    rw [e] at h5
    exact (of_decide_eq_true h5).symm
section CSS
variable {p : Program} {l : Launch} {e : Env} {R : Room} {s : State} {m : MethodId} {args : Array Value} {below : List Frame} {meth : Method} {c : Code} {cells slots : Nat} {QQ : State → Prop}
theorem cs_r {X : ms_X} {k : Nat} (h : k < 900) : ms_v X (.ref k) = .ref (X.1 + k) := by
  show Value.ref (ms_r X k) = _
  unfold ms_r
  rw [if_pos h]
/-- a row for a getting -/
theorem cs_get {X : ms_X} {h : cs_H} {H : Heap} {locs : List Loc} {b : ByteArray} {oo pc k r : Nat} {lsA : Array Slot} {rest : List Value} {q : Nat × Nat} {cc : Nat × List Value} {v : Value} (hx : p.tables.exec = Jvm.exec) (hb : c.code = b) (hown : s.vm.findClass (mk_own oo) = some m.cls) (hts : ∀ w ∈ ms_gw, w.before args s = true) (hK : va_K X.2.1 ms_cl (ms_tys X) s) (hP : cs_P X h H) (hq : mk_look mt_fl oo k = some q) (e2 : h[r]? = some cc) (e3 : cc.2[q.1 % 100]? = some v) (h1 : cc.1 = q.1 / 100) (h2 : mk_ty q.1 = 2) (h3 : r < 900) (hd : decode b pc = .ok (.getfield k, 3))
    (kk : W p l e R s m args below meth c H locs cells slots QQ (F0 m (pc + 3) lsA ((v :: rest).map (ms_v X)))) : W p l e R s m args below meth c H locs cells slots QQ (F0 m pc lsA ((Value.ref r :: rest).map (ms_v X))) := by
  obtain ⟨f, hf⟩ := ms_ty_fd (n := q.1) (by omega)
  obtain ⟨cq, c1, c2, c3, c4⟩ := mk_fd_v hf
  have c11 := (cs_own c1).1
  have he := cs_ws_at (X := X) e2
  rw [cs_e_o (by omega), h1] at he
  have hlink := hts _ (ms_flw (q := q.2) (by rw [hq]) hf)
  rw [c4] at hlink
  rw [List.map_cons, cs_r h3]
  exact va_get (D := X.2.1) (T := ms_uT cq) (ref := cq.1) hx hb hts (ms_cl_in c1) hown hK hP r he (ms_cl_at c1) (q.1 % 100) c2 (by rw [c3]; exact hlink) (fun x h => by rw [c3, c4] at h; rw [c3]; exact h) (v := ms_v X v) (by rw [List.getElem?_map, e3]; rfl) hd kk
theorem cs_dsc {ci : Nat} {cq : String × List (String × String × Bool)} (c1 : mt_cls[ci]? = some cq) : (∀ f, f < cq.2.length → parseFieldDescriptor (ms_uT cq f).2.2.1 = some ((parseFieldDescriptor (ms_uT cq f).2.2.1).getD .int)) ∧ ∀ x, x < cq.2.length → ∀ y, y < cq.2.length → x ≠ y → (ms_uT cq x).2.1 ≠ (ms_uT cq y).2.1 := by
  have hcm : cq ∈ mt_cls := List.mem_of_getElem? c1
  refine ⟨fun f hf => ?_, fun x hx y hy hne => ?_⟩
  · have h1 := List.all_eq_true.mp (List.all_eq_true.mp mk_dsc_ok cq hcm) f (List.mem_range.mpr hf)
    cases h2 : parseFieldDescriptor (ms_uT cq f).2.2.1 with
    | none => rw [h2] at h1; cases h1
    | some t => rfl
  · have h1 := List.all_eq_true.mp (List.all_eq_true.mp (List.all_eq_true.mp mk_nm_ok cq hcm) x (List.mem_range.mpr hx)) y (List.mem_range.mpr hy)
    simpa [hne] using h1
theorem cs_fk {ci f : Nat} {cq : String × List (String × String × Bool)} (c1 : mt_cls[ci]? = some cq) (hf : f < cq.2.length) : ∃ ty, parseFieldDescriptor (ms_uT cq f).2.2.1 = some ty ∧ (mk_ty (ci * 100 + f) = 2 → cs_isR ty = true) ∧ defaultValue ty = (cs_dv ci).getD f .null ∧ ((cs_dv ci).getD f .null = .null ∨ (cs_dv ci).getD f .null = .int 0 ∨ (cs_dv ci).getD f .null = .long 0) := by
  have h1 := List.all_eq_true.mp cs_fok_ok ci (List.mem_range.mpr (cs_own c1).1)
  unfold cs_fok at h1
  rw [c1] at h1
  dsimp only at h1
  have h2 := List.all_eq_true.mp h1 f (List.mem_range.mpr hf)
  cases e : parseFieldDescriptor (mk_uT cq f).2.2.1 with
  | none => rw [e] at h2; cases h2
  | some ty =>
    rw [e] at h2
    simp only [Bool.and_eq_true, decide_eq_true_eq, Bool.or_eq_true, bne_iff_ne] at h2
    exact ⟨ty, rfl, fun w => h2.1.1.resolve_left (fun q => q w), h2.1.2, h2.2⟩
/-- a row for a putting -/
theorem cs_put {X : ms_X} {h : cs_H} {H : Heap} {locs : List Loc} {b : ByteArray} {oo pc k r : Nat} {lsA : Array Slot} {rest : List Value} {q : Nat × Nat} {cc : Nat × List Value} {v : Value} (hx : p.tables.exec = Jvm.exec) (hb : c.code = b) (hown : s.vm.findClass (mk_own oo) = some m.cls) (hin : meth.name = "<init>" ∨ oo = 13) (hts : ∀ w ∈ ms_gw, w.before args s = true) (hK : va_K X.2.1 ms_cl (ms_tys X) s) (hP : cs_P X h H) (hS : va_S (ms_A X) s.heap H locs) (hq : mk_look mt_fl oo k = some q) (e2 : h[r]? = some cc) (h1 : cc.1 = q.1 / 100) (h3 : r < 900) (h4 : q.1 % 100 < cc.2.length) (h5 : cs_pt oo q.1 v = true) (hd : decode b pc = .ok (.putfield k, 3))
    (kk : ∀ (H1 : Heap) (locs1 : List Loc), cs_P X (h.set r (cc.1, cc.2.set (q.1 % 100) v)) H1 → va_S (ms_A X) s.heap H1 locs1 → W p l e R s m args below meth c H1 locs1 cells slots QQ (F0 m (pc + 3) lsA (rest.map (ms_v X)))) : W p l e R s m args below meth c H locs cells slots QQ (F0 m pc lsA ((v :: Value.ref r :: rest).map (ms_v X))) := by
  have h9 : mk_ty q.1 ≠ 9 := by
    unfold cs_pt at h5
    intro w
    split at h5
    · rw [w] at h5; cases h5
    · rw [w] at h5; cases h5
    · cases h5
  obtain ⟨f, hf⟩ := ms_ty_fd h9
  obtain ⟨cq, c1, c2, c3, c4⟩ := mk_fd_v hf
  have c11 := (cs_own c1).1
  have he := cs_ws_at (X := X) e2
  rw [cs_e_o (by omega), h1] at he
  have hlink := hts _ (ms_flw (q := q.2) (by rw [hq]) hf)
  rw [c4] at hlink
  rw [List.map_cons, List.map_cons, cs_r h3]
  obtain ⟨d1, d2⟩ := cs_dsc c1
  have hr : r < h.length := (List.getElem?_eq_some_iff.mp e2).1
  have fin : ∀ (H1 : Heap) (locs1 : List Loc), va_P X.2.1 ms_cl ((cs_ws X h).set r (X.1 + r, .inr (q.1 / 100, (cc.2.map (ms_v X)).set (q.1 % 100) (ms_v X v)))) H1 → va_S (ms_A X) s.heap H1 locs1 → W p l e R s m args below meth c H1 locs1 cells slots QQ (F0 m (pc + 3) lsA (rest.map (ms_v X))) := by
    intro H1 locs1 p1 s1
    refine kk H1 locs1 ?_ s1
    have e9 : cs_e X (cc.1, cc.2.set (q.1 % 100) v) = .inr (q.1 / 100, (cc.2.map (ms_v X)).set (q.1 % 100) (ms_v X v)) := by
      rw [cs_e_o (by show cc.1 < 100; omega), ← h1, ← List.map_set]
    unfold cs_P
    rw [← cs_ws_set hr, e9]
    exact p1
  cases v with
  | int x =>
    have h5 : (mk_ty q.1 == 0 && !mk_fin q.1) = true := h5
    simp only [Bool.and_eq_true, beq_iff_eq, Bool.not_eq_true'] at h5
    exact va_put (D := X.2.1) (T := ms_uT cq) (ref := cq.1) (ty := .int) hx hb hts (ms_cl_in c1) (fun f => (parseFieldDescriptor (ms_uT cq f).2.2.1).getD .int) d1 d2 hown hK hP cs_D hS r he (ms_cl_at c1) (q.1 % 100) c2 (by rw [c3]; exact hlink) (fun x h => by rw [c3, c4] at h; rw [c3]; exact h) (by rw [c3]; exact ms_fin_fd hf (by rw [h5.2]; decide)) (by rw [c3, (ms_tyI hf).1 h5.1]; decide +kernel) rfl rfl (by rw [List.length_map]; exact h4) hd (fun H1 locs1 p1 _ s1 => fin H1 locs1 p1 s1)
  | ref a =>
    have h5 : (mk_ty q.1 == 2 && mk_fin q.1 && q.1 / 100 == oo && decide (a < 900)) = true := h5
    simp only [Bool.and_eq_true, beq_iff_eq, decide_eq_true_eq] at h5
    obtain ⟨⟨⟨t1, t2⟩, t3⟩, t4⟩ := h5
    obtain ⟨ty, y1, y2, _⟩ := cs_fk c1 c2
    have yr := y2 (by rw [show q.1 / 100 * 100 + q.1 % 100 = q.1 by omega]; exact t1)
    obtain ⟨n1, n2⟩ := cs_isR_ok yr (X.1 + a)
    have hfin : f.2.2.2 = true := by
      unfold mk_fin at t2
      rw [hf] at t2
      exact t2
    have hi : meth.name = "<init>" := hin.resolve_right (by omega)
    have ho : (ms_uT cq (q.1 % 100)).1 = mk_own oo := by rw [c3, c4, ← (cs_own c1).2, t3]
    rw [cs_r t4] at fin ⊢
    exact va_putF (D := X.2.1) (T := ms_uT cq) (ref := cq.1) (ty := ty) hx hb hts (ms_cl_in c1) (fun f => (parseFieldDescriptor (ms_uT cq f).2.2.1).getD .int) d1 d2 hown hK hP cs_D hS r he (ms_cl_at c1) (q.1 % 100) c2 (by rw [c3]; exact hlink) (fun x h => by rw [c3, c4] at h; rw [c3]; exact h) (by rw [c3]; exact hfin) hi ho y1 n1 n2 (by rw [List.length_map]; exact h4) hd (fun H1 locs1 p1 _ s1 => fin H1 locs1 p1 s1)
  | _ => cases h5
/-- a new object -/
theorem cs_new {X : ms_X} {h : cs_H} {H : Heap} {locs : List Loc} {b : ByteArray} {oo pc k : Nat} {lsA : Array Slot} {st : List Value} {q : Nat × Nat × Nat × Nat} (hx : p.tables.exec = Jvm.exec) (hb : c.code = b) (hown : s.vm.findClass (mk_own oo) = some m.cls) (hts : ∀ w ∈ ms_gw, w.before args s = true) (hK : va_K X.2.1 ms_cl (ms_tys X) s) (hP : cs_P X h H) (hS : va_S (ms_A X) s.heap H locs) (hB : X.1 ≤ s.heap.size) (hc : s.heap.size + cells = X.1 + h.length) (hq : mk_look cs_nl oo k = some q) (h9 : h.length < 900) (hcells : cells + 1 ≤ R.cells) (hslots : slots + (cs_dv q.1).length ≤ R.slots) (hd : decode b pc = .ok (.new k, 3))
    (kk : ∀ H1 : Heap, cs_P X (h ++ [(q.1, cs_dv q.1)]) H1 → va_S (ms_A X) s.heap H1 locs → W p l e R s m args below meth c H1 locs (cells + 1) (slots + (cs_dv q.1).length) QQ (F0 m (pc + 3) lsA ((Value.ref h.length :: st).map (ms_v X)))) : W p l e R s m args below meth c H locs cells slots QQ (F0 m pc lsA (st.map (ms_v X))) := by
  refine cs_size hP hS hB hc (fun hsz => ?_)
  have hw := List.all_eq_true.mp cs_nlw_ok _ (mk_look_in hq)
  unfold cs_nlw at hw
  dsimp only at hw
  cases c1 : mt_cls[q.1]? with
  | none => rw [c1] at hw; cases hw
  | some cq =>
    rw [c1] at hw
    simp only [Bool.and_eq_true] at hw
    obtain ⟨⟨w1, w2⟩, w3⟩ := hw
    have hcl := ms_cl_at c1
    have hKn := hK.1 q.1 _ hcl
    have hlen : (cs_dv q.1).length = cq.2.length := by
      unfold cs_dv
      rw [List.length_map, List.length_range, List.getD_eq_getElem?_getD, c1]
      rfl
    rw [hlen] at hslots kk
    refine W.newcK hx hb hown (hts _ (mk_w_in w1)) (hts _ (mk_w_in w2)) (hts _ (mk_w_in w3)) rfl hd hcells hslots hKn.2.1 hsz fun H1 kC hkC e1 z1 o1 => ?_
    have hk : ∀ (k : Nat) (x : Nat × va_E), (cs_ws X h)[k]? = some x → H1[x.1]? = H[x.1]? := fun k x hx => o1 x.1 (by rw [← hsz]; exact (hP k x hx).lt)
    have c11 := (cs_own c1).1
    have hP1 : cs_P X (h ++ [(q.1, cs_dv q.1)]) H1 := by
      unfold cs_P
      rw [cs_ws_app, cs_e_o (by show q.1 < 100; omega)]
      refine (va_P.kept hP hk).app (fun i x hx => ?_)
      have hz : i < 1 := (List.getElem?_eq_some_iff.mp hx).1
      rw [show i = 0 by omega] at hx
      cases hx
      refine ⟨_, hcl, (u_born (fun f => (parseFieldDescriptor (ms_uT cq f).2.2.1).getD .int) hts (ms_cl_in c1) hKn hkC e1 (cs_dsc c1).1).to (fun j hj => ?_)⟩
      obtain ⟨ty, y1, _, y3, y4⟩ := cs_fk c1 hj
      show defaultValue ((parseFieldDescriptor (ms_uT cq j).2.2.1).getD .int) = ((cs_dv q.1).map (ms_v X)).getD j .null
      rw [y1]
      show defaultValue ty = _
      rw [y3, List.getD_eq_getElem?_getD, List.getD_eq_getElem?_getD, List.getElem?_map]
      rw [List.getD_eq_getElem?_getD] at y4
      cases ev : (cs_dv q.1)[j]? with
      | none => rfl
      | some w =>
        rw [ev] at y4
        rcases y4 with y | y | y
        · have : w = .null := y
          rw [this]; rfl
        · have : w = .int 0 := y
          rw [this]; rfl
        · have : w = .long 0 := y
          rw [this]; rfl
    have := kk H1 hP1 ⟨Nat.le_trans hS.1 (by omega), fun x h1 h2 => (o1 x (by have := hS.1; omega)).trans (hS.2.1 x h1 h2), hS.2.2⟩
    rw [List.map_cons, cs_r h9] at this
    exact this
end CSS
