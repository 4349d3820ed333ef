/-! arrays in constructors -/
section CSA
variable {p : Program} {l : Launch} {e : Env} {R : Room} {s : State} {m : MethodId} {args : Array Value} {below : List Frame} {meth : Method} {c : Code} {cells slots : Nat} {QQ : State → Prop}
/-- a cell more -/
theorem cs_push {X : ms_X} {h : cs_H} {H H1 : Heap} {locs : List Loc} {cc : Nat × List Value} (hP : cs_P X h H) (hS : va_S (ms_A X) s.heap H locs) (hsz : H.size = X.1 + h.length) (h1 : va_at X.2.1 ms_cl (X.1 + h.length, cs_e X cc) H1) (z1 : H1.size = X.1 + h.length + 1) (o1 : ∀ q, q < X.1 + h.length → H1[q]? = H[q]?) : cs_P X (h ++ [cc]) H1 ∧ va_S (ms_A X) s.heap H1 locs := by
  have hk : ∀ (k : Nat) (x : Nat × va_E), (cs_ws X h)[k]? = some x → H1[x.1]? = H[x.1]? := fun k x hx => o1 x.1 (by rw [← hsz]; exact (hP k x hx).lt)
  refine ⟨?_, Nat.le_trans hS.1 (by omega), fun x h1 h2 => (o1 x (by have := hS.1; omega)).trans (hS.2.1 x h1 h2), hS.2.2⟩
  unfold cs_P
  rw [cs_ws_app]
  refine (va_P.kept hP hk).app (fun i x hx => ?_)
  have hz : i < 1 := (List.getElem?_eq_some_iff.mp hx).1
  rw [show i = 0 by omega] at hx
  cases hx
  exact h1
theorem cs_tyI {X : ms_X} (hK : va_K X.2.1 ms_cl (ms_tys X) s) : s.vm.findClass ("[" ++ (FieldType.int).toString) = some (X.2.2.1 100) ∧ s.vm.findClass ("[" ++ (FieldType.long).toString) = some (X.2.2.1 101) ∧ s.vm.findClass ("[" ++ (FieldType.boolean).toString) = some (X.2.2.1 102) ∧ s.vm.findClass ("[" ++ (FieldType.array .int).toString) = some (X.2.2.1 105) := ⟨(hK.2 0 _ rfl).2, (hK.2 1 _ rfl).2, (hK.2 2 _ rfl).2, (hK.2 5 _ rfl).2⟩
theorem cs_newa {X : ms_X} {h : cs_H} {H : Heap} {locs : List Loc} {b : ByteArray} {pc kd : Nat} {lsA : Array Slot} {st : List Value} {n : Int32} {at_ : ArrayType} {dv : Value} (hx : p.tables.exec = Jvm.exec) (hb : c.code = b) (hts : ∀ w ∈ ms_gw, w.before args s = true) (hK : va_K X.2.1 ms_cl (ms_tys X) s) (hP : cs_P X h H) (hS : va_S (ms_A X) s.heap H locs) (hB : X.1 ≤ s.heap.size) (hc : s.heap.size + cells = X.1 + h.length) (hk : at_ = .int ∧ kd = 100 ∧ dv = .int 0 ∨ at_ = .long ∧ kd = 101 ∧ dv = .long 0 ∨ at_ = .boolean ∧ kd = 102 ∧ dv = .int 0) (h9 : h.length < 900) (hn : ¬ n < 0) (h5 : n.toNatClampNeg ≤ 5000) (hcells : cells + 1 ≤ R.cells) (hslots : slots + n.toNatClampNeg ≤ R.slots) (hd : decode b pc = .ok (.newarray at_, 2))
    (kk : ∀ H1 : Heap, cs_P X (h ++ [(kd, List.replicate n.toNatClampNeg dv)]) H1 → va_S (ms_A X) s.heap H1 locs → W p l e R s m args below meth c H1 locs (cells + 1) (slots + n.toNatClampNeg) QQ (F0 m (pc + 2) lsA ((Value.ref h.length :: st).map (ms_v X)))) : W p l e R s m args below meth c H locs cells slots QQ (F0 m pc lsA ((Value.int n :: st).map (ms_v X))) := by
  refine cs_size hP hS hB hc (fun hsz => ?_)
  obtain ⟨t1, t2, t3, _⟩ := cs_tyI hK
  have wo := cs_oiw_ok
  simp only [Bool.and_eq_true] at wo
  obtain ⟨⟨⟨_, w1⟩, w2⟩, w3⟩ := wo
  rw [List.map_cons, cs_r h9] at kk
  rcases hk with ⟨rfl, rfl, rfl⟩ | ⟨rfl, rfl, rfl⟩ | ⟨rfl, rfl, rfl⟩
  · refine va_newaK (atype := .int) hx hb (hts _ (mk_w_in w1)) rfl hd rfl hn rfl (by show n.toNatClampNeg * 4 ≤ _; omega) hcells hslots hsz fun H1 cA e1 z1 o1 _ hNm => ?_
    have ec : cA = X.2.2.1 100 := Option.some.inj (hNm.symm.trans t1)
    subst ec
    obtain ⟨a, b⟩ := cs_push (cc := (100, List.replicate n.toNatClampNeg (.int 0))) hP hS hsz (by
      rw [cs_e_i (Or.inl rfl)]
      show H1[X.1 + h.length]? = some (vp_cell _ _)
      rw [cs_vI_rep, List.length_replicate]
      exact e1) z1 o1
    exact kk H1 a b
  · refine va_newaK (atype := .long) hx hb (hts _ (mk_w_in w2)) rfl hd rfl hn rfl (by show n.toNatClampNeg * 8 ≤ _; omega) hcells hslots hsz fun H1 cA e1 z1 o1 _ hNm => ?_
    have ec : cA = X.2.2.1 101 := Option.some.inj (hNm.symm.trans t2)
    subst ec
    obtain ⟨a, b⟩ := cs_push (cc := (101, List.replicate n.toNatClampNeg (.long 0))) hP hS hsz (by
      rw [cs_e_l rfl]
      show H1[X.1 + h.length]? = some (vp_cell _ _)
      rw [cs_vJ_rep, List.length_replicate]
      exact e1) z1 o1
    exact kk H1 a b
  · refine va_newaK (atype := .boolean) hx hb (hts _ (mk_w_in w3)) rfl hd rfl hn rfl (by rw [show componentBytes (newarray.typeOf .boolean) = 1 from rfl]; omega) hcells hslots hsz fun H1 cA e1 z1 o1 _ hNm => ?_
    have ec : cA = X.2.2.1 102 := Option.some.inj (hNm.symm.trans t3)
    subst ec
    obtain ⟨a, b⟩ := cs_push (cc := (102, List.replicate n.toNatClampNeg (.int 0))) hP hS hsz (by
      rw [cs_e_i (Or.inr rfl)]
      show H1[X.1 + h.length]? = some (vp_cell _ _)
      rw [cs_vI_rep, List.length_replicate]
      exact e1) z1 o1
    exact kk H1 a b
theorem cs_anew {X : ms_X} {h : cs_H} {H : Heap} {locs : List Loc} {b : ByteArray} {oo pc k : Nat} {lsA : Array Slot} {st : List Value} {n : Int32} {q : Nat × Nat} (hx : p.tables.exec = Jvm.exec) (hb : c.code = b) (hown : s.vm.findClass (mk_own oo) = some m.cls) (hts : ∀ w ∈ ms_gw, w.before args s = true) (hE : cs_E X s) (hP : cs_P X h H) (hS : va_S (ms_A X) s.heap H locs) (hc : s.heap.size + cells = X.1 + h.length) (hq : mk_look cs_al oo k = some q) (h9 : h.length < 900) (hn : ¬ n < 0) (h5 : n.toNatClampNeg ≤ 5000) (hcells : cells + 1 ≤ R.cells) (hslots : slots + n.toNatClampNeg ≤ R.slots) (hd : decode b pc = .ok (.anewarray k, 3))
    (kk : ∀ H1 : Heap, cs_P X (h ++ [(q.1, List.replicate n.toNatClampNeg .null)]) H1 → va_S (ms_A X) s.heap H1 locs → W p l e R s m args below meth c H1 locs (cells + 1) (slots + n.toNatClampNeg) QQ (F0 m (pc + 3) lsA ((Value.ref h.length :: st).map (ms_v X)))) : W p l e R s m args below meth c H locs cells slots QQ (F0 m pc lsA ((Value.int n :: st).map (ms_v X))) := by
  obtain ⟨hK, hV, _, hB⟩ := hE
  refine cs_size hP hS hB hc (fun hsz => ?_)
  have hw := List.all_eq_true.mp cs_alw_ok _ (mk_look_in hq)
  unfold cs_alw at hw
  simp only [Bool.and_eq_true, decide_eq_true_eq] at hw
  obtain ⟨hk, w1⟩ := hw
  rw [List.map_cons, cs_r h9] at kk
  have hcls : ∀ cA, s.vm.findClass ("[" ++ (FieldType.object (cs_an q.1)).toString) = some cA → cA = X.2.2.1 q.1 := by
    intro cA hcA
    rcases hk with e | e
    · have e : q.1 = 103 := e
      obtain ⟨_, _, _, _, _, hh⟩ := (hK.2 3 _ rfl).2
      rw [e] at hcA ⊢
      exact Option.some.inj (hcA.symm.trans hh)
    · have e : q.1 = 104 := e
      obtain ⟨_, _, _, _, _, hh⟩ := (hK.2 4 _ rfl).2
      rw [e] at hcA ⊢
      exact Option.some.inj (hcA.symm.trans hh)
  have hov : va_AO (cs_an q.1) s := by
    rcases hk with e | e
    · have e : q.1 = 103 := e
      rw [e]; exact hV.1
    · have e : q.1 = 104 := e
      rw [e]; exact hV.2.1
  refine W.anew hx hb hown (hts _ (mk_w_in w1)) (va_AO.use hov) rfl hd rfl hn (by omega) hcells hslots fun cA kA comp f1 f2 f3 f4 => ?_
  have ec := hcls cA f1
  subst ec
  have e1 : (H.push ({ cls := X.2.2.1 q.1, slots := Array.replicate n.toNatClampNeg .null, vm := .none } : Cell))[H.size]? = some (arrV (X.2.2.1 q.1) n.toNatClampNeg (fun _ => .null)) := by rw [Array.getElem?_push_size, ← arrV_new]
  obtain ⟨a, b⟩ := cs_push (cc := (q.1, List.replicate n.toNatClampNeg .null)) (H1 := H.push ({ cls := X.2.2.1 q.1, slots := Array.replicate n.toNatClampNeg .null, vm := .none } : Cell)) hP hS hsz (by
    rw [cs_e_q (by show 103 ≤ q.1; have : q.1 = 103 ∨ q.1 = 104 := hk; omega), cs_vR_rep, List.length_replicate, ← hsz]
    show (H.push _)[H.size]? = some (vp_cell _ _)
    rw [vp_cell_q]
    exact e1) (by rw [Array.size_push, hsz]) (fun x hx => by rw [Array.getElem?_push, if_neg (by omega)])
  have := kk _ a b
  rw [← hsz] at this
  exact this
theorem cs_iast {X : ms_X} {h : cs_H} {H : Heap} {locs : List Loc} {b : ByteArray} {pc r : Nat} {lsA : Array Slot} {st : List Value} {x i : Int32} {cc : Nat × List Value} (hx : p.tables.exec = Jvm.exec) (hb : c.code = b) (hK : va_K X.2.1 ms_cl (ms_tys X) s) (hP : cs_P X h H) (hS : va_S (ms_A X) s.heap H locs) (e2 : h[r]? = some cc) (h1 : cc.1 = 100) (h3 : r < 900) (h4 : cs_in_ i cc.2.length = true) (hd : decode b pc = .ok (.iastore, 1))
    (kk : ∀ (H1 : Heap) (locs1 : List Loc), cs_P X (h.set r (cc.1, cc.2.set i.toNatClampNeg (.int x))) H1 → va_S (ms_A X) s.heap H1 locs1 → W p l e R s m args below meth c H1 locs1 cells slots QQ (F0 m (pc + 1) lsA (st.map (ms_v X)))) : W p l e R s m args below meth c H locs cells slots QQ (F0 m pc lsA ((Value.int x :: Value.int i :: Value.ref r :: st).map (ms_v X))) := by
  obtain ⟨v1, v2⟩ := cs_vp h4
  have hr : r < h.length := (List.getElem?_eq_some_iff.mp e2).1
  have he := cs_ws_at (X := X) e2
  rw [cs_e_i (Or.inl h1), h1] at he
  rw [List.map_cons, List.map_cons, List.map_cons, cs_r h3]
  refine va_iast (D := X.2.1) (x := x) hx hb hK hP cs_D hS r 0 he rfl (i := i) v1 hd (fun H1 locs1 p1 _ s1 => kk H1 locs1 ?_ s1)
  have ec : cs_e X (cc.1, cc.2.set i.toNatClampNeg (.int x)) = .inl (X.2.2.1 100, cc.2.length, .inl (upd (cs_vI cc.2) i.toNatClampNeg x)) := by
    rw [cs_e_i (c := (cc.1, cc.2.set i.toNatClampNeg (.int x))) (Or.inl h1), cs_vI_set v2]
    show Sum.inl (X.2.2.1 cc.1, (cc.2.set i.toNatClampNeg (.int x)).length, _) = _
    rw [List.length_set, h1]
  unfold cs_P
  rw [← cs_ws_set hr, ec]
  exact p1
theorem cs_last {X : ms_X} {h : cs_H} {H : Heap} {locs : List Loc} {b : ByteArray} {pc r : Nat} {lsA : Array Slot} {st : List Value} {x : Int64} {i : Int32} {cc : Nat × List Value} (hx : p.tables.exec = Jvm.exec) (hb : c.code = b) (hK : va_K X.2.1 ms_cl (ms_tys X) s) (hP : cs_P X h H) (hS : va_S (ms_A X) s.heap H locs) (e2 : h[r]? = some cc) (h1 : cc.1 = 101) (h3 : r < 900) (h4 : cs_in_ i cc.2.length = true) (hd : decode b pc = .ok (.lastore, 1))
    (kk : ∀ (H1 : Heap) (locs1 : List Loc), cs_P X (h.set r (cc.1, cc.2.set i.toNatClampNeg (.long x))) H1 → va_S (ms_A X) s.heap H1 locs1 → W p l e R s m args below meth c H1 locs1 cells slots QQ (F0 m (pc + 1) lsA (st.map (ms_v X)))) : W p l e R s m args below meth c H locs cells slots QQ (F0 m pc lsA ((Value.long x :: Value.int i :: Value.ref r :: st).map (ms_v X))) := by
  obtain ⟨v1, v2⟩ := cs_vp h4
  have hr : r < h.length := (List.getElem?_eq_some_iff.mp e2).1
  have he := cs_ws_at (X := X) e2
  rw [cs_e_l h1, h1] at he
  rw [List.map_cons, List.map_cons, List.map_cons, cs_r h3]
  refine va_last (D := X.2.1) (x := x) hx hb hK hP cs_D hS r 1 he rfl (i := i) v1 hd (fun H1 locs1 p1 _ s1 => kk H1 locs1 ?_ s1)
  have ec : cs_e X (cc.1, cc.2.set i.toNatClampNeg (.long x)) = .inl (X.2.2.1 101, cc.2.length, .inr (.inl (vp_updL (cs_vJ cc.2) i.toNatClampNeg x))) := by
    rw [cs_e_l (c := (cc.1, cc.2.set i.toNatClampNeg (.long x))) h1, cs_vJ_set v2]
    show Sum.inl (X.2.2.1 cc.1, (cc.2.set i.toNatClampNeg (.long x)).length, _) = _
    rw [List.length_set, h1]
  unfold cs_P
  rw [← cs_ws_set hr, ec]
  exact p1
theorem cs_lald {X : ms_X} {h : cs_H} {H : Heap} {locs : List Loc} {b : ByteArray} {pc r : Nat} {lsA : Array Slot} {st : List Value} {x : Int64} {i : Int32} {cc : Nat × List Value} (hx : p.tables.exec = Jvm.exec) (hb : c.code = b) (hK : va_K X.2.1 ms_cl (ms_tys X) s) (hP : cs_P X h H) (e2 : h[r]? = some cc) (e3 : cc.2[i.toNatClampNeg]? = some (.long x)) (h1 : cc.1 = 101) (h3 : r < 900) (h4 : cs_in_ i cc.2.length = true) (hd : decode b pc = .ok (.laload, 1))
    (kk : W p l e R s m args below meth c H locs cells slots QQ (F0 m (pc + 1) lsA ((Value.long x :: st).map (ms_v X)))) : W p l e R s m args below meth c H locs cells slots QQ (F0 m pc lsA ((Value.int i :: Value.ref r :: st).map (ms_v X))) := by
  obtain ⟨v1, v2⟩ := cs_vp h4
  have he := cs_ws_at (X := X) e2
  rw [cs_e_l h1, h1] at he
  rw [List.map_cons, List.map_cons, cs_r h3]
  refine va_lald (D := X.2.1) hx hb hK hP r 1 he rfl (i := i) v1 hd ?_
  have ev : cs_vJ cc.2 i.toNatClampNeg = x := by unfold cs_vJ; rw [e3]
  rw [ev]
  exact kk
theorem cs_aast {X : ms_X} {h : cs_H} {H : Heap} {locs : List Loc} {b : ByteArray} {pc r v : Nat} {lsA : Array Slot} {st : List Value} {i : Int32} {cc c2 : Nat × List Value} (hx : p.tables.exec = Jvm.exec) (hb : c.code = b) (hK : va_K X.2.1 ms_cl (ms_tys X) s) (hP : cs_P X h H) (hS : va_S (ms_A X) s.heap H locs) (e2 : h[r]? = some cc) (e3 : h[v]? = some c2) (h1 : cc.1 = 103 ∧ c2.1 = 4 ∨ cc.1 = 104 ∧ c2.1 = 0) (h3 : r < 900) (h5 : v < 900) (h4 : cs_in_ i cc.2.length = true) (hd : decode b pc = .ok (.aastore, 1))
    (kk : ∀ (H1 : Heap) (locs1 : List Loc), cs_P X (h.set r (cc.1, cc.2.set i.toNatClampNeg (.ref v))) H1 → va_S (ms_A X) s.heap H1 locs1 → W p l e R s m args below meth c H1 locs1 cells slots QQ (F0 m (pc + 1) lsA (st.map (ms_v X)))) : W p l e R s m args below meth c H locs cells slots QQ (F0 m pc lsA ((Value.ref v :: Value.int i :: Value.ref r :: st).map (ms_v X))) := by
  obtain ⟨v1, v2⟩ := cs_vp h4
  have hr : r < h.length := (List.getElem?_eq_some_iff.mp e2).1
  have he := cs_ws_at (X := X) e2
  have hv := cs_ws_at (X := X) e3
  have h103 : 103 ≤ cc.1 := by omega
  rw [cs_e_q h103] at he
  rw [cs_e_o (by omega)] at hv
  rw [List.map_cons, List.map_cons, List.map_cons, cs_r h3, cs_r h5]
  have fin : ∀ (H1 : Heap) (locs1 : List Loc), va_P X.2.1 ms_cl ((cs_ws X h).set r (X.1 + r, .inl (X.2.2.1 cc.1, cc.2.length, .inr (.inr (.inr (.inr (va_up (cs_vR X cc.2) i.toNatClampNeg (some (X.1 + v))))))))) H1 → va_S (ms_A X) s.heap H1 locs1 → W p l e R s m args below meth c H1 locs1 cells slots QQ (F0 m (pc + 1) lsA (st.map (ms_v X))) := by
    intro H1 locs1 p1 s1
    refine kk H1 locs1 ?_ s1
    have ec : cs_e X (cc.1, cc.2.set i.toNatClampNeg (.ref v)) = .inl (X.2.2.1 cc.1, cc.2.length, .inr (.inr (.inr (.inr (va_up (cs_vR X cc.2) i.toNatClampNeg (some (X.1 + v))))))) := by
      rw [cs_e_q (c := (cc.1, cc.2.set i.toNatClampNeg (.ref v))) h103, cs_vR_set v2]
      show Sum.inl (X.2.2.1 cc.1, (cc.2.set i.toNatClampNeg (.ref v)).length, _) = _
      rw [List.length_set]
    unfold cs_P
    rw [← cs_ws_set hr, ec]
    exact p1
  rcases h1 with ⟨a1, a2⟩ | ⟨a1, a2⟩
  · rw [a1] at he fin
    rw [a2] at hv
    exact va_astq (D := X.2.1) hx hb hK hP cs_D hS r 3 v 4 he (r := ("RowGrader$Row", ms_uT (mt_cls.getD 4 ("", [])), 10)) rfl hv rfl (i := i) v1 hd (fun H1 locs1 p1 _ s1 => fin H1 locs1 p1 s1)
  · rw [a1] at he fin
    rw [a2] at hv
    exact va_astq (D := X.2.1) hx hb hK hP cs_D hS r 4 v 0 he (r := ("RowGrader$Figure", ms_uT (mt_cls.getD 0 ("", [])), 3)) rfl hv rfl (i := i) v1 hd (fun H1 locs1 p1 _ s1 => fin H1 locs1 p1 s1)
theorem cs_copy {X : ms_X} {h : cs_H} {H : Heap} {locs : List Loc} {b : ByteArray} {oo pc k maxL a q : Nat} {lsA : Array Slot} {st : List Value} {cc : Nat × List Value} (hx : p.tables.exec = Jvm.exec) (hb : c.code = b) (hml : c.maxLocals = maxL) (hsz : lsA.size = maxL) (hown : s.vm.findClass (mk_own oo) = some m.cls) (hts : ∀ w ∈ ms_gw, w.before args s = true) (hK : va_K X.2.1 ms_cl (ms_tys X) s) (hP : cs_P X h H) (hS : va_S (ms_A X) s.heap H locs) (hR1 : 1 ≤ R.frames) (hR2 : 40 ≤ R.locals) (hq : mk_look mt_ac oo k = some q) (e2 : h[a]? = some cc) (h1 : cc.1 = 101) (h3 : a < 900) (h4 : cc.2.length = 22) (h5 : st.length ≤ 2) (hd : decode b pc = .ok (.invokestatic k, 3))
    (kk : ∀ (H1 : Heap) (locs1 : List Loc), cs_P X (h.set a (101, cc.2.take 11 ++ cc.2.take 11)) H1 → va_S (ms_A X) s.heap H1 locs1 → W p l e R s m args below meth c H1 locs1 cells slots QQ (F0 m (pc + 3) lsA (st.map (ms_v X)))) : W p l e R s m args below meth c H locs cells slots QQ (F0 m pc lsA ((Value.int 11 :: Value.int 11 :: Value.ref a :: Value.int 0 :: Value.ref a :: st).map (ms_v X))) := by
  have hr : a < h.length := (List.getElem?_eq_some_iff.mp e2).1
  have he := cs_ws_at (X := X) e2
  rw [cs_e_l h1, h1, h4] at he
  obtain ⟨wl, wn, wst, wi⟩ := ms_acw hq
  have hsum := ms_len' X h5
  rw [List.map_cons, List.map_cons, List.map_cons, List.map_cons, List.map_cons, cs_r h3]
  refine va_copyl (D := X.2.1) (ty := .long) hx hb (by rw [hml]; exact hsz.symm) hown (hts _ wl) (hts _ wn) (hts _ wst) (hts _ wi) hK hP cs_D hS a a 1 1 he he rfl rfl rfl (sp := 0) (dp := 11) (n := 11) (by decide) (by decide) (by decide) (by decide) (by decide) (fun _ _ => rfl) hR1 (rest := st.map (ms_v X)) (by rw [show nativeFrameWords "java/lang/System" "arraycopy" 5 = 7 by decide +kernel]; omega) hd (fun H1 locs1 p1 _ s1 => kk H1 locs1 ?_ s1)
  unfold cs_P
  rw [← cs_ws_set hr, cs_e_l rfl]
  have el : (cc.2.take 11 ++ cc.2.take 11).length = 22 := by rw [List.length_append, List.length_take, h4]; decide
  show va_P _ _ ((cs_ws X h).set a (X.1 + a, .inl (X.2.2.1 101, (cc.2.take 11 ++ cc.2.take 11).length, .inr (.inl (cs_vJ (cc.2.take 11 ++ cc.2.take 11)))))) H1
  have ev : cs_vJ (cc.2.take 11 ++ cc.2.take 11) = va_cpy (cs_vJ cc.2) (cs_vJ cc.2) (0 : Int32).toNatClampNeg (11 : Int32).toNatClampNeg (11 : Int32).toNatClampNeg := by
    funext j
    rw [show (0 : Int32).toNatClampNeg = 0 by decide, show (11 : Int32).toNatClampNeg = 11 by decide]
    unfold va_cpy cs_vJ
    have l11 : (cc.2.take 11).length = 11 := by rw [List.length_take, h4]; decide
    by_cases j1 : j < 11
    · rw [if_neg (by omega), List.getElem?_append_left (by omega), List.getElem?_take, if_pos j1]
    · rw [List.getElem?_append_right (by omega), l11, List.getElem?_take]
      by_cases j2 : j < 22
      · rw [if_pos (by omega), if_pos (by omega), Nat.zero_add]
      · rw [if_neg (by omega), if_neg (by omega), List.getElem?_eq_none (by omega)]
  rw [el, ev]
  exact p1
end CSA
