/-! every step of the constructors is the machine's -/
section CSI
variable {p : Program} {l : Launch} {e : Env} {R : Room} {s : State} {m : MethodId} {args : Array Value} {below : List Frame} {meth : Method} {c : Code} {cells slots : Nat} {QQ : State → Prop}
def cs_six (n : Nat) : cs_H := [(105, [.ref (n + 1), .ref (n + 2), .ref (n + 3), .ref (n + 4), .ref (n + 5)]), (100, List.replicate 910 (.int 0)), (100, List.replicate 910 (.int 0)), (100, List.replicate 910 (.int 0)), (100, List.replicate 910 (.int 0)), (100, List.replicate 910 (.int 0))]
theorem cs_n_six {h : cs_H} {n : Nat} : cs_n (h ++ cs_six n) = cs_n h + 4555 := by
  unfold cs_n cs_six
  rw [List.map_append, List.sum_append]
  simp only [List.map_cons, List.map_nil, List.sum_cons, List.sum_nil, List.length_cons, List.length_nil, List.length_replicate]
  omega
theorem arrV_c {cI : ClassId} {N : Nat} {f g : Nat → Value} (h : ∀ j, j < N → f j = g j) : arrV cI N f = arrV cI N g := by
  unfold arrV
  congr 1
  congr 1
  funext j
  exact h j.val j.isLt
theorem cs_mul {X : ms_X} {h : cs_H} {H : Heap} {locs : List Loc} {b : ByteArray} {pc : Nat} {lsA : Array Slot} {r : List Value} (hx : p.tables.exec = Jvm.exec) (hb : c.code = b) (hown : s.vm.findClass (mk_own 2) = some m.cls) (hts : ∀ w ∈ ms_gw, w.before args s = true) (hE : cs_E X s) (hP : cs_P X h H) (hS : va_S (ms_A X) s.heap H locs) (hc : s.heap.size + cells = X.1 + h.length) (h8 : h.length < 800) (hcells : cells + 6 ≤ R.cells) (hslots : slots + 4555 ≤ R.slots) (hd : decode b pc = .ok (.multianewarray 17 2, 4))
    (kk : ∀ (H1 : Heap) (L : List Loc), cs_P X (h ++ cs_six h.length) H1 → va_S (ms_A X) s.heap H1 L → W p l e R s m args below meth c H1 L (cells + 6) (slots + 4555) QQ (F0 m (pc + 4) lsA ((Value.ref h.length :: r).map (ms_v X)))) : W p l e R s m args below meth c H locs cells slots QQ (F0 m pc lsA ((Value.int 910 :: Value.int 5 :: r).map (ms_v X))) := by
  obtain ⟨hK, hV, _, hB⟩ := hE
  refine cs_size hP hS hB hc (fun hsz => ?_)
  have wo := cs_oiw_ok
  simp only [Bool.and_eq_true] at wo
  obtain ⟨⟨⟨⟨_, o4⟩, _⟩, _⟩, _⟩ := wo
  have hnm : s.vm.findClass "[[I" = some (X.2.2.1 105) := by
    have := (cs_tyI hK).2.2.2
    rw [show "[" ++ (FieldType.array .int).toString = "[[I" by decide +kernel] at this
    exact this
  obtain ⟨kA, a1, a2⟩ := hV.2.2.1
  obtain ⟨_, kI, i1, c0, i2⟩ := (hK.2 0 _ rfl).1 0 (fun _ => .null)
  rw [List.map_cons, List.map_cons]
  rw [List.map_cons, cs_r (show h.length < 900 by omega)] at kk
  refine mu_W hx hb hown (hts _ (mk_w_in o4)) hnm a1 a2 i1 i2 hcells hslots hd (fun H1 L hL z1 e1 e2 e3 => ?_)
  have hk : ∀ (k : Nat) (x : Nat × va_E), (cs_ws X h)[k]? = some x → H1[x.1]? = H[x.1]? := fun k x hx => e3 x.1 (hP k x hx).lt
  have one : ∀ (q : Nat × va_E), va_at X.2.1 ms_cl q H1 → va_P X.2.1 ms_cl [q] H1 := by
    intro q hq i x hx
    have hz : i < 1 := (List.getElem?_eq_some_iff.mp hx).1
    rw [show i = 0 by omega] at hx
    cases hx
    exact hq
  have inn : ∀ j, j < 5 → va_at X.2.1 ms_cl (X.1 + (h.length + 1 + j), cs_e X (100, List.replicate 910 (.int 0))) H1 := by
    intro j hj
    rw [cs_e_i (Or.inl rfl)]
    show H1[X.1 + (h.length + 1 + j)]? = some (vp_cell _ _)
    rw [cs_vI_rep, List.length_replicate, show X.1 + (h.length + 1 + j) = H.size + 1 + j by omega]
    exact e2 j hj
  have out : va_at X.2.1 ms_cl (X.1 + h.length, cs_e X (105, [.ref (h.length + 1), .ref (h.length + 2), .ref (h.length + 3), .ref (h.length + 4), .ref (h.length + 5)])) H1 := by
    rw [cs_e_q (by show 103 ≤ 105; omega)]
    show H1[X.1 + h.length]? = some (vp_cell _ _)
    rw [← hsz, e1, vp_cell_q]
    refine congrArg some (arrV_c (fun j hj => ?_))
    rw [hsz]
    have : j = 0 ∨ j = 1 ∨ j = 2 ∨ j = 3 ∨ j = 4 := by omega
    rcases this with rfl | rfl | rfl | rfl | rfl <;> rfl
  have hP1 : cs_P X (h ++ cs_six h.length) H1 := by
    have es : h ++ cs_six h.length = (((((h ++ [(105, [.ref (h.length + 1), .ref (h.length + 2), .ref (h.length + 3), .ref (h.length + 4), .ref (h.length + 5)])]) ++ [(100, List.replicate 910 (.int 0))]) ++ [(100, List.replicate 910 (.int 0))]) ++ [(100, List.replicate 910 (.int 0))]) ++ [(100, List.replicate 910 (.int 0))]) ++ [(100, List.replicate 910 (.int 0))] := by
      unfold cs_six
      simp only [List.append_assoc, List.cons_append, List.nil_append]
    unfold cs_P
    rw [es, cs_ws_app, cs_ws_app, cs_ws_app, cs_ws_app, cs_ws_app, cs_ws_app]
    simp only [List.length_append, List.length_cons, List.length_nil, Nat.zero_add]
    exact ((((((va_P.kept hP hk).app (one _ out)).app (one _ (inn 0 (by omega)))).app (one _ (inn 1 (by omega)))).app (one _ (inn 2 (by omega)))).app (one _ (inn 3 (by omega)))).app (one _ (inn 4 (by omega)))
  have := kk H1 (locs ++ L) hP1 ⟨Nat.le_trans hS.1 (by omega), fun x h1 h2 => (e3 x (by have := hS.1; omega)).trans (hS.2.1 x h1 h2), fun q hq => by
    rcases List.mem_append.mp hq with w | w
    · exact hS.2.2 q w
    · show X.1 ≤ q.base
      rw [hL q w, hsz]
      omega⟩
  rw [hsz]
  exact this
theorem cs_lt46 {i : Int32} (h : cs_in_ i 46 = true) : ¬ i < 0 ∧ i < 46 ∧ i.toNatClampNeg < 46 := by
  unfold cs_in_ at h
  simp only [Bool.and_eq_true, Bool.not_eq_true', decide_eq_false_iff_not, decide_eq_true_eq] at h
  refine ⟨h.1, ?_, h.2⟩
  have h2 : i.toInt.toNat < 46 := h.2
  rw [i32lt, show (46 : Int32).toInt = 46 by decide]
  omega
set_option maxHeartbeats 16000000 in
set_option maxRecDepth 10000 in
theorem cs_ss {X : ms_X} {b : ByteArray} {oo maxL pc len : Nat} {i : Instr} {ls ls' : mm_L} {st st' : List Value} {h h' : cs_H} {lsA : Array Slot} {H : Heap} {locs : List Loc} (hx : p.tables.exec = Jvm.exec) (hb : c.code = b) (hml : c.maxLocals = maxL) (hown : s.vm.findClass (mk_own oo) = some m.cls) (hin : meth.name = "<init>" ∨ oo = 13) (hts : ∀ w ∈ ms_gw, w.before args s = true) (hE : cs_E X s) (hR1 : 5 ≤ R.frames) (hR2 : 200 ≤ R.locals) (hd : decode b pc = .ok (i, len)) (hlen : len = cs_ln i) (hst : cs_st oo maxL i ls st h = some (ls', st', h')) (hc : s.heap.size + cells = X.1 + h.length) (hro : cells + (h'.length - h.length) ≤ R.cells ∧ slots + (cs_n h' - cs_n h) ≤ R.slots) (hl : ms_lv X lsA maxL ls) (hP : cs_P X h H) (hS : va_S (ms_A X) s.heap H locs)
    (kk : ∀ (lsA' : Array Slot) (H' : Heap) (locs' : List Loc), ms_lv X lsA' maxL ls' → cs_P X h' H' → va_S (ms_A X) s.heap H' locs' → W p l e R s m args below meth c H' locs' (cells + (h'.length - h.length)) (slots + (cs_n h' - cs_n h)) QQ (F0 m (pc + len) lsA' (st'.map (ms_v X)))) : W p l e R s m args below meth c H locs cells slots QQ (F0 m pc lsA (st.map (ms_v X))) := by
  have hK := hE.1
  have hB := hE.2.2.2
  cases i
  case iconst v =>
    have hlen : len = 1 := hlen
    subst hlen
    obtain ⟨rfl, rfl, rfl⟩ := cs_inj hst
    simp only [Nat.sub_self, Nat.add_zero] at kk
    exact lv_iconst (v := Int32.ofInt v) hx hb hd rfl (kk lsA H locs hl hP hS)
  case bipush v =>
    have hlen : len = 2 := hlen
    subst hlen
    simp only [cs_st] at hst
    split at hst
    · rename_i hv
      obtain ⟨rfl, rfl, rfl⟩ := cs_inj hst
      simp only [Nat.sub_self, Nat.add_zero] at kk
      exact lv_bipush (v := Int32.ofInt v) hx hb hd hv (kk lsA H locs hl hP hS)
    · cases hst
  case sipush v =>
    have hlen : len = 3 := hlen
    subst hlen
    simp only [cs_st] at hst
    split at hst
    · rename_i hv
      obtain ⟨rfl, rfl, rfl⟩ := cs_inj hst
      simp only [Nat.sub_self, Nat.add_zero] at kk
      exact lv_sipush (v := Int32.ofInt v) hx hb hd hv (kk lsA H locs hl hP hS)
    · cases hst
  case ldc k =>
    have hlen : len = 2 := hlen
    subst hlen
    simp only [cs_st] at hst
    cases hq : mk_look mt_ci oo k with
    | some q =>
      rw [hq] at hst
      obtain ⟨rfl, rfl, rfl⟩ := cs_inj hst
      simp only [Nat.sub_self, Nat.add_zero] at kk
      exact lv_ldc (v := Int32.ofInt q.1) hx hb hown (hts _ (mk_w_in (List.all_eq_true.mp mk_ciw_ok _ (mk_look_in hq)))) hd (kk lsA H locs hl hP hS)
    | none =>
      rw [hq] at hst
      dsimp only at hst
      split at hst
      · rename_i hv
        obtain ⟨rfl, rfl⟩ := hv
        obtain ⟨rfl, rfl, rfl⟩ := cs_inj hst
        simp only [Nat.sub_self, Nat.add_zero] at kk
        exact va_ldcS hx hb hown hE.2.1.2.2.2.2 hd (kk lsA H locs hl hP hS)
      · cases hst
  case ldc2_w k =>
    have hlen : len = 3 := hlen
    subst hlen
    simp only [cs_st] at hst
    cases hq : mk_look mt_cl oo k with
    | some q =>
      rw [hq] at hst
      obtain ⟨rfl, rfl, rfl⟩ := cs_inj hst
      simp only [Nat.sub_self, Nat.add_zero] at kk
      exact lv_ldc2 (v := Int64.ofInt q.1) hx hb hown (hts _ (mk_w_in (List.all_eq_true.mp mk_clw_ok _ (mk_look_in hq)))) hd (kk lsA H locs hl hP hS)
    | none =>
      rw [hq] at hst
      cases hst
  case iload_n k =>
    have hlen : len = 1 := hlen
    subst hlen
    simp only [cs_st] at hst
    split at hst
    · rename_i x e1
      obtain ⟨rfl, rfl, rfl⟩ := cs_inj hst
      simp only [Nat.sub_self, Nat.add_zero] at kk
      exact lv_iload_n hx hb hd rfl (ms_lv_at hl e1) (kk lsA H locs hl hP hS)
    · cases hst
  case aload_n k =>
    have hlen : len = 1 := hlen
    subst hlen
    simp only [cs_st] at hst
    split at hst
    · rename_i x e1
      obtain ⟨rfl, rfl, rfl⟩ := cs_inj hst
      simp only [Nat.sub_self, Nat.add_zero] at kk
      exact lv_aload_n hx hb hd rfl (ms_lv_at hl e1) (kk lsA H locs hl hP hS)
    · cases hst
  case istore_n k =>
    have hlen : len = 1 := hlen
    subst hlen
    simp only [cs_st] at hst
    split at hst
    · rename_i x r
      split at hst
      · rename_i hk
        obtain ⟨rfl, rfl, rfl⟩ := cs_inj hst
        simp only [Nat.sub_self, Nat.add_zero] at kk
        exact lv_istore_n hx hb hd rfl hl hk rfl (fun ls2 h3 => kk ls2 H locs (ms_lv_s1 (x := .int x) h3) hP hS)
      · cases hst
    · cases hst
  case astore_n k =>
    have hlen : len = 1 := hlen
    subst hlen
    simp only [cs_st] at hst
    split at hst
    · rename_i x r
      split at hst
      · rename_i hk
        obtain ⟨rfl, rfl, rfl⟩ := cs_inj hst
        simp only [Nat.sub_self, Nat.add_zero] at kk
        exact lv_astore_n hx hb hd rfl hl hk rfl (fun ls2 h3 => kk ls2 H locs (ms_lv_s1 (x := .ref x) h3) hP hS)
      · cases hst
    · cases hst
  case iinc k n =>
    have hlen : len = 3 := hlen
    subst hlen
    simp only [cs_st] at hst
    split at hst
    · rename_i x e1
      split at hst
      · rename_i hk
        obtain ⟨rfl, rfl, rfl⟩ := cs_inj hst
        simp only [Nat.sub_self, Nat.add_zero] at kk
        obtain ⟨w, hw⟩ := List.getElem?_of_mem (ms_ll_mem (X := X) (i := 0).mpr ⟨k, .int x, by rw [Nat.zero_add]; rfl, e1⟩ : (k, Value.int x) ∈ ms_ll X 0 ls)
        exact lv_iinc hx hb hd hl hw rfl hk rfl (fun ls2 h3 => kk ls2 H locs (ms_lv_s1 (x := .int (x + Int32.ofInt n)) h3) hP hS)
      · cases hst
    · cases hst
  case dup =>
    have hlen : len = 1 := hlen
    subst hlen
    simp only [cs_st] at hst
    split at hst
    · rename_i x r
      obtain ⟨rfl, rfl, rfl⟩ := cs_inj hst
      simp only [Nat.sub_self, Nat.add_zero] at kk
      exact lv_dup hx hb hd rfl (kk lsA H locs hl hP hS)
    · cases hst
  case i2l =>
    have hlen : len = 1 := hlen
    subst hlen
    simp only [cs_st] at hst
    split at hst
    · rename_i x r
      obtain ⟨rfl, rfl, rfl⟩ := cs_inj hst
      simp only [Nat.sub_self, Nat.add_zero] at kk
      exact lv_i2l hx hb hd rfl (kk lsA H locs hl hP hS)
    · cases hst
  case iadd =>
    have hlen : len = 1 := hlen
    subst hlen
    simp only [cs_st] at hst
    split at hst
    · rename_i x y r
      obtain ⟨rfl, rfl, rfl⟩ := cs_inj hst
      simp only [Nat.sub_self, Nat.add_zero] at kk
      exact lv_iadd hx hb hd (kk lsA H locs hl hP hS)
    · cases hst
  case lshl =>
    have hlen : len = 1 := hlen
    subst hlen
    simp only [cs_st] at hst
    split at hst
    · rename_i x y r
      obtain ⟨rfl, rfl, rfl⟩ := cs_inj hst
      simp only [Nat.sub_self, Nat.add_zero] at kk
      exact lv_lshl hx hb hd rfl (kk lsA H locs hl hP hS)
    · cases hst
  case lor =>
    have hlen : len = 1 := hlen
    subst hlen
    simp only [cs_st] at hst
    split at hst
    · rename_i x y r
      obtain ⟨rfl, rfl, rfl⟩ := cs_inj hst
      simp only [Nat.sub_self, Nat.add_zero] at kk
      exact lv_lor hx hb hd (kk lsA H locs hl hP hS)
    · cases hst
  case getfield k =>
    have hlen : len = 3 := hlen
    subst hlen
    simp only [cs_st] at hst
    split at hst
    · rename_i q r rest hq
      split at hst
      · rename_i cc e2
        split at hst
        · rename_i v e3
          split at hst
          · rename_i hv
            obtain ⟨rfl, rfl, rfl⟩ := cs_inj hst
            simp only [Nat.sub_self, Nat.add_zero] at kk
            exact cs_get hx hb hown hts hK hP hq e2 e3 hv.1 hv.2.1 hv.2.2 hd (kk lsA H locs hl hP hS)
          · cases hst
        · cases hst
      · cases hst
    · cases hst
  case putfield k =>
    have hlen : len = 3 := hlen
    subst hlen
    simp only [cs_st] at hst
    split at hst
    · rename_i q v r rest hq
      split at hst
      · rename_i cc e2
        split at hst
        · rename_i hv
          obtain ⟨rfl, rfl, rfl⟩ := cs_inj hst
          rw [cs_n_set e2 (List.length_set ..), List.length_set, Nat.sub_self, Nat.sub_self, Nat.add_zero, Nat.add_zero] at kk
          exact cs_put hx hb hown hin hts hK hP hS hq e2 hv.1 hv.2.1 hv.2.2.1 hv.2.2.2 hd (fun H1 locs1 p1 s1 => kk lsA H1 locs1 hl p1 s1)
        · cases hst
      · cases hst
    · cases hst
  case iastore =>
    have hlen : len = 1 := hlen
    subst hlen
    simp only [cs_st] at hst
    split at hst
    · rename_i x i r rest
      split at hst
      · rename_i cc e2
        split at hst
        · rename_i hv
          obtain ⟨rfl, rfl, rfl⟩ := cs_inj hst
          rw [cs_n_set e2 (List.length_set ..), List.length_set, Nat.sub_self, Nat.sub_self, Nat.add_zero, Nat.add_zero] at kk
          exact cs_iast hx hb hK hP hS e2 hv.1 hv.2.1 hv.2.2 hd (fun H1 locs1 p1 s1 => kk lsA H1 locs1 hl p1 s1)
        · cases hst
      · cases hst
    · cases hst
  case lastore =>
    have hlen : len = 1 := hlen
    subst hlen
    simp only [cs_st] at hst
    split at hst
    · rename_i x i r rest
      split at hst
      · rename_i cc e2
        split at hst
        · rename_i hv
          obtain ⟨rfl, rfl, rfl⟩ := cs_inj hst
          rw [cs_n_set e2 (List.length_set ..), List.length_set, Nat.sub_self, Nat.sub_self, Nat.add_zero, Nat.add_zero] at kk
          exact cs_last hx hb hK hP hS e2 hv.1 hv.2.1 hv.2.2 hd (fun H1 locs1 p1 s1 => kk lsA H1 locs1 hl p1 s1)
        · cases hst
      · cases hst
    · cases hst
  case laload =>
    have hlen : len = 1 := hlen
    subst hlen
    simp only [cs_st] at hst
    split at hst
    · rename_i i r rest
      split at hst
      · rename_i cc e2
        split at hst
        · rename_i x e3
          split at hst
          · rename_i hv
            obtain ⟨rfl, rfl, rfl⟩ := cs_inj hst
            simp only [Nat.sub_self, Nat.add_zero] at kk
            exact cs_lald hx hb hK hP e2 e3 hv.1 hv.2.1 hv.2.2 hd (kk lsA H locs hl hP hS)
          · cases hst
        · cases hst
      · cases hst
    · cases hst
  case aastore =>
    have hlen : len = 1 := hlen
    subst hlen
    simp only [cs_st] at hst
    split at hst
    · rename_i v i r rest
      split at hst
      · rename_i cc c2 e2 e3
        split at hst
        · rename_i hv
          obtain ⟨rfl, rfl, rfl⟩ := cs_inj hst
          rw [cs_n_set e2 (List.length_set ..), List.length_set, Nat.sub_self, Nat.sub_self, Nat.add_zero, Nat.add_zero] at kk
          exact cs_aast hx hb hK hP hS e2 e3 hv.1 hv.2.1 hv.2.2.1 hv.2.2.2 hd (fun H1 locs1 p1 s1 => kk lsA H1 locs1 hl p1 s1)
        · cases hst
      · cases hst
    · cases hst
  case new k =>
    have hlen : len = 3 := hlen
    subst hlen
    simp only [cs_st] at hst
    split at hst
    · rename_i q hq
      split at hst
      · rename_i h9
        obtain ⟨rfl, rfl, rfl⟩ := cs_inj hst
        have z1 : (h ++ [(q.1, cs_dv q.1)]).length - h.length = 1 := by rw [List.length_append]; simp
        have z2 : cs_n (h ++ [(q.1, cs_dv q.1)]) - cs_n h = (cs_dv q.1).length := by rw [cs_n_app]; simp
        rw [z1, z2] at hro kk
        exact cs_new hx hb hown hts hK hP hS hB hc hq h9 hro.1 hro.2 hd (fun H1 p1 s1 => kk lsA H1 locs hl p1 s1)
      · cases hst
    · cases hst
  case newarray a =>
    have hlen : len = 2 := hlen
    subst hlen
    simp only [cs_st] at hst
    split at hst
    · rename_i n r
      split at hst
      · rename_i hv
        have fin : ∀ (kd : Nat) (dv : Value), (a = .int ∧ kd = 100 ∧ dv = .int 0 ∨ a = .long ∧ kd = 101 ∧ dv = .long 0 ∨ a = .boolean ∧ kd = 102 ∧ dv = .int 0) → some (ls, Value.ref h.length :: r, h ++ [(kd, List.replicate n.toNatClampNeg dv)]) = some (ls', st', h') → W p l e R s m args below meth c H locs cells slots QQ (F0 m pc lsA ((Value.int n :: r).map (ms_v X))) := by
          intro kd dv hk hs
          obtain ⟨rfl, rfl, rfl⟩ := cs_inj hs
          have z1 : (h ++ [(kd, List.replicate n.toNatClampNeg dv)]).length - h.length = 1 := by rw [List.length_append]; simp
          have z2 : cs_n (h ++ [(kd, List.replicate n.toNatClampNeg dv)]) - cs_n h = n.toNatClampNeg := by rw [cs_n_app]; simp
          rw [z1, z2] at hro kk
          exact cs_newa hx hb hts hK hP hS hB hc hk hv.2.1 hv.1 hv.2.2 hro.1 hro.2 hd (fun H1 p1 s1 => kk lsA H1 locs hl p1 s1)
        cases a
        case int => exact fin 100 (.int 0) (Or.inl ⟨rfl, rfl, rfl⟩) hst
        case long => exact fin 101 (.long 0) (Or.inr (Or.inl ⟨rfl, rfl, rfl⟩)) hst
        case boolean => exact fin 102 (.int 0) (Or.inr (Or.inr ⟨rfl, rfl, rfl⟩)) hst
        all_goals cases hst
      · cases hst
    · cases hst
  case anewarray k =>
    have hlen : len = 3 := hlen
    subst hlen
    simp only [cs_st] at hst
    split at hst
    · rename_i q n r hq
      split at hst
      · rename_i hv
        obtain ⟨rfl, rfl, rfl⟩ := cs_inj hst
        have z1 : (h ++ [(q.1, List.replicate n.toNatClampNeg Value.null)]).length - h.length = 1 := by rw [List.length_append]; simp
        have z2 : cs_n (h ++ [(q.1, List.replicate n.toNatClampNeg Value.null)]) - cs_n h = n.toNatClampNeg := by rw [cs_n_app]; simp
        rw [z1, z2] at hro kk
        exact cs_anew hx hb hown hts hE hP hS hc hq hv.2.1 hv.1 hv.2.2 hro.1 hro.2 hd (fun H1 p1 s1 => kk lsA H1 locs hl p1 s1)
      · cases hst
    · cases hst
  case invokespecial k =>
    have hlen : len = 3 := hlen
    subst hlen
    simp only [cs_st] at hst
    split at hst
    · rename_i q a r hq
      split at hst
      · rename_i hv
        obtain ⟨rfl, rfl, rfl⟩ := cs_inj hst
        simp only [Nat.sub_self, Nat.add_zero] at kk
        have wo := cs_oiw_ok
        simp only [Bool.and_eq_true] at wo
        obtain ⟨⟨⟨⟨⟨⟨o1, o2⟩, o3⟩, _⟩, _⟩, _⟩, _⟩ := wo
        have o1 := List.all_eq_true.mp o1 _ (mk_look_in hq)
        have hsum := ms_len' X hv
        rw [List.map_cons]
        exact W.objInit hx hb hown (hts _ (mk_w_in o1)) (hts _ (mk_w_in o2)) (hts _ (mk_w_in o3)) rfl (by rw [hml]; exact hl.1) rfl hd (by omega) (by show 2 * 0 + _ + 12 ≤ _; omega) (kk lsA H locs hl hP hS)
      · cases hst
    · cases hst
  case invokevirtual k =>
    have hlen : len = 3 := hlen
    subst hlen
    obtain ⟨vv, fm, hT⟩ := hE.2.2.1
    have hT : sj_T X vv fm s := hT
    simp only [cs_st] at hst
    split at hst
    · rename_i r
      split at hst
      · rename_i hv
        obtain ⟨rfl, rfl, hv⟩ := hv
        obtain ⟨rfl, rfl, rfl⟩ := cs_inj hst
        simp only [Nat.sub_self, Nat.add_zero] at kk hro
        have hsum := ms_len' X hv
        exact sj_V (As := []) (rest := r.map (ms_v X)) (own := mk_own 8) hx hb hml hl.1 hown hts hT hS hro (sj_len l X vv fm) rfl rfl rfl ⟨by show 2 + 1 ≤ _; omega, by show 8 + (1 + 11) + 40 * 2 ≤ _; omega⟩ (mk_w_in (i := 276) (by decide +kernel)) (mk_w_in (i := 273) (by decide +kernel)) (mk_w_in (i := 274) (by decide +kernel)) (mk_w_in (i := 275) (by decide +kernel)) (mk_w_in (i := 100) (by decide +kernel)) (by decide +kernel) (by omega) hd (fun locs1 s1 => kk lsA H locs1 hl hP s1)
      · cases hst
    · rename_i i r
      split at hst
      · rename_i hv
        obtain ⟨rfl, rfl, hv, hi⟩ := hv
        obtain ⟨rfl, rfl, rfl⟩ := cs_inj hst
        simp only [Nat.sub_self, Nat.add_zero] at kk hro
        have hsum := ms_len' X hv
        obtain ⟨i0, i1, i2⟩ := cs_lt46 hi
        exact sj_V (As := [.int i]) (rest := r.map (ms_v X)) (own := mk_own 8) hx hb hml hl.1 hown hts hT hS hro (sj_cha l X vv fm i i0 i1 i2) rfl rfl rfl ⟨by show 4 + 1 ≤ _; omega, by show 8 + (2 + 11) + 40 * 4 ≤ _; omega⟩ (mk_w_in (i := 286) (by decide +kernel)) (mk_w_in (i := 283) (by decide +kernel)) (mk_w_in (i := 284) (by decide +kernel)) (mk_w_in (i := 285) (by decide +kernel)) (mk_w_in (i := 100) (by decide +kernel)) (by show _ = some 1; decide +kernel) (by omega) hd (fun locs1 s1 => kk lsA H locs1 hl hP s1)
      · cases hst
    · cases hst
  case invokestatic k =>
    have hlen : len = 3 := hlen
    subst hlen
    simp only [cs_st] at hst
    split at hst
    · rename_i q a b0 r hq
      split at hst
      · rename_i cc e2
        split at hst
        · rename_i hv
          obtain ⟨v1, rfl, v3, v4, v5⟩ := hv
          obtain ⟨rfl, rfl, rfl⟩ := cs_inj hst
          rw [cs_n_set e2 (by show (cc.2.take 11 ++ cc.2.take 11).length = _; rw [List.length_append, List.length_take, v4]; decide), List.length_set, Nat.sub_self, Nat.sub_self, Nat.add_zero, Nat.add_zero] at kk
          exact cs_copy hx hb hml hl.1 hown hts hK hP hS (by omega) (by omega) hq e2 v1 v3 v4 v5 hd (fun H1 locs1 p1 s1 => kk lsA H1 locs1 hl p1 s1)
        · cases hst
      · cases hst
    · cases hst
  case multianewarray k d =>
    have hlen : len = 4 := hlen
    subst hlen
    have d2 : d = 2 := by
      cases d with
      | zero => cases hst
      | succ d =>
        cases d with
        | zero => cases hst
        | succ d =>
          cases d with
          | zero => rfl
          | succ d => cases hst
    subst d2
    simp only [cs_st] at hst
    split at hst
    · rename_i n x r
      split at hst
      · rename_i hv
        obtain ⟨rfl, rfl, rfl, rfl, h8⟩ := hv
        obtain ⟨rfl, rfl, rfl⟩ := cs_inj hst
        have z1 : (h ++ cs_six h.length).length - h.length = 6 := by rw [List.length_append]; show h.length + 6 - h.length = 6; omega
        have z2 : cs_n (h ++ cs_six h.length) - cs_n h = 4555 := by rw [cs_n_six]; omega
        have hro : cells + ((h ++ cs_six h.length).length - h.length) ≤ R.cells ∧ slots + (cs_n (h ++ cs_six h.length) - cs_n h) ≤ R.slots := hro
        have kk : ∀ (lsA' : Array Slot) (H' : Heap) (locs' : List Loc), ms_lv X lsA' maxL ls → cs_P X (h ++ cs_six h.length) H' → va_S (ms_A X) s.heap H' locs' → W p l e R s m args below meth c H' locs' (cells + ((h ++ cs_six h.length).length - h.length)) (slots + (cs_n (h ++ cs_six h.length) - cs_n h)) QQ (F0 m (pc + 4) lsA' ((Value.ref h.length :: r).map (ms_v X))) := kk
        rw [z1, z2] at hro kk
        exact cs_mul hx hb hown hts hE hP hS hc h8 hro.1 hro.2 hd (fun H1 L p1 s1 => kk lsA H1 L hl p1 s1)
      · cases hst
    · cases hst
  all_goals cases hst
end CSI
