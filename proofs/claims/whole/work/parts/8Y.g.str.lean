/-! the JDK on the one String -/
theorem dj_coder_0 : decode prog_15_method_152_code 0 = .ok (.getstatic 38, 3) := by decide +kernel
theorem dj_coder_3 : decode prog_15_method_152_code 3 = .ok (.ifCond .eq 10, 3) := by decide +kernel
theorem dj_coder_6 : decode prog_15_method_152_code 6 = .ok (.aload_n 0, 1) := by decide +kernel
theorem dj_coder_7 : decode prog_15_method_152_code 7 = .ok (.getfield 15, 3) := by decide +kernel
theorem dj_coder_10 : decode prog_15_method_152_code 10 = .ok (.goto 4, 3) := by decide +kernel
theorem dj_coder_13 : decode prog_15_method_152_code 13 = .ok (.iconst 1, 1) := by decide +kernel
theorem dj_coder_14 : decode prog_15_method_152_code 14 = .ok (.ireturn, 1) := by decide +kernel
theorem dj_isl_0 : decode prog_15_method_154_code 0 = .ok (.getstatic 38, 3) := by decide +kernel
theorem dj_isl_3 : decode prog_15_method_154_code 3 = .ok (.ifCond .eq 14, 3) := by decide +kernel
theorem dj_isl_6 : decode prog_15_method_154_code 6 = .ok (.aload_n 0, 1) := by decide +kernel
theorem dj_isl_7 : decode prog_15_method_154_code 7 = .ok (.getfield 15, 3) := by decide +kernel
theorem dj_isl_10 : decode prog_15_method_154_code 10 = .ok (.ifCond .ne 7, 3) := by decide +kernel
theorem dj_isl_13 : decode prog_15_method_154_code 13 = .ok (.iconst 1, 1) := by decide +kernel
theorem dj_isl_14 : decode prog_15_method_154_code 14 = .ok (.goto 4, 3) := by decide +kernel
theorem dj_isl_17 : decode prog_15_method_154_code 17 = .ok (.iconst 0, 1) := by decide +kernel
theorem dj_isl_18 : decode prog_15_method_154_code 18 = .ok (.ireturn, 1) := by decide +kernel
theorem dj_len_0 : decode prog_15_method_54_code 0 = .ok (.aload_n 0, 1) := by decide +kernel
theorem dj_len_1 : decode prog_15_method_54_code 1 = .ok (.getfield 9, 3) := by decide +kernel
theorem dj_len_4 : decode prog_15_method_54_code 4 = .ok (.arraylength, 1) := by decide +kernel
theorem dj_len_5 : decode prog_15_method_54_code 5 = .ok (.aload_n 0, 1) := by decide +kernel
theorem dj_len_6 : decode prog_15_method_54_code 6 = .ok (.invokevirtual 335, 3) := by decide +kernel
theorem dj_len_9 : decode prog_15_method_54_code 9 = .ok (.ishr, 1) := by decide +kernel
theorem dj_len_10 : decode prog_15_method_54_code 10 = .ok (.ireturn, 1) := by decide +kernel
theorem dj_pci_0 : decode prog_19_method_11_code 0 = .ok (.iload_n 0, 1) := by decide +kernel
theorem dj_pci_1 : decode prog_19_method_11_code 1 = .ok (.ifCond .lt 8, 3) := by decide +kernel
theorem dj_pci_4 : decode prog_19_method_11_code 4 = .ok (.iload_n 0, 1) := by decide +kernel
theorem dj_pci_5 : decode prog_19_method_11_code 5 = .ok (.iload_n 1, 1) := by decide +kernel
theorem dj_pci_6 : decode prog_19_method_11_code 6 = .ok (.if_icmp .lt 10, 3) := by decide +kernel
theorem dj_pci_9 : decode prog_19_method_11_code 9 = .ok (.aload_n 2, 1) := by decide +kernel
theorem dj_pci_10 : decode prog_19_method_11_code 10 = .ok (.iload_n 0, 1) := by decide +kernel
theorem dj_pci_11 : decode prog_19_method_11_code 11 = .ok (.iload_n 1, 1) := by decide +kernel
theorem dj_pci_12 : decode prog_19_method_11_code 12 = .ok (.invokestatic 95, 3) := by decide +kernel
theorem dj_pci_16 : decode prog_19_method_11_code 16 = .ok (.iload_n 0, 1) := by decide +kernel
theorem dj_pci_17 : decode prog_19_method_11_code 17 = .ok (.ireturn, 1) := by decide +kernel
theorem dj_sci_0 : decode prog_15_method_155_code 0 = .ok (.iload_n 0, 1) := by decide +kernel
theorem dj_sci_1 : decode prog_15_method_155_code 1 = .ok (.iload_n 1, 1) := by decide +kernel
theorem dj_sci_2 : decode prog_15_method_155_code 2 = .ok (.getstatic 1053, 3) := by decide +kernel
theorem dj_sci_5 : decode prog_15_method_155_code 5 = .ok (.invokestatic 1059, 3) := by decide +kernel
theorem dj_sci_8 : decode prog_15_method_155_code 8 = .ok (.pop, 1) := by decide +kernel
theorem dj_sci_9 : decode prog_15_method_155_code 9 = .ok (.return_, 1) := by decide +kernel
theorem dj_lch_0 : decode prog_16_method_2_code 0 = .ok (.iload_n 1, 1) := by decide +kernel
theorem dj_lch_1 : decode prog_16_method_2_code 1 = .ok (.aload_n 0, 1) := by decide +kernel
theorem dj_lch_2 : decode prog_16_method_2_code 2 = .ok (.arraylength, 1) := by decide +kernel
theorem dj_lch_3 : decode prog_16_method_2_code 3 = .ok (.invokestatic 9, 3) := by decide +kernel
theorem dj_lch_6 : decode prog_16_method_2_code 6 = .ok (.aload_n 0, 1) := by decide +kernel
theorem dj_lch_7 : decode prog_16_method_2_code 7 = .ok (.iload_n 1, 1) := by decide +kernel
theorem dj_lch_8 : decode prog_16_method_2_code 8 = .ok (.baload, 1) := by decide +kernel
theorem dj_lch_9 : decode prog_16_method_2_code 9 = .ok (.sipush 255, 3) := by decide +kernel
theorem dj_lch_12 : decode prog_16_method_2_code 12 = .ok (.iand, 1) := by decide +kernel
theorem dj_lch_13 : decode prog_16_method_2_code 13 = .ok (.i2c, 1) := by decide +kernel
theorem dj_lch_14 : decode prog_16_method_2_code 14 = .ok (.ireturn, 1) := by decide +kernel
theorem dj_cha_0 : decode prog_15_method_56_code 0 = .ok (.aload_n 0, 1) := by decide +kernel
theorem dj_cha_1 : decode prog_15_method_56_code 1 = .ok (.invokevirtual 492, 3) := by decide +kernel
theorem dj_cha_4 : decode prog_15_method_56_code 4 = .ok (.ifCond .eq 12, 3) := by decide +kernel
theorem dj_cha_7 : decode prog_15_method_56_code 7 = .ok (.aload_n 0, 1) := by decide +kernel
theorem dj_cha_8 : decode prog_15_method_56_code 8 = .ok (.getfield 9, 3) := by decide +kernel
theorem dj_cha_11 : decode prog_15_method_56_code 11 = .ok (.iload_n 1, 1) := by decide +kernel
theorem dj_cha_12 : decode prog_15_method_56_code 12 = .ok (.invokestatic 495, 3) := by decide +kernel
theorem dj_cha_15 : decode prog_15_method_56_code 15 = .ok (.ireturn, 1) := by decide +kernel
theorem dj_cha_16 : decode prog_15_method_56_code 16 = .ok (.aload_n 0, 1) := by decide +kernel
theorem dj_cha_17 : decode prog_15_method_56_code 17 = .ok (.getfield 9, 3) := by decide +kernel
theorem dj_cha_20 : decode prog_15_method_56_code 20 = .ok (.iload_n 1, 1) := by decide +kernel
theorem dj_cha_21 : decode prog_15_method_56_code 21 = .ok (.invokestatic 498, 3) := by decide +kernel
theorem dj_cha_24 : decode prog_15_method_56_code 24 = .ok (.ireturn, 1) := by decide +kernel
def sj_y (n d : String) : MethodName := ⟨"java/lang/String", n, d⟩
def sj_pc : MethodName := ⟨"jdk/internal/util/Preconditions", "checkIndex", "(IILjava/util/function/BiFunction;)I"⟩
def sj_lc : MethodName := ⟨"java/lang/StringLatin1", "charAt", "([BI)C"⟩
def sj_ws (y : MethodName) (b : ByteArray) (n : Nat) (r : Option FieldType) : List Jvm.Cond := .code y b n r :: ms_gw
def sj_T (X : ms_X) (vv : Nat) (fm : Option Nat) (U : State) : Prop := va_O "java/lang/String" (X.2.2.2 998) (ms_A X) U U.heap ∧ va_OF "java/lang/String" "coder" "B" (.int 0) (X.2.2.2 998) (ms_A X) U U.heap ∧ va_OF "java/lang/String" "value" "[B" (.ref vv) (X.2.2.2 998) (ms_A X) U U.heap ∧ va_T .byte vv 46 (fun j => .int (cs_tx.getD j 0)) (ms_A X) U U.heap ∧ va_Z "java/lang/String" "COMPACT_STRINGS" "Z" (.int 1) (ms_A X) U U.heap ∧ va_Z "jdk/internal/util/Preconditions" "SIOOBE_FORMATTER" "Ljava/util/function/BiFunction;" (va_rf fm) (ms_A X) U U.heap
def sj_P (X : ms_X) (vv : Nat) (fm : Option Nat) (as : List Value) : Array Value → State → Prop := fun v U => v = as.toArray ∧ sj_T X vv fm U
def sj_Q (o : Option Value) : Array Value → State → Outcome → State → Prop := fun _ st oc t => oc = .returned o ∧ t.heap = st.heap
theorem sj_good {y : MethodName} {b : ByteArray} {n : Nat} {r : Option FieldType} (h : Jvm.Cond.code y b n r ∈ ms_gw) : GoodIn ms_gw (sj_ws y b n r) := by
  intro w hw
  rcases List.mem_cons.mp hw with rfl | hw
  · exact ⟨h, (ms_gw_good _ h).2⟩
  · exact ⟨hw, (ms_gw_good _ hw).2⟩
theorem sj_T_kept {X : ms_X} {vv : Nat} {fm : Option Nat} {u U : State} (hvm : u.vm.Alike U.vm) (hk : ∀ a : Nat, a < u.heap.size → ¬ ms_A X a → U.heap[a]? = u.heap[a]?) (h : sj_T X vv fm u) : sj_T X vv fm U := by
  obtain ⟨h1, h2, h3, h4, h5, h6⟩ := h
  exact ⟨va_O.moved hvm (h1.kept hk), va_OF.moved hvm (h2.kept hk), va_OF.moved hvm (h3.kept hk), va_T.moved hvm (h4.kept hk), va_Z.moved hvm (h5.kept hk), va_Z.moved hvm (h6.kept hk)⟩
theorem sj_blind (X : ms_X) (vv : Nat) (fm : Option Nat) (as : List Value) : FrameBlind (sj_P X vv fm as) := by
  intro a U g mk q
  exact ⟨q.1, sj_T_kept (u := U) (U := U.calling g mk a) (Vm.Alike.refl U.vm) (fun _ _ _ => rfl) q.2⟩
section SJ
variable {p : Program} {l : Launch} {e : Env} {R : Room} {s : State} {m : MethodId} {args : Array Value} {below : List Frame} {meth : Method} {c : Code} {cells slots : Nat} {QQ : State → Prop}
theorem sj_call {X : ms_X} {o : Option Value} {H : Heap} {locs : List Loc} {pc : Nat} {ls : Array Slot} {st0 rest : List Value} {a : Array Value} (hr : va_Run p l e R s m args below meth c H locs cells slots 0 0 (F0 m pc ls st0) rest (sj_Q o a) (ms_A X)) (hS : va_S (ms_A X) s.heap H locs)
    (kk : ∀ locs1 : List Loc, va_S (ms_A X) s.heap H locs1 → W p l e R s m args below meth c H locs1 cells slots QQ (F0 m (pc + 3) ls (o.toList ++ rest))) : W p l e R s m args below meth c H locs cells slots QQ (F0 m pc ls st0) := by
  intro T hT Xs
  obtain ⟨v, st₀, t, T', L, h0, X', hL, e1, e2, ⟨hv, hh⟩, st⟩ := hr T hT Xs
  cases hv
  obtain ⟨t2, a1, b1⟩ := kk (locs ++ L) ⟨hS.1, hS.2.1, fun q hq => by
      rcases List.mem_append.mp hq with h | h
      · exact hS.2.2 q h
      · exact hL q h⟩ T' (by rw [e1, hh, h0]) X'
  exact ⟨t2, st t2 a1, b1⟩
theorem sj_V {X : ms_X} {vv maxL pc index : Nat} {fm : Option Nat} {b bytes : ByteArray} {own : String} {y : MethodName} {ret : Option FieldType} {mL : Nat} {rm : Room} {o : Option Value} {H : Heap} {locs : List Loc} {lsA : Array Slot} {As rest : List Value} (hx : p.tables.exec = Jvm.exec) (hb : c.code = b) (hml : c.maxLocals = maxL) (hsz : lsA.size = maxL) (hown : s.vm.findClass own = some m.cls) (hts : ∀ w ∈ ms_gw, w.before args s = true) (hT : sj_T X vv fm s) (hS : va_S (ms_A X) s.heap H locs) (hcs : cells ≤ R.cells ∧ slots ≤ R.slots) (hM : Met l y (sj_ws y bytes mL ret) rm (sj_P X vv fm (.ref (X.2.2.2 998) :: As)) (sj_Q o) 0 0 (ms_A X)) (hy : y.cls = "java/lang/String") (h1 : rm.cells = 0) (h2 : rm.slots = 0) (hR : rm.frames + 1 ≤ R.frames ∧ 8 + (mL + 11) + rm.locals ≤ R.locals) (wc : Jvm.Cond.code y bytes mL ret ∈ ms_gw) (wl : Jvm.Cond.methodLink own index y ∈ ms_gw) (wi : Jvm.Cond.instanceMethod y ∈ ms_gw) (wsel : Jvm.Cond.selects "java/lang/String" y y ∈ ms_gw) (wini : Jvm.Cond.initialized "java/lang/String" ∈ ms_gw) (hn : (parseMethodDescriptor y.desc).map (fun d => d.parameters.length) = some As.length) (hrest : (rest.map fun v => v.category).sum ≤ 8) (hd : decode b pc = .ok (.invokevirtual index, 3))
    (kk : ∀ locs1 : List Loc, va_S (ms_A X) s.heap H locs1 → W p l e R s m args below meth c H locs1 cells slots QQ (F0 m (pc + 3) lsA (o.toList ++ rest))) : W p l e R s m args below meth c H locs cells slots QQ (F0 m pc lsA (As.reverse ++ .ref (X.2.2.2 998) :: rest)) := by
  obtain ⟨cell, g1, g2, g3, -⟩ := hT.1.kept hS.2.1
  have hr := va_runV (H := H) (As := As) (rest := rest) (g := F0 m pc lsA (As.reverse ++ .ref (X.2.2.2 998) :: rest)) (n := As.length) (bytes := bytes) (maxL := mL) (ret := ret) (locs := locs) (below := below) (meth := meth) (e := e) (C := "java/lang/String") ⟨hx, hb, hml, hown, hts⟩ hM ⟨callB_of As.length hts (sj_good wc) rfl h1 h2 (by rw [hy]; exact hts _ wini) (hts _ wl) ⟨by rw [hy]; decide, by rw [hy]; decide, hn⟩ hR, hts _ wi, hts _ wsel⟩
    ⟨sj_blind X vv fm _, ⟨cell, g1, g2, g3⟩, fun U hU hW => ⟨rfl, sj_T_kept hW.alike (fun a a1 a2 => by rw [hU]; exact hS.2.1 a a1 a2) hT⟩⟩ rfl rfl hsz rfl (by show 2 * 0 + _ ≤ 8; omega) hd (by simpa using hcs)
  exact sj_call hr hS kk
theorem sj_Sx {X : ms_X} {vv maxL pc index : Nat} {fm : Option Nat} {b bytes : ByteArray} {own : String} {y : MethodName} {ret : Option FieldType} {mL : Nat} {rm : Room} {o : Option Value} {H : Heap} {locs : List Loc} {lsA : Array Slot} {As rest : List Value} (hx : p.tables.exec = Jvm.exec) (hb : c.code = b) (hml : c.maxLocals = maxL) (hsz : lsA.size = maxL) (hown : s.vm.findClass own = some m.cls) (hts : ∀ w ∈ ms_gw, w.before args s = true) (hT : sj_T X vv fm s) (hS : va_S (ms_A X) s.heap H locs) (hcs : cells ≤ R.cells ∧ slots ≤ R.slots) (hM : Met l y (sj_ws y bytes mL ret) rm (sj_P X vv fm As) (sj_Q o) 0 0 (ms_A X)) (hy : y.cls ≠ "java/lang/invoke/MethodHandle" ∧ y.cls ≠ "java/lang/invoke/VarHandle") (h1 : rm.cells = 0) (h2 : rm.slots = 0) (hR : rm.frames + 1 ≤ R.frames ∧ 8 + (mL + 11) + rm.locals ≤ R.locals) (wc : Jvm.Cond.code y bytes mL ret ∈ ms_gw) (wl : Jvm.Cond.methodLink own index y ∈ ms_gw) (wi : Jvm.Cond.static y ∈ ms_gw) (wini : Jvm.Cond.initialized y.cls ∈ ms_gw) (hn : (parseMethodDescriptor y.desc).map (fun d => d.parameters.length) = some As.length) (hrest : (rest.map fun v => v.category).sum ≤ 8) (hd : decode b pc = .ok (.invokestatic index, 3))
    (kk : ∀ locs1 : List Loc, va_S (ms_A X) s.heap H locs1 → W p l e R s m args below meth c H locs1 cells slots QQ (F0 m (pc + 3) lsA (o.toList ++ rest))) : W p l e R s m args below meth c H locs cells slots QQ (F0 m pc lsA (As.reverse ++ rest)) := by
  have hr := va_runS (H := H) (As := As) (rest := rest) (g := F0 m pc lsA (As.reverse ++ rest)) (n := As.length) (bytes := bytes) (maxL := mL) (ret := ret) (locs := locs) (below := below) (meth := meth) (e := e) ⟨hx, hb, hml, hown, hts⟩ hM ⟨callB_of As.length hts (sj_good wc) rfl h1 h2 (hts _ wini) (hts _ wl) ⟨hy.1, hy.2, hn⟩ hR, hts _ wi⟩
    ⟨sj_blind X vv fm _, fun U hU hW => ⟨rfl, sj_T_kept hW.alike (fun a a1 a2 => by rw [hU]; exact hS.2.1 a a1 a2) hT⟩⟩ rfl rfl hsz rfl (by show 2 * 0 + _ ≤ 8; omega) hd (by simpa using hcs)
  exact sj_call hr hS kk
end SJ
theorem sj_coder (l : Launch) (X : ms_X) (vv : Nat) (fm : Option Nat) : Met l (sj_y "coder" "()B") (sj_ws (sj_y "coder" "()B") prog_15_method_152_code 1 (some .byte)) (ms_rm 1) (sj_P X vv fm [.ref (X.2.2.2 998)]) (sj_Q (some (.int 0))) 0 0 (ms_A X) := by
  refine Met.ofW (cc := prog_15_method_152_code) (maxL := 1) (ret := some .byte) (by decide) rfl ?_
  intro p e s m args below meth c s₁ B hml hv
  obtain ⟨rfl, hT⟩ := hv
  have hx := B.exec
  have hb := B.bytes
  have hr := B.returns
  have hlocks := B.notSynchronized
  have hts0 := atoms_spec (ws := sj_ws (sj_y "coder" "()B") prog_15_method_152_code 1 (some .byte)) B.pre
  have hts : ∀ w ∈ ms_gw, w.before #[.ref (X.2.2.2 998)] s = true := fun w hw => hts0 w (List.mem_cons_of_mem _ hw)
  have hown : s.vm.findClass "java/lang/String" = some m.cls := findClass_of_methodNamed B.named
  have hl := lv_entry [.ref (X.2.2.2 998)] (n := 1) (Nat.le_of_ble_eq_true rfl)
  rw [lg_entry_eq]
  generalize (lg_sl [.ref (X.2.2.2 998)] ++ List.replicate (1 - (lg_sl [.ref (X.2.2.2 998)]).length) Slot.unset).toArray = ls at hl ⊢
  have hl : lv_has ls 1 [(0, .ref (X.2.2.2 998))] := hl
  have hS : va_S (ms_A X) s.heap s.heap [] := va_S.rf
  obtain ⟨t1, t2, t3, t4, t5, t6⟩ := hT
  refine va_gets hx hb t5 hS hown (hts _ (mk_w_in (i := 281) (by decide +kernel))) (fun x h => h) dj_coder_0 ?_
  refine lv_if_eq hx hb dj_coder_3 (tgt := 13) (by decide) (fun q => absurd q (by decide)) (fun _ => ?_)
  refine lv_aload_n hx hb dj_coder_6 rfl (lv_at hl 0 rfl) ?_
  refine vk_getf hx hb t2 hS hown (hts _ (mk_w_in (i := 1596) (by decide +kernel))) (fun x h => h) dj_coder_7 ?_
  refine lv_goto hx hb dj_coder_10 (tgt := 14) (by decide) ?_
  exact W.zret (ty := .byte) hx hb hr (by decide) (fun t ht _ => ⟨rfl, ht⟩) hS.2.2 dj_coder_14
theorem sj_isl (l : Launch) (X : ms_X) (vv : Nat) (fm : Option Nat) : Met l (sj_y "isLatin1" "()Z") (sj_ws (sj_y "isLatin1" "()Z") prog_15_method_154_code 1 (some .boolean)) (ms_rm 1) (sj_P X vv fm [.ref (X.2.2.2 998)]) (sj_Q (some (.int 1))) 0 0 (ms_A X) := by
  refine Met.ofW (cc := prog_15_method_154_code) (maxL := 1) (ret := some .boolean) (by decide) rfl ?_
  intro p e s m args below meth c s₁ B hml hv
  obtain ⟨rfl, hT⟩ := hv
  have hx := B.exec
  have hb := B.bytes
  have hr := B.returns
  have hlocks := B.notSynchronized
  have hts0 := atoms_spec (ws := sj_ws (sj_y "isLatin1" "()Z") prog_15_method_154_code 1 (some .boolean)) B.pre
  have hts : ∀ w ∈ ms_gw, w.before #[.ref (X.2.2.2 998)] s = true := fun w hw => hts0 w (List.mem_cons_of_mem _ hw)
  have hown : s.vm.findClass "java/lang/String" = some m.cls := findClass_of_methodNamed B.named
  have hl := lv_entry [.ref (X.2.2.2 998)] (n := 1) (Nat.le_of_ble_eq_true rfl)
  rw [lg_entry_eq]
  generalize (lg_sl [.ref (X.2.2.2 998)] ++ List.replicate (1 - (lg_sl [.ref (X.2.2.2 998)]).length) Slot.unset).toArray = ls at hl ⊢
  have hl : lv_has ls 1 [(0, .ref (X.2.2.2 998))] := hl
  have hS : va_S (ms_A X) s.heap s.heap [] := va_S.rf
  obtain ⟨t1, t2, t3, t4, t5, t6⟩ := hT
  refine va_gets hx hb t5 hS hown (hts _ (mk_w_in (i := 281) (by decide +kernel))) (fun x h => h) dj_isl_0 ?_
  refine lv_if_eq hx hb dj_isl_3 (tgt := 17) (by decide) (fun q => absurd q (by decide)) (fun _ => ?_)
  refine lv_aload_n hx hb dj_isl_6 rfl (lv_at hl 0 rfl) ?_
  refine vk_getf hx hb t2 hS hown (hts _ (mk_w_in (i := 1596) (by decide +kernel))) (fun x h => h) dj_isl_7 ?_
  refine lv_if_ne hx hb dj_isl_10 (tgt := 17) (by decide) (fun q => absurd rfl q) (fun _ => ?_)
  refine lv_iconst (v := 1) hx hb dj_isl_13 rfl ?_
  refine lv_goto hx hb dj_isl_14 (tgt := 18) (by decide) ?_
  exact W.zret (ty := .boolean) hx hb hr (by decide) (fun t ht _ => ⟨rfl, ht⟩) hS.2.2 dj_isl_18
theorem sj_len (l : Launch) (X : ms_X) (vv : Nat) (fm : Option Nat) : Met l (sj_y "length" "()I") (sj_ws (sj_y "length" "()I") prog_15_method_54_code 1 (some .int)) (ms_rm 2) (sj_P X vv fm [.ref (X.2.2.2 998)]) (sj_Q (some (.int 46))) 0 0 (ms_A X) := by
  refine Met.ofW (cc := prog_15_method_54_code) (maxL := 1) (ret := some .int) (by decide) rfl ?_
  intro p e s m args below meth c s₁ B hml hv
  obtain ⟨rfl, hT⟩ := hv
  have hx := B.exec
  have hb := B.bytes
  have hr := B.returns
  have hlocks := B.notSynchronized
  have hts0 := atoms_spec (ws := sj_ws (sj_y "length" "()I") prog_15_method_54_code 1 (some .int)) B.pre
  have hts : ∀ w ∈ ms_gw, w.before #[.ref (X.2.2.2 998)] s = true := fun w hw => hts0 w (List.mem_cons_of_mem _ hw)
  have hown : s.vm.findClass "java/lang/String" = some m.cls := findClass_of_methodNamed B.named
  have hl := lv_entry [.ref (X.2.2.2 998)] (n := 1) (Nat.le_of_ble_eq_true rfl)
  rw [lg_entry_eq]
  generalize (lg_sl [.ref (X.2.2.2 998)] ++ List.replicate (1 - (lg_sl [.ref (X.2.2.2 998)]).length) Slot.unset).toArray = ls at hl ⊢
  have hl : lv_has ls 1 [(0, .ref (X.2.2.2 998))] := hl
  have hS : va_S (ms_A X) s.heap s.heap [] := va_S.rf
  obtain ⟨t1, t2, t3, t4, t5, t6⟩ := id hT
  refine lv_aload_n hx hb dj_len_0 rfl (lv_at hl 0 rfl) ?_
  refine vk_getf hx hb t3 hS hown (hts _ (mk_w_in (i := 1595) (by decide +kernel))) (fun x h => h) dj_len_1 ?_
  refine va_tlen hx hb t4 hS (v := 46) (by decide) dj_len_4 ?_
  refine lv_aload_n hx hb dj_len_5 rfl (lv_at hl 0 rfl) ?_
  refine sj_V (As := []) (rest := [.int 46]) (own := "java/lang/String") hx hb hml hl.1 hown hts hT hS ⟨Nat.zero_le _, Nat.zero_le _⟩ (sj_coder l X vv fm) rfl rfl rfl ⟨by decide, by decide⟩ (mk_w_in (i := 280) (by decide +kernel)) (mk_w_in (i := 277) (by decide +kernel)) (mk_w_in (i := 278) (by decide +kernel)) (mk_w_in (i := 279) (by decide +kernel)) (mk_w_in (i := 100) (by decide +kernel)) (by decide +kernel) (by decide) dj_len_6 (fun locs1 hS1 => ?_)
  refine lv_ishr (x := 46) (y := 0) hx hb dj_len_9 ?_
  exact W.iret (v := 46) hx hb hr (fun t ht _ => ⟨rfl, ht⟩) hS1.2.2 dj_len_10
theorem sj_pci (l : Launch) (X : ms_X) (vv : Nat) (fm : Option Nat) (i : Int32) (h0 : ¬ i < 0) (h1 : i < 46) : Met l sj_pc (sj_ws sj_pc prog_19_method_11_code 3 (some .int)) (ms_rm 1) (sj_P X vv fm [.int i, .int 46, va_rf fm]) (sj_Q (some (.int i))) 0 0 (ms_A X) := by
  cases fm with
  | none =>
    refine Met.ofW (cc := prog_19_method_11_code) (maxL := 3) (ret := some .int) (by decide) rfl ?_
    intro p e s m args below meth c s₁ B hml hv
    obtain ⟨rfl, hT⟩ := hv
    have hx := B.exec
    have hb := B.bytes
    have hr := B.returns
    have hlocks := B.notSynchronized
    have hl := lv_entry [.int i, .int 46, va_rf none] (n := 3) (Nat.le_of_ble_eq_true rfl)
    rw [lg_entry_eq]
    generalize (lg_sl [.int i, .int 46, va_rf none] ++ List.replicate (3 - (lg_sl [.int i, .int 46, va_rf none]).length) Slot.unset).toArray = ls at hl ⊢
    have hl : lv_has ls 3 [(0, .int i), (1, .int 46), (2, va_rf none)] := hl
    have hS : va_S (ms_A X) s.heap s.heap [] := va_S.rf
    refine lv_iload_n hx hb dj_pci_0 rfl (lv_at hl 0 rfl) ?_
    refine lv_if_lt hx hb dj_pci_1 (tgt := 9) (by decide) (fun q => absurd q h0) (fun _ => ?_)
    refine lv_iload_n hx hb dj_pci_4 rfl (lv_at hl 0 rfl) ?_
    refine lv_iload_n hx hb dj_pci_5 rfl (lv_at hl 1 rfl) ?_
    refine lv_icmp_lt hx hb dj_pci_6 (tgt := 16) (by decide) (fun _ => ?_) (fun q => absurd h1 q)
    refine lv_iload_n hx hb dj_pci_16 rfl (lv_at hl 0 rfl) ?_
    exact W.iret (v := i) hx hb hr (fun t ht _ => ⟨rfl, ht⟩) hS.2.2 dj_pci_17
  | some fq =>
    refine Met.ofW (cc := prog_19_method_11_code) (maxL := 3) (ret := some .int) (by decide) rfl ?_
    intro p e s m args below meth c s₁ B hml hv
    obtain ⟨rfl, hT⟩ := hv
    have hx := B.exec
    have hb := B.bytes
    have hr := B.returns
    have hlocks := B.notSynchronized
    have hl := lv_entry [.int i, .int 46, va_rf (some fq)] (n := 3) (Nat.le_of_ble_eq_true rfl)
    rw [lg_entry_eq]
    generalize (lg_sl [.int i, .int 46, va_rf (some fq)] ++ List.replicate (3 - (lg_sl [.int i, .int 46, va_rf (some fq)]).length) Slot.unset).toArray = ls at hl ⊢
    have hl : lv_has ls 3 [(0, .int i), (1, .int 46), (2, va_rf (some fq))] := hl
    have hS : va_S (ms_A X) s.heap s.heap [] := va_S.rf
    refine lv_iload_n hx hb dj_pci_0 rfl (lv_at hl 0 rfl) ?_
    refine lv_if_lt hx hb dj_pci_1 (tgt := 9) (by decide) (fun q => absurd q h0) (fun _ => ?_)
    refine lv_iload_n hx hb dj_pci_4 rfl (lv_at hl 0 rfl) ?_
    refine lv_iload_n hx hb dj_pci_5 rfl (lv_at hl 1 rfl) ?_
    refine lv_icmp_lt hx hb dj_pci_6 (tgt := 16) (by decide) (fun _ => ?_) (fun q => absurd h1 q)
    refine lv_iload_n hx hb dj_pci_16 rfl (lv_at hl 0 rfl) ?_
    exact W.iret (v := i) hx hb hr (fun t ht _ => ⟨rfl, ht⟩) hS.2.2 dj_pci_17
theorem sj_sci (l : Launch) (X : ms_X) (vv : Nat) (fm : Option Nat) (i : Int32) (h0 : ¬ i < 0) (h1 : i < 46) : Met l (sj_y "checkIndex" "(II)V") (sj_ws (sj_y "checkIndex" "(II)V") prog_15_method_155_code 2 none) (ms_rm 2) (sj_P X vv fm [.int i, .int 46]) (sj_Q none) 0 0 (ms_A X) := by
  refine Met.ofW (cc := prog_15_method_155_code) (maxL := 2) (ret := none) (by decide) rfl ?_
  intro p e s m args below meth c s₁ B hml hv
  obtain ⟨rfl, hT⟩ := hv
  have hx := B.exec
  have hb := B.bytes
  have hr := B.returns
  have hlocks := B.notSynchronized
  have hts0 := atoms_spec (ws := sj_ws (sj_y "checkIndex" "(II)V") prog_15_method_155_code 2 none) B.pre
  have hts : ∀ w ∈ ms_gw, w.before #[.int i, .int 46] s = true := fun w hw => hts0 w (List.mem_cons_of_mem _ hw)
  have hown : s.vm.findClass "java/lang/String" = some m.cls := findClass_of_methodNamed B.named
  have hl := lv_entry [.int i, .int 46] (n := 2) (Nat.le_of_ble_eq_true rfl)
  rw [lg_entry_eq]
  generalize (lg_sl [.int i, .int 46] ++ List.replicate (2 - (lg_sl [.int i, .int 46]).length) Slot.unset).toArray = ls at hl ⊢
  have hl : lv_has ls 2 [(0, .int i), (1, .int 46)] := hl
  have hS : va_S (ms_A X) s.heap s.heap [] := va_S.rf
  obtain ⟨t1, t2, t3, t4, t5, t6⟩ := id hT
  refine lv_iload_n hx hb dj_sci_0 rfl (lv_at hl 0 rfl) ?_
  refine lv_iload_n hx hb dj_sci_1 rfl (lv_at hl 1 rfl) ?_
  refine va_gets hx hb t6 hS hown (hts _ (mk_w_in (i := 297) (by decide +kernel))) (fun x h => h) dj_sci_2 ?_
  refine sj_Sx (As := [.int i, .int 46, va_rf fm]) (rest := []) (own := "java/lang/String") hx hb hml hl.1 hown hts hT hS ⟨Nat.zero_le _, Nat.zero_le _⟩ (sj_pci l X vv fm i h0 h1) (by decide) rfl rfl ⟨by decide, by decide⟩ (mk_w_in (i := 301) (by decide +kernel)) (mk_w_in (i := 299) (by decide +kernel)) (mk_w_in (i := 300) (by decide +kernel)) (mk_w_in (i := 102) (by decide +kernel)) (by show _ = some 3; decide +kernel) (by decide) dj_sci_5 (fun locs1 hS1 => ?_)
  refine lv_pop (va := .int i) hx hb dj_sci_8 rfl ?_
  exact W.vret hx hb hr (fun t ht _ => ⟨rfl, ht⟩) hS1.2.2 dj_sci_9
theorem sj_tx : ∀ j, j < 46 → ((cs_tx.getD j 0 &&& 255).toUInt32 % 65536).toInt32 = cs_tx.getD j 0 ∧ narrow .char (.int (cs_tx.getD j 0)) = .int (cs_tx.getD j 0) := by decide +kernel
theorem sj_lch (l : Launch) (X : ms_X) (vv : Nat) (fm : Option Nat) (i : Int32) (h0 : ¬ i < 0) (h1 : i < 46) (h2 : i.toNatClampNeg < 46) : Met l sj_lc (sj_ws sj_lc prog_16_method_2_code 2 (some .char)) (ms_rm 3) (sj_P X vv fm [.ref vv, .int i]) (sj_Q (some (.int (cs_tx.getD i.toNatClampNeg 0)))) 0 0 (ms_A X) := by
  refine Met.ofW (cc := prog_16_method_2_code) (maxL := 2) (ret := some .char) (by decide) rfl ?_
  intro p e s m args below meth c s₁ B hml hv
  obtain ⟨rfl, hT⟩ := hv
  have hx := B.exec
  have hb := B.bytes
  have hr := B.returns
  have hlocks := B.notSynchronized
  have hts0 := atoms_spec (ws := sj_ws sj_lc prog_16_method_2_code 2 (some .char)) B.pre
  have hts : ∀ w ∈ ms_gw, w.before #[.ref vv, .int i] s = true := fun w hw => hts0 w (List.mem_cons_of_mem _ hw)
  have hown : s.vm.findClass "java/lang/StringLatin1" = some m.cls := findClass_of_methodNamed B.named
  have hl := lv_entry [.ref vv, .int i] (n := 2) (Nat.le_of_ble_eq_true rfl)
  rw [lg_entry_eq]
  generalize (lg_sl [.ref vv, .int i] ++ List.replicate (2 - (lg_sl [.ref vv, .int i]).length) Slot.unset).toArray = ls at hl ⊢
  have hl : lv_has ls 2 [(0, .ref vv), (1, .int i)] := hl
  have hS : va_S (ms_A X) s.heap s.heap [] := va_S.rf
  obtain ⟨t1, t2, t3, t4, t5, t6⟩ := id hT
  obtain ⟨x1, x2⟩ := sj_tx _ h2
  refine lv_iload_n hx hb dj_lch_0 rfl (lv_at hl 1 rfl) ?_
  refine lv_aload_n hx hb dj_lch_1 rfl (lv_at hl 0 rfl) ?_
  refine va_tlen hx hb t4 hS (v := 46) (by decide) dj_lch_2 ?_
  refine sj_Sx (As := [.int i, .int 46]) (rest := []) (own := "java/lang/StringLatin1") hx hb hml hl.1 hown hts hT hS ⟨Nat.zero_le _, Nat.zero_le _⟩ (sj_sci l X vv fm i h0 h1) (by decide) rfl rfl ⟨by decide, by decide⟩ (mk_w_in (i := 296) (by decide +kernel)) (mk_w_in (i := 294) (by decide +kernel)) (mk_w_in (i := 295) (by decide +kernel)) (mk_w_in (i := 100) (by decide +kernel)) (by show _ = some 2; decide +kernel) (by decide) dj_lch_3 (fun locs1 hS1 => ?_)
  refine lv_aload_n hx hb dj_lch_6 rfl (lv_at hl 0 rfl) ?_
  refine lv_iload_n hx hb dj_lch_7 rfl (lv_at hl 1 rfl) ?_
  refine va_tb hx hb t4 hS1 (i := i) (fun w => w.elim h0 (fun w => by omega)) (v := .int (cs_tx.getD i.toNatClampNeg 0)) rfl dj_lch_8 ?_
  refine lv_sipush (v := 255) hx hb dj_lch_9 (by decide) ?_
  refine lv_iand hx hb dj_lch_12 ?_
  refine lv_i2c (v := cs_tx.getD i.toNatClampNeg 0) hx hb dj_lch_13 x1 ?_
  exact W.zret (ty := .char) hx hb hr x2 (fun t ht _ => ⟨rfl, ht⟩) hS1.2.2 dj_lch_14
theorem sj_cha (l : Launch) (X : ms_X) (vv : Nat) (fm : Option Nat) (i : Int32) (h0 : ¬ i < 0) (h1 : i < 46) (h2 : i.toNatClampNeg < 46) : Met l (sj_y "charAt" "(I)C") (sj_ws (sj_y "charAt" "(I)C") prog_15_method_56_code 2 (some .char)) (ms_rm 4) (sj_P X vv fm [.ref (X.2.2.2 998), .int i]) (sj_Q (some (.int (cs_tx.getD i.toNatClampNeg 0)))) 0 0 (ms_A X) := by
  refine Met.ofW (cc := prog_15_method_56_code) (maxL := 2) (ret := some .char) (by decide) rfl ?_
  intro p e s m args below meth c s₁ B hml hv
  obtain ⟨rfl, hT⟩ := hv
  have hx := B.exec
  have hb := B.bytes
  have hr := B.returns
  have hlocks := B.notSynchronized
  have hts0 := atoms_spec (ws := sj_ws (sj_y "charAt" "(I)C") prog_15_method_56_code 2 (some .char)) B.pre
  have hts : ∀ w ∈ ms_gw, w.before #[.ref (X.2.2.2 998), .int i] s = true := fun w hw => hts0 w (List.mem_cons_of_mem _ hw)
  have hown : s.vm.findClass "java/lang/String" = some m.cls := findClass_of_methodNamed B.named
  have hl := lv_entry [.ref (X.2.2.2 998), .int i] (n := 2) (Nat.le_of_ble_eq_true rfl)
  rw [lg_entry_eq]
  generalize (lg_sl [.ref (X.2.2.2 998), .int i] ++ List.replicate (2 - (lg_sl [.ref (X.2.2.2 998), .int i]).length) Slot.unset).toArray = ls at hl ⊢
  have hl : lv_has ls 2 [(0, .ref (X.2.2.2 998)), (1, .int i)] := hl
  have hS : va_S (ms_A X) s.heap s.heap [] := va_S.rf
  obtain ⟨t1, t2, t3, t4, t5, t6⟩ := id hT
  obtain ⟨x1, x2⟩ := sj_tx _ h2
  refine lv_aload_n hx hb dj_cha_0 rfl (lv_at hl 0 rfl) ?_
  refine sj_V (As := []) (rest := []) (own := "java/lang/String") hx hb hml hl.1 hown hts hT hS ⟨Nat.zero_le _, Nat.zero_le _⟩ (sj_isl l X vv fm) rfl rfl rfl ⟨by decide, by decide⟩ (mk_w_in (i := 290) (by decide +kernel)) (mk_w_in (i := 287) (by decide +kernel)) (mk_w_in (i := 288) (by decide +kernel)) (mk_w_in (i := 289) (by decide +kernel)) (mk_w_in (i := 100) (by decide +kernel)) (by decide +kernel) (by decide) dj_cha_1 (fun locs1 hS1 => ?_)
  refine lv_if_eq (x := 1) hx hb dj_cha_4 (tgt := 16) (by decide) (fun q => absurd q (by decide)) (fun _ => ?_)
  refine lv_aload_n hx hb dj_cha_7 rfl (lv_at hl 0 rfl) ?_
  refine vk_getf hx hb t3 hS1 hown (hts _ (mk_w_in (i := 1595) (by decide +kernel))) (fun x h => h) dj_cha_8 ?_
  refine lv_iload_n hx hb dj_cha_11 rfl (lv_at hl 1 rfl) ?_
  refine sj_Sx (As := [.ref vv, .int i]) (rest := []) (own := "java/lang/String") hx hb hml hl.1 hown hts hT hS1 ⟨Nat.zero_le _, Nat.zero_le _⟩ (sj_lch l X vv fm i h0 h1 h2) (by decide) rfl rfl ⟨by decide, by decide⟩ (mk_w_in (i := 293) (by decide +kernel)) (mk_w_in (i := 291) (by decide +kernel)) (mk_w_in (i := 292) (by decide +kernel)) (mk_w_in (i := 101) (by decide +kernel)) (by show _ = some 2; decide +kernel) (by decide) dj_cha_12 (fun locs2 hS2 => ?_)
  exact W.zret (ty := .char) hx hb hr x2 (fun t ht _ => ⟨rfl, ht⟩) hS2.2.2 dj_cha_15
