/-! from the law's entry to its loop, and from there to its end -/
theorem en_d : decode code 0 = .ok (.new 7, 3) ∧ decode code 3 = .ok (.dup, 1) ∧ decode code 4 = .ok (.invokespecial 9, 3) ∧ decode code 7 = .ok (.astore_n 1, 1) ∧ decode code 8 = .ok (.new 10, 3) ∧ decode code 11 = .ok (.dup, 1) ∧ decode code 12 = .ok (.invokespecial 12, 3) ∧ decode code 15 = .ok (.astore_n 2, 1) := ⟨by decide +kernel, by decide +kernel, by decide +kernel, by decide +kernel, by decide +kernel, by decide +kernel, by decide +kernel, by decide +kernel⟩
def en_hA : cs_H := [(9, cs_dv 9)]
def en_hB : cs_H := cs_h0.take 127
def en_hC : cs_H := cs_h0.take 127 ++ [(10, cs_dv 10)]
set_option maxRecDepth 100000 in
theorem en_sz : en_hA.length = 1 ∧ cs_n en_hA ≤ 100000 ∧ en_hB.length = 127 ∧ cs_n en_hB ≤ 100000 ∧ en_hC.length = 128 ∧ cs_n en_hC ≤ 100000 ∧ cs_h0.length = 158 ∧ cs_n cs_h0 ≤ 100000 := by decide +kernel
def en_l0 : mm_L := [some (.ref 999), none, none, none]
def en_l1 : mm_L := [some (.ref 999), some (.ref 0), none, none]
def en_l2 : mm_L := [some (.ref 999), some (.ref 0), some (.ref 127), none]
set_option maxRecDepth 100000 in
theorem en_nM : cs_st 13 4 (.new 10) en_l1 [] en_hB = some (en_l1, [.ref 127], en_hC) := by decide +kernel
section ENS
variable {p : Program} {l : Launch} {e : Env} {s : State} {m : MethodId} {args : Array Value} {below : List Frame} {meth : Method} {c : Code} {QQ : State → Prop}
theorem en_Cs (X : ms_X) : cs_Cs l room_1 X (cs_call 5) := fun g mm as h h' hg hc => ⟨_, rfl, rfl, by show 5 + 5 + 1 ≤ 13; omega, by show 23 + 40 * (5 + 5) ≤ 518; omega, cs_met l X 5 g mm as h h' hg hc⟩
theorem en_ss {X : ms_X} {pc len : Nat} {i : Instr} {ls ls' : mm_L} {st st' : List Value} {h h' : cs_H} {lsA : Array Slot} {H : Heap} {locs : List Loc} (hx : p.tables.exec = Jvm.exec) (hb : c.code = code) (hml : c.maxLocals = 4) (hown : s.vm.findClass (mk_own 13) = some m.cls) (hts : ∀ w ∈ ms_gw, w.before args s = true) (hX : X.1 = s.heap.size) (hE : cs_E X s) (hd : decode code pc = .ok (i, len)) (hlen : len = cs_ln i) (hst : cs_st 13 4 i ls st h = some (ls', st', h')) (hro : h'.length ≤ 600000 ∧ cs_n h' ≤ 100000) (hl : ms_lv X lsA 4 ls) (hP : cs_P X h H) (hS : va_S (ms_A X) s.heap H locs)
    (kk : ∀ (lsA' : Array Slot) (H' : Heap) (locs' : List Loc), ms_lv X lsA' 4 ls' → cs_P X h' H' → va_S (ms_A X) s.heap H' locs' → W p l e room_1 s m args below meth c H' locs' h'.length (cs_n h') QQ (F0 m (pc + len) lsA' (st'.map (ms_v X)))) : W p l e room_1 s m args below meth c H locs h.length (cs_n h) QQ (F0 m pc lsA (st.map (ms_v X))) := by
  obtain ⟨a1, a2⟩ := cs_st_le hst
  have e1 : h.length + (h'.length - h.length) = h'.length := by omega
  have e2 : cs_n h + (cs_n h' - cs_n h) = cs_n h' := by omega
  refine cs_ss (R := room_1) hx hb hml hown (Or.inr rfl) hts hE (by show 5 ≤ 13; omega) (by show 200 ≤ 518; omega) hd hlen hst (by rw [hX]) ⟨by rw [e1]; exact hro.1, by rw [e2]; show cs_n h' ≤ 7302250; omega⟩ hl hP hS (fun lsA1 H1 locs1 p1 p2 p3 => ?_)
  rw [e1, e2]
  exact kk lsA1 H1 locs1 p1 p2 p3
theorem en_inv {X : ms_X} {pc k g a : Nat} {mm : cs_M} {as r st : List Value} {h h' : cs_H} {lsA : Array Slot} {H : Heap} {locs : List Loc} (hx : p.tables.exec = Jvm.exec) (hb : c.code = code) (hml : c.maxLocals = 4) (hown : s.vm.findClass (mk_own 13) = some m.cls) (hts : ∀ w ∈ ms_gw, w.before args s = true) (hX : X.1 = s.heap.size) (hE : cs_E X s) (hg : (match mk_look cs_il 13 k with | some q => some q.1 | none => (match mk_look cs_in 13 k with | some q => some q.1 | none => none)) = some g) (hm : cs_ms[g]? = some mm) (hpop : cs_pop (mm.2.2.2.1 + 1) st [] = some (.ref a :: as, r)) (h4 : r.length ≤ 4) (hcall : cs_call 5 g (.ref a :: as) h = some h') (hd : decode code pc = .ok (.invokespecial k, 3)) (hro : h'.length ≤ 600000 ∧ cs_n h' ≤ 100000) (hsz : lsA.size = 4) (hP : cs_P X h H) (hS : va_S (ms_A X) s.heap H locs)
    (kk : ∀ (H1 : Heap) (locs1 : List Loc), cs_P X h' H1 → va_S (ms_A X) s.heap H1 locs1 → W p l e room_1 s m args below meth c H1 locs1 h'.length (cs_n h') QQ (F0 m (pc + 3) lsA (r.map (ms_v X)))) : W p l e room_1 s m args below meth c H locs h.length (cs_n h) QQ (F0 m pc lsA (st.map (ms_v X))) := by
  obtain ⟨a1, a2⟩ := cs_call_le 5 _ _ _ _ hcall
  have e1 : h.length + (h'.length - h.length) = h'.length := by omega
  have e2 : cs_n h + (cs_n h' - cs_n h) = cs_n h' := by omega
  refine cs_inv (R := room_1) (oo := 13) hx hb hml hown hts hE (en_Cs X) hg hm hpop h4 hcall hd (by rw [hX]) ⟨by rw [e1]; exact hro.1, by rw [e2]; show cs_n h' ≤ 7302250; omega⟩ hsz hP hS (fun H1 locs1 p2 p3 => ?_)
  rw [e1, e2]
  exact kk H1 locs1 p2 p3
theorem en_run {X : ms_X} {lsA : Array Slot} (hx : p.tables.exec = Jvm.exec) (hb : c.code = code) (hml : c.maxLocals = 4) (hown : s.vm.findClass (mk_own 13) = some m.cls) (hts : ∀ w ∈ ms_gw, w.before args s = true) (hX : X.1 = s.heap.size) (hE : cs_E X s) (hl : ms_lv X lsA 4 en_l0)
    (kk : ∀ (lsA' : Array Slot) (H' : Heap) (locs' : List Loc), ms_lv X lsA' 4 en_l2 → cs_P X cs_h0 H' → va_S (ms_A X) s.heap H' locs' → W p l e room_1 s m args below meth c H' locs' cs_h0.length (cs_n cs_h0) QQ (F0 m 16 lsA' [])) : W p l e room_1 s m args below meth c s.heap [] 0 0 QQ (F0 m 0 lsA []) := by
  obtain ⟨d0, d3, d4, d7, d8, d11, d12, d15⟩ := en_d
  obtain ⟨z1, z2, z3, z4, z5, z6, z7, z8⟩ := en_sz
  have hS : va_S (ms_A X) s.heap s.heap [] := va_S.rf
  have hP : cs_P X [] s.heap := fun k q h => by cases h
  refine en_ss (st := []) (h := []) (ls' := en_l0) (st' := [.ref 0]) (h' := en_hA) hx hb hml hown hts hX hE d0 rfl (by rfl) ⟨by omega, z2⟩ hl hP hS (fun ls H locs hl hP hS => ?_)
  refine en_ss (st := [.ref 0]) (ls' := en_l0) (st' := [.ref 0, .ref 0]) (h' := en_hA) hx hb hml hown hts hX hE d3 rfl (by rfl) ⟨by omega, z2⟩ hl hP hS (fun ls H locs hl hP hS => ?_)
  refine en_inv (st := [.ref 0, .ref 0]) (r := [.ref 0]) (as := []) (a := 0) (g := 9) (h' := en_hB) hx hb hml hown hts hX hE (by rfl) rfl (by rfl) (by decide) cs_runC d4 ⟨by omega, z4⟩ hl.1 hP hS (fun H locs hP hS => ?_)
  refine en_ss (st := [.ref 0]) (ls' := en_l1) (st' := []) (h' := en_hB) hx hb hml hown hts hX hE d7 rfl (by rfl) ⟨by omega, z4⟩ hl hP hS (fun ls H locs hl hP hS => ?_)
  refine en_ss (st := []) (ls' := en_l1) (st' := [.ref 127]) (h' := en_hC) hx hb hml hown hts hX hE d8 rfl en_nM ⟨by omega, z6⟩ hl hP hS (fun ls H locs hl hP hS => ?_)
  refine en_ss (st := [.ref 127]) (ls' := en_l1) (st' := [.ref 127, .ref 127]) (h' := en_hC) hx hb hml hown hts hX hE d11 rfl (by rfl) ⟨by omega, z6⟩ hl hP hS (fun ls H locs hl hP hS => ?_)
  refine en_inv (st := [.ref 127, .ref 127]) (r := [.ref 127]) (as := []) (a := 127) (g := 10) (h' := cs_h0) hx hb hml hown hts hX hE (by rfl) rfl (by rfl) (by decide) cs_runM d12 ⟨by omega, z8⟩ hl.1 hP hS (fun H locs hP hS => ?_)
  refine en_ss (st := [.ref 127]) (ls' := en_l2) (st' := []) (h' := cs_h0) hx hb hml hown hts hX hE d15 rfl (by rfl) ⟨by omega, z8⟩ hl hP hS (fun ls H locs hl hP hS => ?_)
  exact kk ls H locs hl hP hS
theorem en_loop {L : Nat} {xs : Nat → Int32} (hL : L ≤ 3584) : mm_at (L, xs) (mm_call (L, xs) 12) (mm_code 221) (fun v _ _ => v = some (.int 1)) 16 en_l2 [] cs_I0 cs_J0 := by
  have h := law_loop (z := (L, xs)) (Q := fun v _ _ => v = some (.int 1)) hL (fun _ _ => rfl) 600 0 cs_s0 cs_I0 cs_J0 (by show L < 0 + 7 * 600 + 7; omega) (by omega) cs_iv cs_repC cs_repM
  unfold en_l2
  simp only [bk_221.1, mmE, mmE0, mmH, mT, mR, mRf, mAl, mAs, mAz, mAn, Int.reduceToNat, Int32.reduceOfInt, Int64.reduceOfInt, Int.reduceAdd, swE, Nat.reduceDiv, Nat.reduceMod, Nat.reduceAdd, Nat.reduceMul, Nat.reduceEqDiff, Nat.reduceLeDiff, Nat.zero_le, List.length_nil, List.length_cons, Nat.zero_add, true_or, or_true, false_or, or_false, true_and, and_true, and_self, mb_01, mb_t, mb_f, Option.toList_some, Option.toList_none, List.cons_append, List.nil_append]
  exact h
end ENS
theorem whole_start {p : Program} {e : Env} {s : State} {m : MethodId} {below : List Frame} {meth : Method} {c : Code} (l : Launch) {b L : Nat} {xs : Nat → Int32} (hL : L ≤ 3584) (C0 : lw_At p s m meth c b L xs) : W p l e room_1 s m #[Value.ref b] below meth c s.heap [] 0 0 (lw_Z below #[Value.ref b] s) (entryFrame m ([Value.ref b] : List Value).toArray 4) := by
  obtain ⟨hx, hb, hr, hml, hown, hts, hX, hbl, hlocks, hgv⟩ := C0
  obtain ⟨X, x1, x2, hE, hc⟩ := en_all hts hX hbl hgv
  have hgw : ∀ w ∈ ms_gw, w.before #[Value.ref b] s = true := fun w hw => hts w (List.mem_filter.mp hw).1
  have e1 : ([Value.ref b] : List Value) = ([.ref 999] : List Value).map (ms_v X) := by
    show [Value.ref b] = [Value.ref (X.2.2.2 999)]
    rw [x2]
  have hl := lv_entry ([.ref b]) (n := 4) (Nat.le_of_ble_eq_true rfl)
  rw [lg_entry_eq]
  generalize (lg_sl ([.ref b]) ++ List.replicate (4 - (lg_sl ([.ref b])).length) Slot.unset).toArray = ls at hl ⊢
  rw [e1] at hl
  have hl0 : ms_lv X ls 4 en_l0 := ms_lv_en (k := 4) hl
  refine en_run (X := X) hx hb hml hown hgw x1 hc hl0 (fun ls1 H1 locs1 p1 p2 p3 => ?_)
  have p2 : ms_P X cs_I0 cs_J0 H1 := by
    unfold ms_P
    rw [← cs_ws0]
    exact p2
  obtain ⟨_, _, _, _, _, _, z7, z8⟩ := en_sz
  refine W.widen (k := 600000) (n := 7302250) (by omega) (by omega) ?_
  refine ms_law (d := 12) (z := (L, xs)) (X := X) (rt := fun v _ _ => v = some (.int 1)) (st := []) hx hb hml hown hgw hE (by show 12 + 1 ≤ 13; omega) (by show 38 + 40 * 12 ≤ 518; omega) (by show 40 ≤ 518; omega) ⟨Nat.le_refl _, Nat.le_refl _⟩ ?_ (en_loop hL) p1 p2 p3
  intro v pc lsA I J H locs _ hd _ hS hv
  subst hv
  refine va_forget (fun q hq => ?_) (lw_ret hx hb hr hlocks hd)
  have := hS.2.2 q hq
  rw [← x1]
  exact this
