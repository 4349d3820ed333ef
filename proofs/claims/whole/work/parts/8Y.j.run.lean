/-! constructors meet their contracts -/
theorem cs_at_in : ∀ {cd : List (Nat × Instr × Nat)} {pc : Nat} {i : Instr} {len : Nat}, cs_at cd pc = some (i, len) → (pc, i, len) ∈ cd
  | [], _, _, _, q => by cases q
  | x :: t, pc, i, len, q => by
    unfold cs_at at q
    split at q
    · rename_i e1
      injection q with q
      obtain ⟨a, b⟩ := x
      have e1 : a = pc := e1
      have q : b = (i, len) := q
      rw [e1, q]
      exact List.mem_cons_self
    · exact List.mem_cons_of_mem _ (cs_at_in q)
def cs_lok (cd : List (Nat × Instr × Nat)) : Bool := cd.all fun q => decide (q.2.2 = cs_ln q.2.1)
set_option maxRecDepth 100000 in
theorem cs_lok_ok : cs_cds.all cs_lok = true := by decide +kernel
theorem cs_dec {b : ByteArray} {cd : List (Nat × Instr × Nat)} {pc len : Nat} {i : Instr} (h1 : cs_chk b cd = true) (h2 : cs_lok cd = true) (h : cs_at cd pc = some (i, len)) : decode b pc = .ok (i, len) ∧ len = cs_ln i := by
  have hm := cs_at_in h
  have a := List.all_eq_true.mp h1 _ hm
  have b2 := List.all_eq_true.mp h2 _ hm
  dsimp only at a
  refine ⟨?_, of_decide_eq_true b2⟩
  cases e : decode b pc with
  | error x => rw [e] at a; cases a
  | ok q =>
    rw [e] at a
    obtain ⟨j, n⟩ := q
    simp only [Bool.and_eq_true, decide_eq_true_eq] at a
    rw [a.1, a.2]
theorem cs_tg_v {pc pc' : Nat} {t : Int} (h : cs_tg pc t = some pc') : (pc : Int) + t = (pc' : Int) := by
  unfold cs_tg at h
  split at h
  · injection h with h
    omega
  · cases h
section CSR
variable {p : Program} {l : Launch} {e : Env} {R : Room} {s : State} {m : MethodId} {args : Array Value} {below : List Frame} {meth : Method} {c : Code} {QQ : State → Prop}
set_option maxHeartbeats 4000000 in
theorem cs_sim {C : Nat → List Value → cs_H → Option cs_H} {X : ms_X} {b : ByteArray} {oo maxL mc ms : Nat} {cd : List (Nat × Instr × Nat)} {hZ : cs_H} (hx : p.tables.exec = Jvm.exec) (hb : c.code = b) (hml : c.maxLocals = maxL) (hown : s.vm.findClass (mk_own oo) = some m.cls) (hin : meth.name = "<init>" ∨ oo = 13) (hts : ∀ w ∈ ms_gw, w.before args s = true) (hE : cs_E X s) (hR1 : 5 ≤ R.frames) (hR2 : 200 ≤ R.locals) (k1 : cs_chk b cd = true) (k2 : cs_lok cd = true) (hCm : cs_Cm C) (hC : cs_Cs l R X C) (hmc : mc ≤ R.cells) (hms : ms ≤ R.slots)
    (hret : ∀ (lsA : Array Slot) (H : Heap) (locs : List Loc) (pc : Nat), decode b pc = .ok (.return_, 1) → cs_P X hZ H → va_S (ms_A X) s.heap H locs → W p l e R s m args below meth c H locs mc ms QQ (F0 m pc lsA [])) :
    ∀ (w pc : Nat) (ls : mm_L) (st : List Value) (h : cs_H) (cells slots : Nat) (lsA : Array Slot) (H : Heap) (locs : List Loc), cs_go C oo maxL cd w pc ls st h = some hZ → s.heap.size + cells = X.1 + h.length → cells + (hZ.length - h.length) = mc → slots + (cs_n hZ - cs_n h) = ms → ms_lv X lsA maxL ls → cs_P X h H → va_S (ms_A X) s.heap H locs → W p l e R s m args below meth c H locs cells slots QQ (F0 m pc lsA (st.map (ms_v X)))
  | 0, _, _, _, _, _, _, _, _, _, q, _, _, _, _, _, _ => by cases q
  | w + 1, pc, ls, st, h, cells, slots, lsA, H, locs, q, hc, h1, h2, hl, hP, hS => by
    have ih := cs_sim hx hb hml hown hin hts hE hR1 hR2 k1 k2 hCm hC hmc hms hret w
    unfold cs_go at q
    split at q
    · cases q
    · rename_i i len e0
      obtain ⟨hd, hlen⟩ := cs_dec k1 k2 e0
      split at q
      · rename_i ls1 st1 hh1 e1
        have a := cs_st_le e1
        have b2 := cs_go_le hCm _ _ _ _ _ _ q
        obtain ⟨a1, a2⟩ := a
        obtain ⟨b1, b2⟩ := b2
        refine cs_ss hx hb hml hown hin hts hE hR1 hR2 hd hlen e1 hc ⟨by omega, by omega⟩ hl hP hS (fun lsA1 H1 locs1 p1 p2 p3 => ?_)
        exact ih _ _ _ _ _ _ _ _ _ q (by omega) (by omega) (by omega) p1 p2 p3
      · split at q
        · rename_i t _
          split at q
          · rename_i pc' e2
            split at q
            · rename_i l3
              subst l3
              exact lv_goto hx hb hd (cs_tg_v e2) (ih _ _ _ _ _ _ _ _ _ q hc h1 h2 hl hP hS)
            · cases q
          · cases q
        · rename_i cc t _
          split at q
          · rename_i pc' y x r e2 _
            split at q
            · rename_i l3
              subst l3
              split at q
              · split at q
                · rename_i hle
                  exact lv_icmp_ge hx hb hd (cs_tg_v e2) (fun _ => ih _ _ _ _ _ _ _ _ _ q hc h1 h2 hl hP hS) (fun w => absurd hle w)
                · rename_i hle
                  exact lv_icmp_ge hx hb hd (cs_tg_v e2) (fun w => absurd w hle) (fun _ => ih _ _ _ _ _ _ _ _ _ q hc h1 h2 hl hP hS)
              · split at q
                · rename_i hle
                  exact lv_icmp_ne hx hb hd (cs_tg_v e2) (fun w => absurd hle w) (fun _ => ih _ _ _ _ _ _ _ _ _ q hc h1 h2 hl hP hS)
                · rename_i hle
                  exact lv_icmp_ne hx hb hd (cs_tg_v e2) (fun _ => ih _ _ _ _ _ _ _ _ _ q hc h1 h2 hl hP hS) (fun w => absurd w hle)
              · cases q
            · cases q
          · cases q
        · rename_i k _
          split at q
          · rename_i g hg
            split at q
            · rename_i mm hm
              split at q
              · rename_i a as r hpop
                split at q
                · rename_i hv
                  obtain ⟨h4, l3⟩ := hv
                  subst l3
                  split at q
                  · rename_i h' hcall
                    have a := hCm _ _ _ _ hcall
                    have b2 := cs_go_le hCm _ _ _ _ _ _ q
                    obtain ⟨a1, a2⟩ := a
                    obtain ⟨b1, b2⟩ := b2
                    refine cs_inv hx hb hml hown hts hE hC hg hm hpop h4 hcall hd hc ⟨by omega, by omega⟩ hl.1 hP hS (fun H1 locs1 p2 p3 => ?_)
                    exact ih _ _ _ _ _ _ _ _ _ q (by omega) (by omega) (by omega) hl p2 p3
                  · cases q
                · cases q
              · cases q
            · cases q
          · cases q
        · split at q
          · rename_i hv
            obtain ⟨rfl, l3⟩ := hv
            subst l3
            injection q with q
            subst q
            rw [Nat.sub_self, Nat.add_zero] at h1 h2
            subst h1
            subst h2
            exact hret lsA H locs pc hd hP hS
          · cases q
        · cases q
end CSR
def cs_rm (d mc ms : Nat) : Room := { frames := d + 5, cells := mc, slots := ms, locals := 40 * (d + 5) }
theorem cs_k : ∀ g, g < 11 → cs_ck g = true := by
  intro g hg
  have : g = 0 ∨ g = 1 ∨ g = 2 ∨ g = 3 ∨ g = 4 ∨ g = 5 ∨ g = 6 ∨ g = 7 ∨ g = 8 ∨ g = 9 ∨ g = 10 := by omega
  rcases this with rfl | rfl | rfl | rfl | rfl | rfl | rfl | rfl | rfl | rfl | rfl
  · exact cs_k0
  · exact cs_k1
  · exact cs_k2
  · exact cs_k3
  · exact cs_k4
  · exact cs_k5
  · exact cs_k6
  · exact cs_k7
  · exact cs_k8
  · exact cs_k9
  · exact cs_k10
set_option maxHeartbeats 4000000 in
theorem cs_met (l : Launch) (X : ms_X) : ∀ (d g : Nat) (mm : cs_M) (as : List Value) (h h' : cs_H), cs_ms[g]? = some mm → cs_call d g as h = some h' → Met l mm.1 (cs_wm mm) (cs_rm d (h'.length - h.length) (cs_n h' - cs_n h)) (cs_Pc X as h) (cs_Qc X h') (h'.length - h.length) (cs_n h' - cs_n h) (ms_A X)
  | 0, _, _, _, _, _, _, q => by cases q
  | d + 1, g, mm, as, h, h', hg, q => by
    have ih := cs_met l X d
    have hwd := cs_wds hg
    have hw := hwd
    unfold cs_wd at hw
    simp only [Bool.and_eq_true, decide_eq_true_eq] at hw
    obtain ⟨⟨⟨⟨⟨⟨⟨⟨⟨w1, w2⟩, w3⟩, w4⟩, w5⟩, w6⟩, _⟩, _⟩, w7⟩, w8⟩ := hw
    unfold cs_call at q
    rw [hg] at q
    dsimp only at q
    split at q
    · rename_i hlen
      have g11 : g < 11 := (List.getElem?_eq_some_iff.mp hg).1
      have k1 := cs_k g g11
      unfold cs_ck at k1
      rw [List.getD_eq_getElem?_getD, hg] at k1
      have k2 : cs_lok (cs_cds.getD g []) = true := by
        cases ec : cs_cds[g]? with
        | none => rw [List.getD_eq_getElem?_getD, ec]; rfl
        | some l0 =>
          rw [List.getD_eq_getElem?_getD, ec]
          exact List.all_eq_true.mp cs_lok_ok _ (List.mem_of_getElem? ec)
      refine Met.ofW (cc := cs_by mm) (maxL := mm.2.1) (ret := none) w1 rfl ?_
      intro p e s m args below meth c s₁ B hml hv
      obtain ⟨rfl, hP, hsz, hE⟩ := hv
      have hx := B.exec
      have hb := B.bytes
      have hr := B.returns
      have hlocks := B.notSynchronized
      have hts0 := atoms_spec (ws := cs_wm mm) B.pre
      have hts : ∀ w ∈ ms_gw, w.before (as.map (ms_v X)).toArray s = true := fun w hw => hts0 w (List.mem_cons_of_mem _ hw)
      have hin : meth.name = "<init>" := (name_of_methodNamed B.named B.method).1.trans w4
      have hown : s.vm.findClass (mk_own mm.2.2.1) = some m.cls := by
        rw [show mk_own mm.2.2.1 = mm.1.cls by unfold mk_own; rw [List.getD_eq_getElem?_getD, w2]; rfl]
        exact findClass_of_methodNamed B.named
      have hl := lv_entry (as.map (ms_v X)) (n := mm.2.1) (by rw [ms_lgsl]; exact hlen)
      rw [lg_entry_eq]
      generalize (lg_sl (as.map (ms_v X)) ++ List.replicate (mm.2.1 - (lg_sl (as.map (ms_v X))).length) Slot.unset).toArray = ls at hl ⊢
      have hS : va_S (ms_A X) s.heap s.heap [] := va_S.rf
      refine cs_sim (X := X) (C := cs_call d) (mc := h'.length - h.length) (ms := cs_n h' - cs_n h) hx hb hml hown (Or.inl hin) hts hE (by show 5 ≤ d + 1 + 5; omega) (by show 200 ≤ 40 * (d + 1 + 5); omega) k1 k2 (cs_call_le d) ?_ (Nat.le_refl _) (Nat.le_refl _) (fun lsA H locs pc hd p1 s1 => ?_) 3000 0 _ [] h 0 0 ls s.heap [] q (by omega) (by omega) (by omega) (ms_lv_en hl) hP hS
      · intro g2 m2 as2 h2 h2' hg2 hc2
        exact ⟨_, rfl, rfl, Nat.le_refl _, by show 23 + 40 * (d + 5) ≤ 40 * (d + 1 + 5); omega, ih g2 m2 as2 h2 h2' hg2 hc2⟩
      · exact W.vret hx hb hr (fun t ht _ => ⟨rfl, by rw [ht]; exact p1, s1.F ht⟩) s1.2.2 hd
    · cases q
