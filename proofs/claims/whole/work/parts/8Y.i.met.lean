/-! a run of a constructor is the machine's -/
def cs_le (h h' : cs_H) : Prop := h.length ≤ h'.length ∧ cs_n h ≤ cs_n h'
theorem cs_le_rf {h : cs_H} : cs_le h h := ⟨Nat.le_refl _, Nat.le_refl _⟩
theorem cs_le_tr {h h' h'' : cs_H} (a : cs_le h h') (b : cs_le h' h'') : cs_le h h'' := ⟨Nat.le_trans a.1 b.1, Nat.le_trans a.2 b.2⟩
theorem cs_le_app {h l : cs_H} : cs_le h (h ++ l) := by
  refine ⟨by rw [List.length_append]; omega, ?_⟩
  unfold cs_n
  rw [List.map_append, List.sum_append]
  omega
theorem cs_le_set {h : cs_H} {k : Nat} {c c' : Nat × List Value} (e : h[k]? = some c) (hl : c'.2.length = c.2.length) : cs_le h (h.set k c') := ⟨by rw [List.length_set]; exact Nat.le_refl _, by rw [cs_n_set e hl]; exact Nat.le_refl _⟩
set_option maxHeartbeats 16000000 in
theorem cs_st_le {oo maxL : Nat} {i : Instr} {ls ls' : mm_L} {st st' : List Value} {h h' : cs_H} (hst : cs_st oo maxL i ls st h = some (ls', st', h')) : cs_le h h' := by
  cases i
  case multianewarray k d =>
    have d2 : d = 2 := by
      cases d with
      | zero => cases hst
      | succ d =>
        cases d with
        | zero => cases hst
        | succ d =>
          cases d with
          | zero => rfl
          | succ d => cases hst
    subst d2
    simp only [cs_st] at hst
    split at hst
    · split at hst
      · obtain ⟨-, -, rfl⟩ := cs_inj hst
        exact cs_le_app
      · cases hst
    · cases hst
  case invokestatic k =>
    simp only [cs_st] at hst
    split at hst
    · split at hst
      · rename_i cc e2
        split at hst
        · rename_i hv
          obtain ⟨-, -, rfl⟩ := cs_inj hst
          exact cs_le_set e2 (by show (cc.2.take 11 ++ cc.2.take 11).length = _; rw [List.length_append, List.length_take, hv.2.2.2.1]; decide)
        · cases hst
      · cases hst
    · cases hst
  case putfield k =>
    simp only [cs_st] at hst
    split at hst
    · split at hst
      · rename_i cc e2
        split at hst
        · obtain ⟨-, -, rfl⟩ := cs_inj hst
          exact cs_le_set e2 (List.length_set ..)
        · cases hst
      · cases hst
    · cases hst
  case iastore =>
    simp only [cs_st] at hst
    split at hst
    · split at hst
      · rename_i cc e2
        split at hst
        · obtain ⟨-, -, rfl⟩ := cs_inj hst
          exact cs_le_set e2 (List.length_set ..)
        · cases hst
      · cases hst
    · cases hst
  case lastore =>
    simp only [cs_st] at hst
    split at hst
    · split at hst
      · rename_i cc e2
        split at hst
        · obtain ⟨-, -, rfl⟩ := cs_inj hst
          exact cs_le_set e2 (List.length_set ..)
        · cases hst
      · cases hst
    · cases hst
  case aastore =>
    simp only [cs_st] at hst
    split at hst
    · split at hst
      · rename_i cc c2 e2 e3
        split at hst
        · obtain ⟨-, -, rfl⟩ := cs_inj hst
          exact cs_le_set e2 (List.length_set ..)
        · cases hst
      · cases hst
    · cases hst
  all_goals first
    | (cases hst; done)
    | (obtain ⟨-, -, rfl⟩ := cs_inj hst; exact cs_le_rf)
    | (simp only [cs_st] at hst
       repeat' split at hst
       all_goals first
         | (cases hst; done)
         | (obtain ⟨-, -, rfl⟩ := cs_inj hst; first | exact cs_le_rf | exact cs_le_app))
def cs_Cm (C : Nat → List Value → cs_H → Option cs_H) : Prop := ∀ g as h h', C g as h = some h' → cs_le h h'
set_option maxHeartbeats 4000000 in
theorem cs_go_le {C : Nat → List Value → cs_H → Option cs_H} (hC : cs_Cm C) {oo maxL : Nat} {cd : List (Nat × Instr × Nat)} : ∀ (w pc : Nat) (ls : mm_L) (st : List Value) (h h' : cs_H), cs_go C oo maxL cd w pc ls st h = some h' → cs_le h h'
  | 0, _, _, _, _, _, q => by cases q
  | w + 1, pc, ls, st, h, h', q => by
    have ih := cs_go_le hC (oo := oo) (maxL := maxL) (cd := cd) w
    unfold cs_go at q
    split at q
    · cases q
    · rename_i i len _
      split at q
      · rename_i ls1 st1 h1 e1
        exact cs_le_tr (cs_st_le e1) (ih _ _ _ _ _ q)
      · split at q
        · split at q
          · split at q
            · exact ih _ _ _ _ _ q
            · cases q
          · cases q
        · split at q
          · split at q
            · split at q
              · split at q
                · exact ih _ _ _ _ _ q
                · exact ih _ _ _ _ _ q
              · split at q
                · exact ih _ _ _ _ _ q
                · exact ih _ _ _ _ _ q
              · cases q
            · cases q
          · cases q
        · split at q
          · split at q
            · split at q
              · split at q
                · split at q
                  · rename_i h2 e2
                    exact cs_le_tr (hC _ _ _ _ e2) (ih _ _ _ _ _ q)
                  · cases q
                · cases q
              · cases q
            · cases q
          · cases q
        · split at q
          · cases q
            exact cs_le_rf
          · cases q
        · cases q
theorem cs_call_le : ∀ d, cs_Cm (cs_call d)
  | 0, _, _, _, _, q => by cases q
  | d + 1, g, as, h, h', q => by
    unfold cs_call at q
    split at q
    · split at q
      · exact cs_go_le (cs_call_le d) _ _ _ _ _ _ q
      · cases q
    · cases q
theorem cs_pop_v : ∀ (n : Nat) (st as0 as r : List Value), cs_pop n st as0 = some (as, r) → ∃ bs, st = bs ++ r ∧ bs.length = n ∧ as = bs.reverse ++ as0
  | 0, st, as0, as, r, q => by
    cases q
    exact ⟨[], rfl, rfl, rfl⟩
  | n + 1, [], as0, as, r, q => by cases q
  | n + 1, v :: st, as0, as, r, q => by
    obtain ⟨bs, e1, e2, e3⟩ := cs_pop_v n st (v :: as0) as r q
    refine ⟨v :: bs, by rw [e1]; rfl, by rw [List.length_cons, e2], ?_⟩
    rw [e3, List.reverse_cons, List.append_assoc]
    rfl
def cs_wm (m : cs_M) : List Jvm.Cond := .code m.1 (cs_by m) m.2.1 none :: ms_gw
def cs_Pc (X : ms_X) (as : List Value) (h : cs_H) : Array Value → State → Prop := fun v U => v = (as.map (ms_v X)).toArray ∧ cs_P X h U.heap ∧ U.heap.size = X.1 + h.length ∧ cs_E X U
def cs_Qc (X : ms_X) (h' : cs_H) : Array Value → State → Outcome → State → Prop := fun _ st oc t => oc = .returned none ∧ cs_P X h' t.heap ∧ va_F (ms_A X) st t
def cs_Cs (l : Launch) (R : Room) (X : ms_X) (C : Nat → List Value → cs_H → Option cs_H) : Prop := ∀ g m as h h', cs_ms[g]? = some m → C g as h = some h' → ∃ rm : Room, rm.cells = h'.length - h.length ∧ rm.slots = cs_n h' - cs_n h ∧ rm.frames + 1 ≤ R.frames ∧ 23 + rm.locals ≤ R.locals ∧ Met l m.1 (cs_wm m) rm (cs_Pc X as h) (cs_Qc X h') (h'.length - h.length) (cs_n h' - cs_n h) (ms_A X)
theorem cs_blind (X : ms_X) (as : List Value) (h : cs_H) : FrameBlind (cs_Pc X as h) := by
  intro a U g mk q
  exact ⟨q.1, q.2.1, q.2.2.1, cs_E_same (u := U) (U := U.calling g mk a) rfl rfl q.2.2.2⟩
theorem cs_wds {g : Nat} {m : cs_M} (h : cs_ms[g]? = some m) : cs_wd m = true := List.all_eq_true.mp cs_wd_ok m (List.mem_of_getElem? h)
theorem cs_cin {m : cs_M} (h : cs_wd m = true) : Jvm.Cond.code m.1 (cs_by m) m.2.1 none ∈ ms_gw := by
  unfold cs_wd at h
  simp only [Bool.and_eq_true] at h
  obtain ⟨⟨⟨⟨_, h1⟩, h2⟩, _⟩, _⟩ := h
  unfold cs_by
  split at h1
  · rename_i y b n r hq
    simp only [Bool.and_eq_true, decide_eq_true_eq] at h1
    obtain ⟨⟨rfl, rfl⟩, rfl⟩ := h1
    rw [hq] at h2
    exact List.mem_filter.mpr ⟨List.mem_of_getElem? hq, h2⟩
  · cases h1
theorem cs_wgood {m : cs_M} (h : Jvm.Cond.code m.1 (cs_by m) m.2.1 none ∈ ms_gw) : GoodIn ms_gw (cs_wm m) := by
  intro w hw
  rcases List.mem_cons.mp hw with rfl | hw
  · exact ⟨h, (ms_gw_good _ h).2⟩
  · exact ⟨hw, (ms_gw_good _ hw).2⟩
section CSM
variable {p : Program} {l : Launch} {e : Env} {R : Room} {s : State} {m : MethodId} {args : Array Value} {below : List Frame} {meth : Method} {c : Code} {cells slots : Nat} {QQ : State → Prop}
theorem cs_callK {X : ms_X} {h' : cs_H} {H : Heap} {locs : List Loc} {pc mc ms : Nat} {ls : Array Slot} {st0 rest : List Value} {a : Array Value} (hr : va_Run p l e R s m args below meth c H locs cells slots mc ms (F0 m pc ls st0) rest (cs_Qc X h' a) (ms_A X)) (hS : va_S (ms_A X) s.heap H locs)
    (kk : ∀ (H1 : Heap) (locs1 : List Loc), cs_P X h' H1 → va_S (ms_A X) s.heap H1 locs1 → W p l e R s m args below meth c H1 locs1 (cells + mc) (slots + ms) QQ (F0 m (pc + 3) ls rest)) : W p l e R s m args below meth c H locs cells slots QQ (F0 m pc ls st0) := by
  intro T hT Xs
  obtain ⟨v, st₀, t, T', L, h0, X', hL, e1, e2, ⟨hv, hb, hz, hk⟩, st⟩ := hr T hT Xs
  cases hv
  rw [h0] at hz hk
  obtain ⟨t2, a1, b1⟩ := kk T'.heap (locs ++ L) (by rw [e1]; exact hb)
    ⟨Nat.le_trans hS.1 (by rw [e1]; exact hz), fun q h1 h2 => by rw [e1, hk q (Nat.lt_of_lt_of_le h1 hS.1) h2]; exact hS.2.1 q h1 h2, fun q hq => by
      rcases List.mem_append.mp hq with h | h
      · exact hS.2.2 q h
      · exact hL q h⟩ T' rfl X'
  exact ⟨t2, st t2 a1, b1⟩
/-- a constructor is called -/
theorem cs_inv {X : ms_X} {C : Nat → List Value → cs_H → Option cs_H} {b : ByteArray} {oo maxL pc k g a : Nat} {mm : cs_M} {as r st : List Value} {h h' : cs_H} {lsA : Array Slot} {H : Heap} {locs : List Loc} (hx : p.tables.exec = Jvm.exec) (hb : c.code = b) (hml : c.maxLocals = maxL) (hown : s.vm.findClass (mk_own oo) = some m.cls) (hts : ∀ w ∈ ms_gw, w.before args s = true) (hE : cs_E X s) (hC : cs_Cs l R X C) (hg : (match mk_look cs_il oo k with | some q => some q.1 | none => (match mk_look cs_in oo k with | some q => some q.1 | none => none)) = some g) (hm : cs_ms[g]? = some mm) (hpop : cs_pop (mm.2.2.2.1 + 1) st [] = some (.ref a :: as, r)) (h4 : r.length ≤ 4) (hcall : C g (.ref a :: as) h = some h') (hd : decode b pc = .ok (.invokespecial k, 3)) (hc : s.heap.size + cells = X.1 + h.length) (hro : cells + (h'.length - h.length) ≤ R.cells ∧ slots + (cs_n h' - cs_n h) ≤ R.slots) (hsz : lsA.size = maxL) (hP : cs_P X h H) (hS : va_S (ms_A X) s.heap H locs)
    (kk : ∀ (H1 : Heap) (locs1 : List Loc), cs_P X h' H1 → va_S (ms_A X) s.heap H1 locs1 → W p l e R s m args below meth c H1 locs1 (cells + (h'.length - h.length)) (slots + (cs_n h' - cs_n h)) QQ (F0 m (pc + 3) lsA (r.map (ms_v X)))) : W p l e R s m args below meth c H locs cells slots QQ (F0 m pc lsA (st.map (ms_v X))) := by
  refine cs_size hP hS hE.2.2.2 hc (fun hhs => ?_)
  obtain ⟨bs, e1, e2, e3⟩ := cs_pop_v _ _ _ _ _ hpop
  rw [List.append_nil] at e3
  have ebs : bs = as.reverse ++ [.ref a] := by
    have := congrArg List.reverse e3
    simpa using this.symm
  have hlen : as.length = mm.2.2.2.1 := by
    rw [ebs] at e2
    simpa using e2
  have est : st.map (ms_v X) = (as.map (ms_v X)).reverse ++ .ref (ms_r X a) :: r.map (ms_v X) := by
    rw [e1, ebs]
    simp [ms_v]
  rw [est]
  have hw := cs_wds hm
  have hcin := cs_cin hw
  obtain ⟨rm, r1, r2, r3, r4, hM⟩ := hC g mm _ h h' hm hcall
  unfold cs_wd at hw
  simp only [Bool.and_eq_true, decide_eq_true_eq] at hw
  obtain ⟨⟨⟨⟨⟨⟨⟨⟨⟨w1, w2⟩, w3⟩, w4⟩, w5⟩, w6⟩, _⟩, _⟩, w7⟩, w8⟩ := hw
  have hpre : PreS s H (cs_Pc X (.ref a :: as) h) (.ref (ms_r X a) :: as.map (ms_v X)) := ⟨cs_blind X _ h, fun U hU hW => ⟨rfl, by rw [hU]; exact hP, by rw [hU]; exact hhs, cs_E_call hE hS hU hW⟩⟩
  have hrl : 2 * (F0 m pc lsA ((as.map (ms_v X)).reverse ++ .ref (ms_r X a) :: r.map (ms_v X))).monitorRoom + ((r.map (ms_v X)).map fun v => v.category).sum ≤ 8 := by
    have := ms_len' X h4
    show 2 * 0 + _ ≤ 8
    omega
  cases hq : mk_look cs_il oo k with
  | some q =>
    rw [hq] at hg
    have eg : q.1 = g := Option.some.inj hg
    have wl := List.all_eq_true.mp cs_ilw_ok _ (mk_look_in hq)
    unfold cs_ilw at wl
    dsimp only at wl
    rw [eg, hm] at wl
    have hr := va_runI (H := H) (As := as.map (ms_v X)) (rest := r.map (ms_v X)) (g := F0 m pc lsA ((as.map (ms_v X)).reverse ++ .ref (ms_r X a) :: r.map (ms_v X))) (n := mm.2.2.2.1) (bytes := cs_by mm) (maxL := mm.2.1) (locs := locs) (below := below) (meth := meth) (e := e) ⟨hx, hb, hml, hown, hts⟩ hM (cwI mm.2.2.2.1 hts (cs_wgood hcin) rfl r1 r2 (hts _ (mk_w_in w8)) (hts _ (mk_w_in wl)) (hts _ (mk_w_in w7)) w4 ⟨w3.1, w3.2, w5⟩ ⟨r3, by omega⟩) hpre rfl (by simp [hlen]) hsz rfl hrl hd hro
    exact cs_callK hr hS kk
  | none =>
    rw [hq] at hg
    dsimp only at hg
    cases hq2 : mk_look cs_in oo k with
    | none => rw [hq2] at hg; cases hg
    | some q =>
      rw [hq2] at hg
      have eg : q.1 = g := Option.some.inj hg
      have hnest := hE.2.1.2.2.2.1 _ (mk_look_in hq2) mm (by show cs_ms[q.1]? = some mm; rw [eg]; exact hm)
      have hr := va_runIN (H := H) (host := "RowGrader") (As := as.map (ms_v X)) (rest := r.map (ms_v X)) (g := F0 m pc lsA ((as.map (ms_v X)).reverse ++ .ref (ms_r X a) :: r.map (ms_v X))) (n := mm.2.2.2.1) (bytes := cs_by mm) (maxL := mm.2.1) (locs := locs) (below := below) (meth := meth) (e := e) ⟨hx, hb, hml, hown, hts⟩ hM ⟨va_cnB mm.2.2.2.1 hts (cs_wgood hcin) rfl r1 r2 hnest (hts _ (mk_w_in w8)) ⟨w3.1, w3.2, w5⟩ ⟨r3, by omega⟩, w4, hts _ (mk_w_in w7)⟩ hpre rfl (by simp [hlen]) hsz rfl hrl hd hro
      exact cs_callK hr hS kk
end CSM
