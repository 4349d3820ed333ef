abbrev va_E.inr_ (a : Nat) (b : List Value) : va_E := .inr (a, b)
abbrev va_E.inl_ (a : ClassId) (b : vp_A) : va_E := .inl (a, b)
theorem mk_st9 : mt_st.all (fun q => decide (900 ≤ q.1)) = true := by decide +kernel
theorem ms_T200 {k : Nat} (h : (mm_T k).1 = 200) : ∃ q, mt_st.find? (fun q => q.1 == k) = some q ∧ (mm_T k).2 = q.2.2.2.length := by
  by_cases hk : k < 900
  · exfalso
    have h1 : (mm_T k).1 = (mt_Tl.getD k (999, 0)).1 := by unfold mm_T; rw [if_pos hk]
    have h2 : (mt_Tl.all fun q => decide (q.1 < 200)) = true := by decide +kernel
    by_cases hl : k < mt_Tl.length
    · have h3 := List.all_eq_true.mp h2 mt_Tl[k] (List.getElem_mem hl)
      rw [List.getD_eq_getElem?_getD, List.getElem?_eq_getElem hl] at h1
      rw [h] at h1
      have h4 : mt_Tl[k].1 < 200 := by simpa using h3
      have h5 : 200 = mt_Tl[k].1 := h1
      omega
    · rw [List.getD_eq_getElem?_getD, List.getElem?_eq_none (by omega), h] at h1
      exact absurd h1 (by decide)
  · unfold mm_T at h ⊢
    rw [if_neg hk] at h ⊢
    split at h
    · exact absurd h (by decide)
    · rename_i h9
      rw [if_neg h9]
      cases hq : mt_st.find? (fun q => q.1 == k) with
      | none => rw [hq] at h; exact absurd h (by decide)
      | some q => exact ⟨q, rfl, rfl⟩
theorem ms_T201 {k : Nat} (h : (mm_T k).1 = 201) : k = 999 := by
  by_cases hk : k < 900
  · exfalso
    have h1 : (mm_T k).1 = (mt_Tl.getD k (999, 0)).1 := by unfold mm_T; rw [if_pos hk]
    have h2 : (mt_Tl.all fun q => decide (q.1 < 200)) = true := by decide +kernel
    by_cases hl : k < mt_Tl.length
    · have h3 := List.all_eq_true.mp h2 mt_Tl[k] (List.getElem_mem hl)
      rw [List.getD_eq_getElem?_getD, List.getElem?_eq_getElem hl] at h1
      rw [h] at h1
      have h4 : mt_Tl[k].1 < 200 := by simpa using h3
      have h5 : 201 = mt_Tl[k].1 := h1
      omega
    · rw [List.getD_eq_getElem?_getD, List.getElem?_eq_none (by omega), h] at h1
      exact absurd h1 (by decide)
  · unfold mm_T at h
    rw [if_neg hk] at h
    split at h
    · assumption
    · split at h
      · exact absurd h (by simp)
      · exact absurd h (by decide)
theorem ms_words {g : Nat} {m : mt_M} (hg : mt_ms[g]? = some m) (h : g < 221) : mk_words m = true := by
  have h0 : mt_ms = mt_ms_0 ++ mt_ms_1 ++ mt_ms_2 ++ mt_ms_3 ++ mt_ms_4 ++ mt_ms_5 := rfl
  have h1 : m ∈ mt_ms_0 ++ mt_ms_1 ++ mt_ms_2 ++ mt_ms_3 ++ mt_ms_4 ++ mt_ms_5.take 21 := by
    have hl : (mt_ms_0 ++ mt_ms_1 ++ mt_ms_2 ++ mt_ms_3 ++ mt_ms_4).length = 200 := by decide +kernel
    rw [h0] at hg
    by_cases hs : g < 200
    · rw [List.getElem?_append_left (by omega)] at hg
      exact List.mem_append_left _ (List.mem_of_getElem? hg)
    · rw [List.getElem?_append_right (by omega), hl] at hg
      refine List.mem_append_right _ (List.mem_of_getElem? (i := g - 200) ?_)
      rw [List.getElem?_take_of_lt (by omega)]
      exact hg
  simp only [List.mem_append] at h1
  rcases h1 with ((((h1 | h1) | h1) | h1) | h1) | h1
  · exact List.all_eq_true.mp mk_words_0 m h1
  · exact List.all_eq_true.mp mk_words_1 m h1
  · exact List.all_eq_true.mp mk_words_2 m h1
  · exact List.all_eq_true.mp mk_words_3 m h1
  · exact List.all_eq_true.mp mk_words_4 m h1
  · exact List.all_eq_true.mp mk_words_5 m h1
theorem mk_ownn : (List.range 11).all (fun k => match mt_cls[k]?, mt_own[k]? with | some a, some b => decide (a.1 = b) | _, _ => false) = true := by decide +kernel
def mk_acw (q : Nat × Nat × Nat) : Bool := mk_w (93 + q.2.2) (.methodLink (mk_own q.1) q.2.1 arraycopyName)
set_option maxRecDepth 100000 in
theorem mk_acw_ok : mt_ac.all mk_acw = true := by decide +kernel
set_option maxRecDepth 100000 in
theorem mk_acn : (lw_tbl.contains (.native arraycopyName) && goodWord (.native arraycopyName) && lw_tbl.contains (.static arraycopyName) && goodWord (.static arraycopyName) && lw_tbl.contains (.initialized "java/lang/System") && goodWord (.initialized "java/lang/System")) = true := by decide +kernel
theorem ms_acw {oo k q : Nat} (h : mk_look mt_ac oo k = some q) : Jvm.Cond.methodLink (mk_own oo) k arraycopyName ∈ ms_gw ∧ Jvm.Cond.native arraycopyName ∈ ms_gw ∧ Jvm.Cond.static arraycopyName ∈ ms_gw ∧ Jvm.Cond.initialized "java/lang/System" ∈ ms_gw := by
  have h1 := mk_acn
  simp only [Bool.and_eq_true] at h1
  obtain ⟨⟨⟨⟨⟨a1, a2⟩, a3⟩, a4⟩, a5⟩, a6⟩ := h1
  refine ⟨mk_w_in (List.all_eq_true.mp mk_acw_ok _ (mk_look_in h)), List.mem_filter.mpr ⟨List.contains_iff_mem.mp a1, a2⟩, List.mem_filter.mpr ⟨List.contains_iff_mem.mp a3, a4⟩, List.mem_filter.mpr ⟨List.contains_iff_mem.mp a5, a6⟩⟩
theorem ms_codeIn {mm : mt_M} (h : (match lw_tbl[mm.2.2.2.2.2.2.2.getD 0 0]? with
    | some (.code y _ n r) => decide (y = mm.1) && decide (n = mm.2.2.1) && decide (r = mm.2.2.2.1)
    | _ => false) = true) : Jvm.Cond.code mm.1 (mk_by mm) mm.2.2.1 mm.2.2.2.1 ∈ ms_gw := by
  unfold mk_by
  split at h
  · rename_i y b n r hq
    simp only [Bool.and_eq_true, decide_eq_true_eq] at h
    obtain ⟨⟨rfl, rfl⟩, rfl⟩ := h
    rw [hq]
    exact List.mem_filter.mpr ⟨List.mem_of_getElem? hq, rfl⟩
  · cases h
theorem ms_goodwm {mm : mt_M} (h : Jvm.Cond.code mm.1 (mk_by mm) mm.2.2.1 mm.2.2.2.1 ∈ ms_gw) : GoodIn ms_gw (ms_wm mm) := by
  intro w hw
  rcases List.mem_cons.mp hw with rfl | hw
  · exact ⟨h, (ms_gw_good _ h).2⟩
  · exact ⟨hw, (ms_gw_good _ hw).2⟩
theorem ms_len {n : Nat} {as : List Value} (h : as.length ≤ n) : (as.map fun v => v.category).sum ≤ 2 * n := by
  induction as generalizing n with
  | nil => simp
  | cons v t ih =>
    cases n with
    | zero => simp at h
    | succ n =>
      have h1 := ih (n := n) (by simpa using h)
      have h2 : v.category ≤ 2 := by rcases lv_cat v with q | q <;> omega
      simp only [List.map_cons, List.sum_cons]
      omega
theorem ms_len' {n : Nat} {as : List Value} (X : ms_X) (h : as.length ≤ n) : ((as.map (ms_v X)).map fun v => v.category).sum ≤ 2 * n := ms_len (by simpa using h)
section MSC
variable {p : Program} {l : Launch} {e : Env} {R : Room} {s : State} {m : MethodId} {args : Array Value} {below : List Frame} {meth : Method} {c : Code} {cells slots : Nat} {QQ : State → Prop}
theorem ms_link {oo k g q : Nat} {mm : mt_M} (hq : mk_look mt_ml oo k = some (g, q)) (hg : mt_ms[g]? = some mm) : g < 221 ∧ Jvm.Cond.methodLink (mk_own oo) k mm.1 ∈ ms_gw := by
  have h1 := List.all_eq_true.mp mk_mlw_ok _ (mk_look_in hq)
  unfold mk_mlw at h1
  dsimp only at h1
  rw [hg] at h1
  simp only [Bool.and_eq_true, decide_eq_true_eq] at h1
  exact ⟨h1.1, mk_w_in h1.2⟩
theorem ms_invS {X : ms_X} {z : mm_S} {C : mm_C} {b : ByteArray} {oo maxL : Nat} {I : mm_I} {J : mm_J} {H : Heap} {locs : List Loc} {pc k : Nat} {lsA : Array Slot} {q : Nat × Nat} {mm : mt_M} {bs r : List Value} {Q : Option Value → mm_I → mm_J → Prop}
    (hx : p.tables.exec = Jvm.exec) (hb : c.code = b) (hml : c.maxLocals = maxL) (hown : s.vm.findClass (mk_own oo) = some m.cls) (hts : ∀ w ∈ ms_gw, w.before args s = true) (hE : ms_E X z s) (hcs : cells ≤ R.cells ∧ slots ≤ R.slots) (hC : ms_Cs l R X z C)
    (hq : mk_look mt_ml oo k = some q) (hg : mt_ms[q.1]? = some mm) (hst : mm.2.2.2.2.2.1 = true) (hbs : bs.length = mm.2.2.2.2.2.2.1) (h4 : r.length ≤ 4) (hS : va_S (ms_A X) s.heap H locs) (hP : ms_P X I J H) (hd : decode b pc = .ok (.invokestatic k, 3)) (hcall : C q.1 bs.reverse I J Q)
    (kk : ∀ (v : Option Value) (I2 : mm_I) (J2 : mm_J) (H1 : Heap) (locs1 : List Loc), Q v I2 J2 → ms_P X I2 J2 H1 → va_S (ms_A X) s.heap H1 locs1 → W p l e R s m args below meth c H1 locs1 cells slots QQ (F0 m (pc + 3) lsA ((v.map (ms_v X)).toList ++ r.map (ms_v X)))) (hsz : lsA.size = maxL) :
    W p l e R s m args below meth c H locs cells slots QQ (F0 m pc lsA ((bs ++ r).map (ms_v X))) := by
  obtain ⟨h221, hlink⟩ := ms_link hq hg
  have hw : mk_words mm = true := ms_words hg h221
  obtain ⟨rm, r1, r2, r3, r4, hM⟩ := hC q.1 mm _ I J Q hg hw hcall
  unfold mk_words at hw
  simp only [Bool.and_eq_true, decide_eq_true_eq] at hw
  obtain ⟨⟨⟨⟨w1, w2⟩, w3⟩, w4⟩, ⟨⟨w5, w6⟩, w7⟩, w8⟩ := hw
  rw [if_pos hst] at w8
  have hcodeIn := ms_codeIn w5
  have hZk : ∀ U : State, U.heap = H → s.WarmedH U.vm → ms_Z X z U := fun U hU hW => ms_Z_kept hW.alike (fun a h1 h2 => by rw [hU]; exact hS.2.1 a h1 h2) hE.2.2 hE.2.1
  have hr := va_runS (As := bs.reverse.map (ms_v X)) (rest := r.map (ms_v X)) (g := F0 m pc lsA ((bs ++ r).map (ms_v X))) (n := mm.2.2.2.2.2.2.1) (bytes := mk_by mm) (maxL := mm.2.2.1) (ret := mm.2.2.2.1) (locs := locs) (below := below) (meth := meth) (e := e) ⟨hx, hb, hml, hown, hts⟩ hM ⟨callB_of mm.2.2.2.2.2.2.1 hts (ms_goodwm hcodeIn) rfl r1 r2 (hts _ (mk_w_in w6)) (hts _ hlink) ⟨w3.1, w3.2, w4⟩ ⟨r3, by omega⟩, hts _ (mk_w_in w8)⟩
    ⟨ms_blind X z _ I J, fun U hU hW => ⟨rfl, by rw [hU]; exact hP, va_K.moved hW.alike hE.1, hZk U hU hW, by rw [hU]; exact Nat.le_trans hE.2.2 hS.1⟩⟩ rfl (by simp [hbs]) hsz (by simp) (by
      have := ms_len' X h4
      show 2 * 0 + _ ≤ 8
      omega) hd (by simpa using hcs)
  exact ms_callK hr hS kk
theorem ms_invV {X : ms_X} {z : mm_S} {C : mm_C} {b : ByteArray} {oo maxL : Nat} {I : mm_I} {J : mm_J} {H : Heap} {locs : List Loc} {pc k : Nat} {lsA : Array Slot} {q : Nat × Nat} {mm : mt_M} {bs r : List Value} {Q : Option Value → mm_I → mm_J → Prop}
    (hx : p.tables.exec = Jvm.exec) (hb : c.code = b) (hml : c.maxLocals = maxL) (hown : s.vm.findClass (mk_own oo) = some m.cls) (hts : ∀ w ∈ ms_gw, w.before args s = true) (hE : ms_E X z s) (hcs : cells ≤ R.cells ∧ slots ≤ R.slots) (hC : ms_Cs l R X z C)
    (hq : mk_look mt_ml oo k = some q) (hg : mt_ms[q.1]? = some mm) (hst : mm.2.2.2.2.2.1 = false) (h11 : mm.2.2.2.2.1 < 11) (hbs : bs.length = mm.2.2.2.2.2.2.1 + 1) (hhd : mm_hd bs.reverse mm.2.2.2.2.1) (h4 : r.length ≤ 4) (hS : va_S (ms_A X) s.heap H locs) (hP : ms_P X I J H) (hd : decode b pc = .ok (.invokevirtual k, 3)) (hcall : C q.1 bs.reverse I J Q)
    (kk : ∀ (v : Option Value) (I2 : mm_I) (J2 : mm_J) (H1 : Heap) (locs1 : List Loc), Q v I2 J2 → ms_P X I2 J2 H1 → va_S (ms_A X) s.heap H1 locs1 → W p l e R s m args below meth c H1 locs1 cells slots QQ (F0 m (pc + 3) lsA ((v.map (ms_v X)).toList ++ r.map (ms_v X)))) (hsz : lsA.size = maxL) :
    W p l e R s m args below meth c H locs cells slots QQ (F0 m pc lsA ((bs ++ r).map (ms_v X))) := by
  obtain ⟨h221, hlink⟩ := ms_link hq hg
  have hw : mk_words mm = true := ms_words hg h221
  obtain ⟨rm, r1, r2, r3, r4, hM⟩ := hC q.1 mm _ I J Q hg hw hcall
  unfold mk_words at hw
  simp only [Bool.and_eq_true, decide_eq_true_eq] at hw
  obtain ⟨⟨⟨⟨w1, w2⟩, w3⟩, w4⟩, ⟨⟨w5, w6⟩, w7⟩, w8⟩ := hw
  rw [if_neg (by rw [hst]; decide), Bool.and_eq_true] at w8
  have hcodeIn := ms_codeIn w5
  cases hrev : bs.reverse with
  | nil => rw [hrev] at hhd; exact hhd.elim
  | cons v as =>
    rw [hrev] at hhd hM
    have ebs : bs = as.reverse ++ [v] := by
      have := congrArg List.reverse hrev
      simpa using this
    cases v with
    | ref kk0 =>
      have hT : (mm_T kk0).1 = mm.2.2.2.2.1 := hhd
      have hk : kk0 < mm_N := ms_T_lt (by omega)
      obtain ⟨cq, hcq⟩ : ∃ cq, mt_cls[mm.2.2.2.2.1]? = some cq := ⟨_, List.getElem?_eq_getElem (by rw [show mt_cls.length = 11 from rfl]; exact h11)⟩
      have hname : cq.1 = mm.1.cls := by
        have h5 := List.all_eq_true.mp mk_ownn mm.2.2.2.2.1 (List.mem_range.mpr h11)
        rw [hcq, w2] at h5
        simpa using h5
      have he : (ms_ws X I J)[kk0]? = some (X.1 + kk0, .inr (mm.2.2.2.2.1, ms_fs X I J kk0)) := by
        rw [ms_ws_at hk]
        unfold ms_ce
        rw [if_pos (by omega), hT]
      have hrecv := va_recv (D := X.2.1) hE.1 hP (ms_cl_at hcq) he
      dsimp only at hrecv
      rw [hname] at hrecv
      have hlen : as.length = mm.2.2.2.2.2.2.1 := by
        rw [ebs] at hbs
        simpa using hbs
      have est : (bs ++ r).map (ms_v X) = (as.map (ms_v X)).reverse ++ .ref (X.1 + kk0) :: r.map (ms_v X) := by
        rw [ebs]
        simp [ms_v, ms_r_lt hk]
      rw [est]
      have hZk : ∀ U : State, U.heap = H → s.WarmedH U.vm → ms_Z X z U := fun U hU hW => ms_Z_kept hW.alike (fun a h1 h2 => by rw [hU]; exact hS.2.1 a h1 h2) hE.2.2 hE.2.1
      have hr := va_runV (As := as.map (ms_v X)) (rest := r.map (ms_v X)) (g := F0 m pc lsA ((as.map (ms_v X)).reverse ++ .ref (X.1 + kk0) :: r.map (ms_v X))) (n := mm.2.2.2.2.2.2.1) (bytes := mk_by mm) (maxL := mm.2.2.1) (ret := mm.2.2.2.1) (locs := locs) (below := below) (meth := meth) (e := e) (C := mm.1.cls) ⟨hx, hb, hml, hown, hts⟩ hM ⟨callB_of mm.2.2.2.2.2.2.1 hts (ms_goodwm hcodeIn) rfl r1 r2 (hts _ (mk_w_in w6)) (hts _ hlink) ⟨w3.1, w3.2, w4⟩ ⟨r3, by omega⟩, hts _ (mk_w_in w8.1), hts _ (mk_w_in w8.2)⟩
        ⟨ms_blind X z _ I J, hrecv, fun U hU hW => ⟨by simp [ms_v, ms_r_lt hk], by rw [hU]; exact hP, va_K.moved hW.alike hE.1, hZk U hU hW, by rw [hU]; exact Nat.le_trans hE.2.2 hS.1⟩⟩ rfl (by simp [hlen]) hsz rfl (by
          have := ms_len' X h4
          show 2 * 0 + _ ≤ 8
          omega) hd (by simpa using hcs)
      exact ms_callK hr hS kk
    | _ => exact hhd.elim
end MSC
