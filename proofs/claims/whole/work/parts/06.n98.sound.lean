/-! ===== methods ===== -/
theorem mk_zip {A B : Type} {l : List A} {r : List B} {g : Nat} {a : A} {b : B} (ha : l[g]? = some a) (hb : r[g]? = some b) : (a, b) ∈ l.zip r := by
  refine List.mem_of_getElem? (i := g) ?_
  rw [List.getElem?_zip_eq_some]
  exact ⟨ha, hb⟩
theorem mk_code_ok {g : Nat} {m : mt_M} {bs : List mm_B} (hm : mt_ms[g]? = some m) (hb : mc_all[g]? = some bs) : mk_meth m bs = true := by
  have e1 : mt_ms = mt_ms_0 ++ (mt_ms_1 ++ (mt_ms_2 ++ (mt_ms_3 ++ (mt_ms_4 ++ mt_ms_5)))) := by simp [mt_ms]
  have e2 : mc_all = mc_l0 ++ (mc_l1 ++ (mc_l2 ++ (mc_l3 ++ (mc_l4 ++ mc_l5)))) := by simp [mc_all]
  rw [e1] at hm
  rw [e2] at hb
  have step : ∀ {l r : List mt_M} {u v : List (List mm_B)} {g : Nat}, l.length = 40 → u.length = 40 → (l ++ r)[g]? = some m → (u ++ v)[g]? = some bs → (l[g]? = some m ∧ u[g]? = some bs) ∨ (r[g - 40]? = some m ∧ v[g - 40]? = some bs) := by
    intro l r u v g hl hu h1 h2
    by_cases h : g < 40
    · rw [List.getElem?_append_left (by omega)] at h1 h2
      exact Or.inl ⟨h1, h2⟩
    · rw [List.getElem?_append_right (by omega)] at h1 h2
      rw [hl] at h1
      rw [hu] at h2
      exact Or.inr ⟨h1, h2⟩
  rcases step rfl rfl hm hb with ⟨a, b⟩ | ⟨hm, hb⟩
  · exact mk_code_0 _ (mk_zip a b)
  rcases step rfl rfl hm hb with ⟨a, b⟩ | ⟨hm, hb⟩
  · exact mk_code_1 _ (mk_zip a b)
  rcases step rfl rfl hm hb with ⟨a, b⟩ | ⟨hm, hb⟩
  · exact mk_code_2 _ (mk_zip a b)
  rcases step rfl rfl hm hb with ⟨a, b⟩ | ⟨hm, hb⟩
  · exact mk_code_3 _ (mk_zip a b)
  rcases step rfl rfl hm hb with ⟨a, b⟩ | ⟨hm, hb⟩
  · exact mk_code_4 _ (mk_zip a b)
  · exact mk_code_5 _ (mk_zip hm hb)
theorem mk_bk_chk {b : ByteArray} {o maxL rc : Nat} : ∀ {bs : List mm_B} {pc en : Nat} {is : List Instr}, mk_bks b o maxL rc bs = true → mm_bk bs pc = some (en, is) → mk_chk b o maxL rc pc en is = true
  | [], _, _, _, _, h => by cases h
  | q :: t, pc, en, is, hc, h => by
    unfold mk_bks at hc
    rw [Bool.and_eq_true] at hc
    unfold mm_bk at h
    split at h
    · rename_i e
      have h := Option.some.inj h
      subst e
      rw [show en = q.2.1 by rw [h], show is = q.2.2 by rw [h]]
      exact hc.1
    · exact mk_bk_chk hc.2 h
theorem ms_chk {g : Nat} {m : mt_M} {pc en : Nat} {is : List Instr} (hm : mt_ms[g]? = some m) (h : mm_bk (mm_code g) pc = some (en, is)) : mk_chk (mk_by m) m.2.2.2.2.1 m.2.2.1 (mk_rc m.2.2.2.1) pc en is = true := by
  unfold mm_code at h
  cases hb : mc_all[g]? with
  | none =>
    rw [List.getD_eq_getElem?_getD, hb] at h
    cases h
  | some bs =>
    rw [List.getD_eq_getElem?_getD, hb] at h
    exact mk_bk_chk (mk_code_ok hm hb) h
theorem mk_rc_0 {r : Option FieldType} (h : mk_rc r = 0) : r = some .int := by
  unfold mk_rc at h
  split at h <;> first | rfl | cases h
theorem mk_rc_1 {r : Option FieldType} (h : mk_rc r = 1) : r = some .long := by
  unfold mk_rc at h
  split at h <;> first | rfl | cases h
theorem mk_rc_2 {r : Option FieldType} (h : mk_rc r = 2) : ∃ n, r = some (.object n) := by
  unfold mk_rc at h
  split at h <;> first | exact ⟨_, rfl⟩ | cases h
theorem mk_rc_3 {r : Option FieldType} (h : mk_rc r = 3) : r = some .boolean := by
  unfold mk_rc at h
  split at h <;> first | rfl | cases h
theorem mk_rc_4 {r : Option FieldType} (h : mk_rc r = 4) : r = none := by
  unfold mk_rc at h
  split at h <;> first | rfl | cases h
def ms_rm (d : Nat) : Room := { frames := d, cells := 0, slots := 0, locals := 40 * d }
theorem ms_lgsl (X : ms_X) : ∀ as : List Value, (lg_sl (as.map (ms_v X))).length = (mm_en as).length
  | [] => rfl
  | v :: as => by
    have ih := ms_lgsl X as
    by_cases hc : v.category = 2
    · have e1 : mm_en (v :: as) = some v :: none :: mm_en as := by
        cases v <;> first | rfl | (exfalso; simp [Value.category] at hc)
      rw [e1]
      simp [lg_sl, ms_v_cat, hc] at ih ⊢
      omega
    · have e1 : mm_en (v :: as) = some v :: mm_en as := by
        cases v <;> first | rfl | (exfalso; exact hc rfl)
      rw [e1]
      simp [lg_sl, ms_v_cat, hc] at ih ⊢
      omega
set_option maxHeartbeats 4000000 in
theorem ms_met (l : Launch) (X : ms_X) (z : mm_S) : ∀ (d g : Nat) (m : mt_M) (as : List Value) (I : mm_I) (J : mm_J) (Q : Option Value → mm_I → mm_J → Prop), mt_ms[g]? = some m → mk_words m = true → mm_call z d g as I J Q → Met l m.1 (ms_wm m) (ms_rm d) (ms_Pc X z as I J) (ms_Qc X Q) 0 0 (ms_A X)
  | 0, _, _, _, _, _, _, _, _, h => h.elim
  | d + 1, g, mm, as, I, J, Q, hg, hw, h => by
    have ih := ms_met l X z d
    have hw0 := hw
    unfold mk_words at hw
    simp only [Bool.and_eq_true, decide_eq_true_eq] at hw
    obtain ⟨⟨⟨⟨w1, w2⟩, w3⟩, w4⟩, ⟨⟨w5, w6⟩, w7⟩, w8⟩ := hw
    have hml0 : mm_ml g = mm.2.2.1 := by unfold mm_ml; rw [hg]
    obtain ⟨hlen, hat⟩ := h
    refine Met.ofW (cc := mk_by mm) (maxL := mm.2.2.1) (ret := mm.2.2.2.1) w1 rfl ?_
    intro p e s m args below meth c s₁ B hml hv
    obtain ⟨rfl, hP, hE⟩ := hv
    have hx := B.exec
    have hb := B.bytes
    have hr := B.returns
    have hts0 := atoms_spec (ws := ms_wm mm) B.pre
    have hts : ∀ w ∈ ms_gw, w.before (as.map (ms_v X)).toArray s = true := fun w hw => hts0 w (List.mem_cons_of_mem _ hw)
    have hown : s.vm.findClass (mk_own mm.2.2.2.2.1) = some m.cls := by
      rw [show mk_own mm.2.2.2.2.1 = mm.1.cls by unfold mk_own; rw [List.getD_eq_getElem?_getD, w2]; rfl]
      exact findClass_of_methodNamed B.named
    have hlocks := B.notSynchronized
    have hl := lv_entry (as.map (ms_v X)) (n := mm.2.2.1) (by rw [ms_lgsl, ← hml0]; exact hlen)
    rw [lg_entry_eq]
    generalize (lg_sl (as.map (ms_v X)) ++ List.replicate (mm.2.2.1 - (lg_sl (as.map (ms_v X))).length) Slot.unset).toArray = ls at hl ⊢
    have hS : va_S (ms_A X) s.heap s.heap [] := va_S.rf
    refine hat (fun pc ls st I J => ∀ (lsA : Array Slot) (H : Heap) (locs : List Loc), ms_lv X lsA mm.2.2.1 ls → ms_P X I J H → va_S (ms_A X) s.heap H locs → W p l e (headSpec (ms_wm mm) (ms_rm (d + 1))).room s m (as.map (ms_v X)).toArray below meth c H locs 0 0 (MQ below (ms_Qc X Q) (as.map (ms_v X)).toArray s 0 0 (ms_A X)) (F0 m pc lsA (st.map (ms_v X)))) ?_ ls s.heap [] (ms_lv_en hl) hP hS
    intro pc ls st I J en is hbk hrun lsA H locs hl hP hS
    refine ms_sim (X := X) (z := z) (C := mm_call z d) (rt := Q) (oo := mm.2.2.2.2.1) (rc := mk_rc mm.2.2.2.1) hx hb hml hown hts hE ?_ ?_ ⟨Nat.zero_le _, Nat.zero_le _⟩ ?_ ?_ ?_ is pc ls lsA st I J H locs (ms_chk hg hbk) hl hP hS hrun
    · show 1 ≤ d + 1
      omega
    · show 40 ≤ 40 * (d + 1)
      omega
    · intro g2 m2 as2 I2 J2 Q2 hg2 hw2 hc2
      refine ⟨ms_rm d, rfl, rfl, Nat.le_refl _, ?_, ih g2 m2 as2 I2 J2 Q2 hg2 hw2 hc2⟩
      show 38 + 40 * d ≤ 40 * (d + 1)
      omega
    · intro v i pc lsA I J H locs hrt hd hP hS hq
      have hQ : ∀ t : State, t.heap = H → s.WarmedH t.vm → ms_Qc X Q (as.map (ms_v X)).toArray s (.returned (v.map (ms_v X))) t := fun t ht _ => ⟨⟨v, I, J, rfl, hq, by rw [ht]; exact hP⟩, hS.F ht⟩
      rcases hrt with ⟨h0, rfl, x, rfl⟩ | ⟨h0, rfl, x, rfl, h01⟩ | ⟨h0, rfl, x, rfl⟩ | ⟨h0, rfl, hv⟩ | ⟨h0, rfl, rfl⟩
      · exact W.iret hx hb (by rw [hr, mk_rc_0 h0]) hQ hS.2.2 hd
      · exact W.zret (ty := .boolean) hx hb (by rw [hr, mk_rc_3 h0]) (ms_nar_b h01).1 hQ hS.2.2 hd
      · exact W.lret hx hb (by rw [hr, mk_rc_1 h0]) hQ hS.2.2 hd
      · obtain ⟨n, hn⟩ := mk_rc_2 h0
        rcases hv with rfl | ⟨k, rfl⟩
        · exact W.aret (v := .null) (rt := .object n) hx hb (by rw [hr, hn]) (Or.inl ⟨n, rfl⟩) (Or.inl rfl) hQ hS.2.2 hd
        · exact W.aret (v := .ref (ms_r X k)) (rt := .object n) hx hb (by rw [hr, hn]) (Or.inl ⟨n, rfl⟩) (Or.inr ⟨_, rfl⟩) hQ hS.2.2 hd
      · exact W.vret hx hb (by rw [hr, mk_rc_4 h0]) hQ hS.2.2 hd
    · intro pc ls lsA st I J H locs hl hP hS h
      exact h lsA H locs hl hP hS
theorem ms_Cs_call (l : Launch) (R : Room) (X : ms_X) (z : mm_S) (d : Nat) (h1 : d + 1 ≤ R.frames) (h2 : 38 + 40 * d ≤ R.locals) : ms_Cs l R X z (mm_call z d) := by
  intro g m as I J Q hg hw hc
  exact ⟨ms_rm d, rfl, rfl, h1, h2, ms_met l X z d g m as I J Q hg hw hc⟩
/-- a run of the law's own code from a place of it -/
theorem ms_law {p : Program} {l : Launch} {e : Env} {R : Room} {s : State} {m : MethodId} {args : Array Value} {below : List Frame} {meth : Method} {c : Code} {cells slots : Nat} {QQ : State → Prop} {X : ms_X} {z : mm_S} {d : Nat} {rt : Option Value → mm_I → mm_J → Prop} (hx : p.tables.exec = Jvm.exec) (hb : c.code = code) (hml : c.maxLocals = 4) (hown : s.vm.findClass "RowGraderLaw" = some m.cls) (hts : ∀ w ∈ ms_gw, w.before args s = true) (hE : ms_E X z s) (hR1 : d + 1 ≤ R.frames) (hR2 : 38 + 40 * d ≤ R.locals) (hR3 : 40 ≤ R.locals) (hcs : cells ≤ R.cells ∧ slots ≤ R.slots)
    (hret : ∀ (v : Option Value) (pc : Nat) (lsA : Array Slot) (I : mm_I) (J : mm_J) (H : Heap) (locs : List Loc), (∃ x, v = some (.int x) ∧ (x = 0 ∨ x = 1)) → decode code pc = .ok (.ireturn, 1) → ms_P X I J H → va_S (ms_A X) s.heap H locs → rt v I J → W p l e R s m args below meth c H locs cells slots QQ (F0 m pc lsA ((v.map (ms_v X)).toList)))
    {pc : Nat} {ls : mm_L} {st : List Value} {I : mm_I} {J : mm_J} (hat : mm_at z (mm_call z d) (mm_code 221) rt pc ls st I J) {lsA : Array Slot} {H : Heap} {locs : List Loc} (hl : ms_lv X lsA 4 ls) (hP : ms_P X I J H) (hS : va_S (ms_A X) s.heap H locs) : W p l e R s m args below meth c H locs cells slots QQ (F0 m pc lsA (st.map (ms_v X))) := by
  refine hat (fun pc ls st I J => ∀ (lsA : Array Slot) (H : Heap) (locs : List Loc), ms_lv X lsA 4 ls → ms_P X I J H → va_S (ms_A X) s.heap H locs → W p l e R s m args below meth c H locs cells slots QQ (F0 m pc lsA (st.map (ms_v X)))) ?_ lsA H locs hl hP hS
  intro pc ls st I J en is hbk hrun lsA H locs hl hP hS
  have hck : mk_chk code 13 4 3 pc en is = true := ms_chk (g := 221) (m := (⟨"RowGraderLaw", "law", "([I)Z"⟩, code, 4, (some .boolean), 13, true, 1, [0, 0, 0, 93])) rfl hbk
  refine ms_sim (X := X) (z := z) (C := mm_call z d) (rt := rt) (oo := 13) (rc := 3) hx hb hml hown hts hE (by omega) hR3 hcs (ms_Cs_call l R X z d hR1 hR2) ?_ ?_ is pc ls lsA st I J H locs hck hl hP hS hrun
  · intro v i pc lsA I J H locs hrt hd hP hS hq
    rcases hrt with ⟨h0, -⟩ | ⟨h0, rfl, x, rfl, h01⟩ | ⟨h0, -⟩ | ⟨h0, -⟩ | ⟨h0, -⟩
    · cases h0
    · exact hret _ pc lsA I J H locs ⟨x, rfl, h01⟩ hd hP hS hq
    · cases h0
    · cases h0
    · cases h0
  · intro pc ls lsA st I J H locs hl hP hS h
    exact h lsA H locs hl hP hS
