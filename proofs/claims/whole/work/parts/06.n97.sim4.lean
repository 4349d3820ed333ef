section MS3
variable {p : Program} {l : Launch} {e : Env} {R : Room} {s : State} {m : MethodId} {args : Array Value} {below : List Frame} {meth : Method} {c : Code} {cells slots : Nat} {QQ : State → Prop}
theorem ms_aald105 {X : ms_X} {I : mm_I} {J : mm_J} {H : Heap} {locs : List Loc} {b : ByteArray} {pc : Nat} {ls : Array Slot} {rest : List Value} (hx : p.tables.exec = Jvm.exec) (hb : c.code = b) (hK : va_K X.2.1 ms_cl (ms_tys X) s) (hP : ms_P X I J H) {k : Nat} (hT : (mm_T k).1 = 105) {i : Int32} (hin : vp_in i (mm_T k).2) (hd : decode b pc = .ok (.aaload, 1))
    (kk : W p l e R s m args below meth c H locs cells slots QQ (F0 m (pc + 1) ls (va_rf ((mm_R k i.toNatClampNeg).map (X.1 + ·)) :: rest))) : W p l e R s m args below meth c H locs cells slots QQ (F0 m pc ls (.int i :: .ref (X.1 + k) :: rest)) := by
  obtain ⟨hk, ha⟩ := ms_arr (X := X) (I := I) (J := J) hT (by omega) (by omega)
  rw [ms_ar_q (by omega)] at ha
  have hlt : i.toNatClampNeg < (mm_T k).2 := Nat.not_le.mp fun q => hin (Or.inr q)
  exact W.aald (v := va_rf ((mm_R k i.toNatClampNeg).map (X.1 + ·))) (ty := .array .int) hx hb (hP k _ ha) ((hK.2 5 (X.2.2.1 105, .array .int) rfl).1 (mm_T k).2 (fun j => va_rf ((mm_R k j).map (X.1 + ·)))) rfl (fun q => by cases q) (by show ¬ (i < 0 ∨ (arrV _ _ _).slots.size ≤ _); rw [arrV_size]; exact hin) (by show (arrV _ _ _).slots[_]? = _; rw [arrV_read _ _ hlt]) rfl rfl hd kk
theorem ms_nar_b {x : Int32} (h : x = 0 ∨ x = 1) : narrow .boolean (.int x) = .int x ∧ fits .boolean (.int x) = true ∧ vp_nar .boolean x = x := by
  rcases h with rfl | rfl
  · exact ⟨by decide, by decide, by decide⟩
  · exact ⟨by decide, by decide, by decide⟩
/-- a return, as the machine has it -/
def ms_rt (rc : Nat) (i : Instr) (v : Option Value) : Prop := (rc = 0 ∧ i = .ireturn ∧ ∃ x, v = some (.int x)) ∨ (rc = 3 ∧ i = .ireturn ∧ ∃ x, v = some (.int x) ∧ (x = 0 ∨ x = 1)) ∨ (rc = 1 ∧ i = .lreturn ∧ ∃ x, v = some (.long x)) ∨ (rc = 2 ∧ i = .areturn ∧ (v = some .null ∨ ∃ k, v = some (.ref k))) ∨ (rc = 4 ∧ i = .return_ ∧ v = none)
theorem ms_tyI {n : Nat} {f : String × String × String × Bool} (hf : mk_fd n = some f) : (mk_ty n = 0 → f.2.2.1 = "I") ∧ (mk_ty n = 3 → f.2.2.1 = "Z") ∧ (mk_ty n = 1 → f.2.2.1 = "J") := by
  unfold mk_ty
  rw [hf]
  dsimp only
  refine ⟨fun h => ?_, fun h => ?_, fun h => ?_⟩
  all_goals
    split at h
    · first | assumption | cases h
    · split at h
      · first | assumption | cases h
      · split at h
        · first | assumption | cases h
        · cases h
theorem ms_ty_fd {n : Nat} (h : mk_ty n ≠ 9) : ∃ f, mk_fd n = some f := by
  cases hf : mk_fd n with
  | some f => exact ⟨f, rfl⟩
  | none =>
    unfold mk_ty at h
    rw [hf] at h
    exact absurd rfl h
theorem ms_fin_fd {n : Nat} {f : String × String × String × Bool} (hf : mk_fd n = some f) (h : ¬ mk_fin n = true) : f.2.2.2 = false := by
  unfold mk_fin at h
  rw [hf] at h
  simpa using h
theorem ms_flw {oo i n q : Nat} {f : String × String × String × Bool} (h : mk_look mt_fl oo i = some (n, q)) (hf : mk_fd n = some f) : Jvm.Cond.fieldLink (mk_own oo) i f.1 f.2.1 f.2.2.1 ∈ ms_gw := by
  have h1 := List.all_eq_true.mp mk_flw_ok _ (mk_look_in h)
  unfold mk_flw at h1
  dsimp only at h1
  rw [hf] at h1
  exact mk_w_in h1
theorem ms_tgt {pc : Nat} {t : Int} {f : Int → Instr} {i : Instr} (h : mk_tgt pc t f = some i) : i = f ((pc : Int) + t) ∧ (pc : Int) + t = (((pc : Int) + t).toNat : Int) := by
  unfold mk_tgt at h
  split at h
  · cases h
    exact ⟨rfl, by omega⟩
  · cases h
set_option maxHeartbeats 16000000 in
set_option maxRecDepth 10000 in
theorem ms_sim {X : ms_X} {z : mm_S} {C : mm_C} {rt : Option Value → mm_I → mm_J → Prop} {ex : Nat → mm_L → List Value → mm_I → mm_J → Prop} {b : ByteArray} {oo maxL rc en : Nat}
    (hx : p.tables.exec = Jvm.exec) (hb : c.code = b) (hml : c.maxLocals = maxL) (hown : s.vm.findClass (mk_own oo) = some m.cls) (hts : ∀ w ∈ ms_gw, w.before args s = true) (hE : ms_E X z s) (hR1 : 1 ≤ R.frames) (hR2 : 40 ≤ R.locals) (hcs : cells ≤ R.cells ∧ slots ≤ R.slots) (hC : ms_Cs l R X z C)
    (hret : ∀ (v : Option Value) (i : Instr) (pc : Nat) (lsA : Array Slot) (I : mm_I) (J : mm_J) (H : Heap) (locs : List Loc), ms_rt rc i v → decode b pc = .ok (i, 1) → ms_P X I J H → va_S (ms_A X) s.heap H locs → rt v I J → W p l e R s m args below meth c H locs cells slots QQ (F0 m pc lsA ((v.map (ms_v X)).toList)))
    (hex : ∀ (pc : Nat) (ls : mm_L) (lsA : Array Slot) (st : List Value) (I : mm_I) (J : mm_J) (H : Heap) (locs : List Loc), ms_lv X lsA maxL ls → ms_P X I J H → va_S (ms_A X) s.heap H locs → ex pc ls st I J → W p l e R s m args below meth c H locs cells slots QQ (F0 m pc lsA (st.map (ms_v X)))) :
    ∀ (is : List Instr) (pc : Nat) (ls : mm_L) (lsA : Array Slot) (st : List Value) (I : mm_I) (J : mm_J) (H : Heap) (locs : List Loc), mk_chk b oo maxL rc pc en is = true → ms_lv X lsA maxL ls → ms_P X I J H → va_S (ms_A X) s.heap H locs → mm_run z C rt ex en is ls st I J → W p l e R s m args below meth c H locs cells slots QQ (F0 m pc lsA (st.map (ms_v X))) := by
  intro is
  induction is with
  | nil =>
    intro pc ls lsA st I J H locs hchk hl hP hS hrun
    have hpc : pc = en := by simpa [mk_chk] using hchk
    subst hpc
    exact hex _ _ _ _ _ _ _ _ hl hP hS hrun
  | cons i is ih =>
    intro pc ls lsA st I J H locs hchk hl hP hS hrun
    unfold mk_chk at hchk
    cases hd : decode b pc with
    | error _ => rw [hd] at hchk; cases hchk
    | ok q =>
      obtain ⟨j, len⟩ := q
      rw [hd] at hchk
      simp only [Bool.and_eq_true, decide_eq_true_eq] at hchk
      obtain ⟨⟨hn, hlen⟩, hrest⟩ := hchk
      have go : ∀ {ls' : mm_L} {lsA' : Array Slot} {st' : List Value} {I' : mm_I} {J' : mm_J} {H' : Heap} {locs' : List Loc}, ms_lv X lsA' maxL ls' → ms_P X I' J' H' → va_S (ms_A X) s.heap H' locs' → mm_run z C rt ex en is ls' st' I' J' → W p l e R s m args below meth c H' locs' cells slots QQ (F0 m (pc + len) lsA' (st'.map (ms_v X))) := fun h1 h2 h3 h4 => ih _ _ _ _ _ _ _ _ hrest h1 h2 h3 h4
      clear ih hrest
      have hD := ms_D X I J
      have hK := hE.1
      cases j
      case iconst v =>
        have hlen : len = 1 := of_decide_eq_true hlen
        subst hlen
        have hn := Option.some.inj hn
        subst hn
        exact lv_iconst (v := Int32.ofInt v) hx hb hd rfl (go (st' := .int (Int32.ofInt v) :: st) hl hP hS hrun)
      case bipush v =>
        have hlen : len = 2 := of_decide_eq_true hlen
        subst hlen
        simp only [mk_nrm] at hn
        split at hn
        · rename_i hv
          have hn := Option.some.inj hn
          subst hn
          exact lv_bipush (v := Int32.ofInt v) hx hb hd hv (go (st' := .int (Int32.ofInt v) :: st) hl hP hS hrun)
        · cases hn
      case sipush v =>
        have hlen : len = 3 := of_decide_eq_true hlen
        subst hlen
        simp only [mk_nrm] at hn
        split at hn
        · rename_i hv
          have hn := Option.some.inj hn
          subst hn
          exact lv_sipush (v := Int32.ofInt v) hx hb hd hv (go (st' := .int (Int32.ofInt v) :: st) hl hP hS hrun)
        · cases hn
      case ldc k =>
        have hlen : len = 2 := of_decide_eq_true hlen
        subst hlen
        simp only [mk_nrm] at hn
        split at hn
        · rename_i q hq
          have hn := Option.some.inj hn
          subst hn
          exact lv_ldc (v := Int32.ofInt q.1) hx hb hown (hts _ (mk_w_in (List.all_eq_true.mp mk_ciw_ok _ (mk_look_in hq)))) hd (go (st' := .int (Int32.ofInt q.1) :: st) hl hP hS hrun)
        · cases hn
      case ldc_w k =>
        have hlen : len = 3 := of_decide_eq_true hlen
        subst hlen
        simp only [mk_nrm] at hn
        split at hn
        · rename_i q hq
          have hn := Option.some.inj hn
          subst hn
          exact lv_ldcw (v := Int32.ofInt q.1) hx hb hown (hts _ (mk_w_in (List.all_eq_true.mp mk_ciw_ok _ (mk_look_in hq)))) hd (go (st' := .int (Int32.ofInt q.1) :: st) hl hP hS hrun)
        · cases hn
      case ldc2_w k =>
        have hlen : len = 3 := of_decide_eq_true hlen
        subst hlen
        simp only [mk_nrm] at hn
        split at hn
        · rename_i q hq
          have hn := Option.some.inj hn
          subst hn
          exact lv_ldc2 (v := Int64.ofInt q.1) hx hb hown (hts _ (mk_w_in (List.all_eq_true.mp mk_clw_ok _ (mk_look_in hq)))) hd (go (st' := .long (Int64.ofInt q.1) :: st) hl hP hS hrun)
        · cases hn
      case lconst n =>
        have hlen : len = 1 := of_decide_eq_true hlen
        subst hlen
        simp only [mk_nrm] at hn
        split at hn
        · rename_i hv
          have hn := Option.some.inj hn
          subst hn
          exact lv_lconst (v := Int64.ofInt n.val) hx hb hd hv (go (st' := .long (Int64.ofInt n.val) :: st) hl hP hS hrun)
        · cases hn
      case aconst_null =>
        have hlen : len = 1 := of_decide_eq_true hlen
        subst hlen
        have hn := Option.some.inj hn
        subst hn
        exact lv_null hx hb hd (go (st' := .null :: st) hl hP hS hrun)
      case iload_n k =>
        have hlen : len = 1 := of_decide_eq_true hlen
        subst hlen
        have hn := Option.some.inj hn
        subst hn
        obtain ⟨x, h1, h2⟩ := mm_xi_v hrun
        exact lv_iload_n hx hb hd rfl (ms_lv_at hl h1) (go (st' := .int x :: st) hl hP hS h2)
      case lload_n k =>
        have hlen : len = 1 := of_decide_eq_true hlen
        subst hlen
        have hn := Option.some.inj hn
        subst hn
        obtain ⟨x, h1, h2⟩ := mm_xl_v hrun
        exact lv_lload_n hx hb hd rfl (ms_lv_at hl h1) (go (st' := .long x :: st) hl hP hS h2)
      case aload_n k =>
        have hlen : len = 1 := of_decide_eq_true hlen
        subst hlen
        have hn := Option.some.inj hn
        subst hn
        have h2 : mm_xr (mm_gt ls k) (fun v => mm_run z C rt ex en is ls (v :: st) I J) := hrun
        rcases mm_xr_v h2 with ⟨a, h3, h4⟩ | ⟨h3, h4⟩
        · exact lv_aload_n hx hb hd rfl (ms_lv_at hl h3) (go (st' := .ref a :: st) hl hP hS h4)
        · exact lv_aload_nN hx hb hd rfl (ms_lv_at hl h3) (go (st' := .null :: st) hl hP hS h4)
      case istore_n k =>
        have hlen : len = 1 := of_decide_eq_true hlen
        subst hlen
        simp only [mk_nrm] at hn
        split at hn
        · rename_i hk
          have hn := Option.some.inj hn
          subst hn
          obtain ⟨x, r, rfl, h2⟩ := mm_i1_v hrun
          exact lv_istore_n hx hb hd rfl hl hk rfl (fun ls2 h3 => go (ms_lv_s1 (x := .int x) h3) hP hS h2)
        · cases hn
      case lstore_n k =>
        have hlen : len = 1 := of_decide_eq_true hlen
        subst hlen
        simp only [mk_nrm] at hn
        split at hn
        · rename_i hk
          have hn := Option.some.inj hn
          subst hn
          obtain ⟨x, r, rfl, h2⟩ := mm_l1_v hrun
          exact lv_lstore_n hx hb hd rfl hl hk rfl (fun ls2 h3 => go (ms_lv_s2 (x := .long x) h3) hP hS h2)
        · cases hn
      case astore_n k =>
        have hlen : len = 1 := of_decide_eq_true hlen
        subst hlen
        simp only [mk_nrm] at hn
        split at hn
        · rename_i hk
          have hn := Option.some.inj hn
          subst hn
          have h1 : mm_nn st (fun r => mm_run z C rt ex en is (mm_s1 ls k .null) r I J) (fun r => mm_r1 st fun a _ => mm_run z C rt ex en is (mm_s1 ls k (.ref a)) r I J) := hrun
          rcases mm_nn_v h1 with ⟨r, rfl, h2⟩ | ⟨a, r, rfl, h2⟩
          · exact lv_astore_nN hx hb hd rfl hl hk rfl (fun ls2 h3 => go (ms_lv_s1 (x := .null) h3) hP hS h2)
          · exact lv_astore_n hx hb hd rfl hl hk rfl (fun ls2 h3 => go (ms_lv_s1 (x := .ref a) h3) hP hS h2)
        · cases hn
      case iload k =>
        have hlen : len = 2 := of_decide_eq_true hlen
        subst hlen
        have hn := Option.some.inj hn
        subst hn
        obtain ⟨x, h1, h2⟩ := mm_xi_v hrun
        exact lv_iload hx hb hd (ms_lv_at hl h1) (go (st' := .int x :: st) hl hP hS h2)
      case lload k =>
        have hlen : len = 2 := of_decide_eq_true hlen
        subst hlen
        have hn := Option.some.inj hn
        subst hn
        obtain ⟨x, h1, h2⟩ := mm_xl_v hrun
        exact lv_lload hx hb hd (ms_lv_at hl h1) (go (st' := .long x :: st) hl hP hS h2)
      case aload k =>
        have hlen : len = 2 := of_decide_eq_true hlen
        subst hlen
        have hn := Option.some.inj hn
        subst hn
        have h2 : mm_xr (mm_gt ls k) (fun v => mm_run z C rt ex en is ls (v :: st) I J) := hrun
        rcases mm_xr_v h2 with ⟨a, h3, h4⟩ | ⟨h3, h4⟩
        · exact lv_aload hx hb hd (ms_lv_at hl h3) (go (st' := .ref a :: st) hl hP hS h4)
        · exact lv_aloadN hx hb hd (ms_lv_at hl h3) (go (st' := .null :: st) hl hP hS h4)
      case istore k =>
        have hlen : len = 2 := of_decide_eq_true hlen
        subst hlen
        simp only [mk_nrm] at hn
        split at hn
        · rename_i hk
          have hn := Option.some.inj hn
          subst hn
          obtain ⟨x, r, rfl, h2⟩ := mm_i1_v hrun
          exact lv_istore hx hb hd hl hk rfl (fun ls2 h3 => go (ms_lv_s1 (x := .int x) h3) hP hS h2)
        · cases hn
      case lstore k =>
        have hlen : len = 2 := of_decide_eq_true hlen
        subst hlen
        simp only [mk_nrm] at hn
        split at hn
        · rename_i hk
          have hn := Option.some.inj hn
          subst hn
          obtain ⟨x, r, rfl, h2⟩ := mm_l1_v hrun
          exact lv_lstore hx hb hd hl hk rfl (fun ls2 h3 => go (ms_lv_s2 (x := .long x) h3) hP hS h2)
        · cases hn
      case astore k =>
        have hlen : len = 2 := of_decide_eq_true hlen
        subst hlen
        simp only [mk_nrm] at hn
        split at hn
        · rename_i hk
          have hn := Option.some.inj hn
          subst hn
          have h1 : mm_nn st (fun r => mm_run z C rt ex en is (mm_s1 ls k .null) r I J) (fun r => mm_r1 st fun a _ => mm_run z C rt ex en is (mm_s1 ls k (.ref a)) r I J) := hrun
          rcases mm_nn_v h1 with ⟨r, rfl, h2⟩ | ⟨a, r, rfl, h2⟩
          · exact lv_astoreN hx hb hd hl hk rfl (fun ls2 h3 => go (ms_lv_s1 (x := .null) h3) hP hS h2)
          · exact lv_astore hx hb hd hl hk rfl (fun ls2 h3 => go (ms_lv_s1 (x := .ref a) h3) hP hS h2)
        · cases hn
      case iinc k n =>
        have hlen : len = 3 := of_decide_eq_true hlen
        subst hlen
        simp only [mk_nrm] at hn
        split at hn
        · rename_i hk
          have hn := Option.some.inj hn
          subst hn
          obtain ⟨x, h1, h2⟩ := mm_xi_v hrun
          obtain ⟨w, hw⟩ := List.getElem?_of_mem (ms_ll_mem (X := X) (i := 0).mpr ⟨k, .int x, by rw [Nat.zero_add]; rfl, h1⟩ : (k, Value.int x) ∈ ms_ll X 0 ls)
          exact lv_iinc hx hb hd hl hw rfl hk rfl (fun ls2 h3 => go (ms_lv_s1 (x := .int (x + Int32.ofInt n)) h3) hP hS h2)
        · cases hn
      case pop =>
        have hlen : len = 1 := of_decide_eq_true hlen
        subst hlen
        have hn := Option.some.inj hn
        subst hn
        have h1 : mm_dup st (fun _ r => mm_run z C rt ex en is ls r I J) := hrun
        obtain ⟨v, r, rfl, h2, h3⟩ := mm_dup_v h1
        exact lv_pop hx hb hd (by rw [ms_v_cat]; rcases h3 with ⟨_, rfl⟩ | ⟨_, rfl⟩ | rfl <;> rfl) (go hl hP hS h2)
      case dup =>
        have hlen : len = 1 := of_decide_eq_true hlen
        subst hlen
        have hn := Option.some.inj hn
        subst hn
        have h1 : mm_dup st (fun v r => mm_run z C rt ex en is ls (v :: v :: r) I J) := hrun
        obtain ⟨v, r, rfl, h2, h3⟩ := mm_dup_v h1
        exact lv_dup hx hb hd (by rw [ms_v_cat]; rcases h3 with ⟨_, rfl⟩ | ⟨_, rfl⟩ | rfl <;> rfl) (go (st' := v :: v :: r) hl hP hS h2)
      case dup2 =>
        have hlen : len = 1 := of_decide_eq_true hlen
        subst hlen
        have hn := Option.some.inj hn
        subst hn
        obtain ⟨k, x, r, rfl, h2⟩ := mm_ri_v hrun
        exact lv_dup2_11 hx hb hd rfl rfl (go (st' := .int x :: .ref k :: .int x :: .ref k :: r) hl hP hS h2)
      case iadd =>
        have hlen : len = 1 := of_decide_eq_true hlen
        subst hlen
        have hn := Option.some.inj hn
        subst hn
        obtain ⟨x, y, r, rfl, h2⟩ := mm_i2_v hrun
        exact lv_iadd hx hb hd (go hl hP hS h2)
      case isub =>
        have hlen : len = 1 := of_decide_eq_true hlen
        subst hlen
        have hn := Option.some.inj hn
        subst hn
        obtain ⟨x, y, r, rfl, h2⟩ := mm_i2_v hrun
        exact lv_isub hx hb hd (go hl hP hS h2)
      case imul =>
        have hlen : len = 1 := of_decide_eq_true hlen
        subst hlen
        have hn := Option.some.inj hn
        subst hn
        obtain ⟨x, y, r, rfl, h2⟩ := mm_i2_v hrun
        exact lv_imul hx hb hd (go hl hP hS h2)
      case iand =>
        have hlen : len = 1 := of_decide_eq_true hlen
        subst hlen
        have hn := Option.some.inj hn
        subst hn
        obtain ⟨x, y, r, rfl, h2⟩ := mm_i2_v hrun
        exact lv_iand hx hb hd (go hl hP hS h2)
      case ior =>
        have hlen : len = 1 := of_decide_eq_true hlen
        subst hlen
        have hn := Option.some.inj hn
        subst hn
        obtain ⟨x, y, r, rfl, h2⟩ := mm_i2_v hrun
        exact lv_ior hx hb hd (go hl hP hS h2)
      case ixor =>
        have hlen : len = 1 := of_decide_eq_true hlen
        subst hlen
        have hn := Option.some.inj hn
        subst hn
        obtain ⟨x, y, r, rfl, h2⟩ := mm_i2_v hrun
        exact lv_ixor hx hb hd (go hl hP hS h2)
      case ishl =>
        have hlen : len = 1 := of_decide_eq_true hlen
        subst hlen
        have hn := Option.some.inj hn
        subst hn
        obtain ⟨x, y, r, rfl, h2⟩ := mm_i2_v hrun
        exact lv_ishl hx hb hd (go hl hP hS h2)
      case ishr =>
        have hlen : len = 1 := of_decide_eq_true hlen
        subst hlen
        have hn := Option.some.inj hn
        subst hn
        obtain ⟨x, y, r, rfl, h2⟩ := mm_i2_v hrun
        exact lv_ishr hx hb hd (go hl hP hS h2)
      case idiv =>
        have hlen : len = 1 := of_decide_eq_true hlen
        subst hlen
        have hn := Option.some.inj hn
        subst hn
        obtain ⟨x, y, r, rfl, h2, h3⟩ := mm_i2_v hrun
        exact lv_idiv hx hb hd h2 (go hl hP hS h3)
      case irem =>
        have hlen : len = 1 := of_decide_eq_true hlen
        subst hlen
        have hn := Option.some.inj hn
        subst hn
        obtain ⟨x, y, r, rfl, h2, h3⟩ := mm_i2_v hrun
        exact lv_irem hx hb hd h2 (go hl hP hS h3)
      case iushr =>
        have hlen : len = 1 := of_decide_eq_true hlen
        subst hlen
        have hn := Option.some.inj hn
        subst hn
        obtain ⟨x, y, r, rfl, h2⟩ := mm_i2_v hrun
        exact lv_iushr hx hb hd rfl (go hl hP hS h2)
      case ineg =>
        have hlen : len = 1 := of_decide_eq_true hlen
        subst hlen
        have hn := Option.some.inj hn
        subst hn
        obtain ⟨x, r, rfl, h2⟩ := mm_i1_v hrun
        exact lv_ineg hx hb hd (go hl hP hS h2)
      case ladd =>
        have hlen : len = 1 := of_decide_eq_true hlen
        subst hlen
        have hn := Option.some.inj hn
        subst hn
        obtain ⟨x, y, r, rfl, h2⟩ := mm_l2_v hrun
        exact lv_ladd hx hb hd (go hl hP hS h2)
      case lsub =>
        have hlen : len = 1 := of_decide_eq_true hlen
        subst hlen
        have hn := Option.some.inj hn
        subst hn
        obtain ⟨x, y, r, rfl, h2⟩ := mm_l2_v hrun
        exact lv_lsub hx hb hd (go hl hP hS h2)
      case lmul =>
        have hlen : len = 1 := of_decide_eq_true hlen
        subst hlen
        have hn := Option.some.inj hn
        subst hn
        obtain ⟨x, y, r, rfl, h2⟩ := mm_l2_v hrun
        exact lv_lmul hx hb hd (go hl hP hS h2)
      case land =>
        have hlen : len = 1 := of_decide_eq_true hlen
        subst hlen
        have hn := Option.some.inj hn
        subst hn
        obtain ⟨x, y, r, rfl, h2⟩ := mm_l2_v hrun
        exact lv_land hx hb hd (go hl hP hS h2)
      case lor =>
        have hlen : len = 1 := of_decide_eq_true hlen
        subst hlen
        have hn := Option.some.inj hn
        subst hn
        obtain ⟨x, y, r, rfl, h2⟩ := mm_l2_v hrun
        exact lv_lor hx hb hd (go hl hP hS h2)
      case lshl =>
        have hlen : len = 1 := of_decide_eq_true hlen
        subst hlen
        have hn := Option.some.inj hn
        subst hn
        obtain ⟨x, y, r, rfl, h2⟩ := mm_li_v hrun
        exact lv_lshl hx hb hd rfl (go hl hP hS h2)
      case lshr =>
        have hlen : len = 1 := of_decide_eq_true hlen
        subst hlen
        have hn := Option.some.inj hn
        subst hn
        obtain ⟨x, y, r, rfl, h2⟩ := mm_li_v hrun
        exact lv_lshr hx hb hd rfl (go hl hP hS h2)
      case lushr =>
        have hlen : len = 1 := of_decide_eq_true hlen
        subst hlen
        have hn := Option.some.inj hn
        subst hn
        obtain ⟨x, y, r, rfl, h2⟩ := mm_li_v hrun
        exact lv_lushr hx hb hd rfl (go hl hP hS h2)
      case lcmp =>
        have hlen : len = 1 := of_decide_eq_true hlen
        subst hlen
        have hn := Option.some.inj hn
        subst hn
        obtain ⟨x, y, r, rfl, h2⟩ := mm_l2_v hrun
        exact W.lcmp hx hb hd (go hl hP hS h2)
      case i2l =>
        have hlen : len = 1 := of_decide_eq_true hlen
        subst hlen
        have hn := Option.some.inj hn
        subst hn
        obtain ⟨x, r, rfl, h2⟩ := mm_i1_v hrun
        exact lv_i2l hx hb hd rfl (go hl hP hS h2)
      case l2i =>
        have hlen : len = 1 := of_decide_eq_true hlen
        subst hlen
        have hn := Option.some.inj hn
        subst hn
        obtain ⟨x, r, rfl, h2⟩ := mm_l1_v hrun
        exact lv_l2i hx hb hd rfl (go hl hP hS h2)
      case if_icmp cc t =>
        have hlen : len = 3 := of_decide_eq_true hlen
        subst hlen
        obtain ⟨rfl, ht⟩ := ms_tgt hn
        obtain ⟨x, y, r, rfl, h2⟩ := mm_i2_v hrun
        cases cc
        · exact lv_icmp_eq hx hb hd ht (fun q => hex _ _ _ _ _ _ _ _ hl hP hS (h2.1 q)) (fun q => go hl hP hS (h2.2 q))
        · exact lv_icmp_ne hx hb hd ht (fun q => hex _ _ _ _ _ _ _ _ hl hP hS (h2.1 q)) (fun q => go hl hP hS (h2.2 q))
        · exact lv_icmp_lt hx hb hd ht (fun q => hex _ _ _ _ _ _ _ _ hl hP hS (h2.1 q)) (fun q => go hl hP hS (h2.2 q))
        · exact lv_icmp_ge hx hb hd ht (fun q => hex _ _ _ _ _ _ _ _ hl hP hS (h2.1 q)) (fun q => go hl hP hS (h2.2 q))
        · exact lv_icmp_gt hx hb hd ht (fun q => hex _ _ _ _ _ _ _ _ hl hP hS (h2.1 q)) (fun q => go hl hP hS (h2.2 q))
        · exact lv_icmp_le hx hb hd ht (fun q => hex _ _ _ _ _ _ _ _ hl hP hS (h2.1 q)) (fun q => go hl hP hS (h2.2 q))
      case ifCond cc t =>
        have hlen : len = 3 := of_decide_eq_true hlen
        subst hlen
        obtain ⟨rfl, ht⟩ := ms_tgt hn
        obtain ⟨x, r, rfl, h2⟩ := mm_i1_v hrun
        cases cc
        · exact lv_if_eq hx hb hd ht (fun q => hex _ _ _ _ _ _ _ _ hl hP hS (h2.1 q)) (fun q => go hl hP hS (h2.2 q))
        · exact lv_if_ne hx hb hd ht (fun q => hex _ _ _ _ _ _ _ _ hl hP hS (h2.1 q)) (fun q => go hl hP hS (h2.2 q))
        · exact lv_if_lt hx hb hd ht (fun q => hex _ _ _ _ _ _ _ _ hl hP hS (h2.1 q)) (fun q => go hl hP hS (h2.2 q))
        · exact lv_if_ge hx hb hd ht (fun q => hex _ _ _ _ _ _ _ _ hl hP hS (h2.1 q)) (fun q => go hl hP hS (h2.2 q))
        · exact lv_if_gt hx hb hd ht (fun q => hex _ _ _ _ _ _ _ _ hl hP hS (h2.1 q)) (fun q => go hl hP hS (h2.2 q))
        · exact lv_if_le hx hb hd ht (fun q => hex _ _ _ _ _ _ _ _ hl hP hS (h2.1 q)) (fun q => go hl hP hS (h2.2 q))
      case ifnull t =>
        have hlen : len = 3 := of_decide_eq_true hlen
        subst hlen
        obtain ⟨rfl, ht⟩ := ms_tgt hn
        rcases mm_nn_v hrun with ⟨r, rfl, h2⟩ | ⟨a, r, rfl, h2⟩
        · exact lv_ifnullN hx hb hd ht (hex _ _ _ _ _ _ _ _ hl hP hS h2)
        · exact lv_ifnull hx hb hd (go hl hP hS h2)
      case ifnonnull t =>
        have hlen : len = 3 := of_decide_eq_true hlen
        subst hlen
        obtain ⟨rfl, ht⟩ := ms_tgt hn
        rcases mm_nn_v hrun with ⟨r, rfl, h2⟩ | ⟨a, r, rfl, h2⟩
        · exact lv_ifnonnullN hx hb hd (go hl hP hS h2)
        · exact lv_ifnonnull hx hb hd ht (hex _ _ _ _ _ _ _ _ hl hP hS h2)
      case goto t =>
        have hlen : len = 3 := of_decide_eq_true hlen
        subst hlen
        obtain ⟨rfl, ht⟩ := ms_tgt hn
        exact lv_goto hx hb hd ht (hex _ _ _ _ _ _ _ _ hl hP hS hrun)
      case tableswitch d lo hi ts =>
        simp only [mk_nrm] at hn
        split at hn
        · rename_i hv
          have hn := Option.some.inj hn
          subst hn
          obtain ⟨x, r, rfl, h3⟩ := mm_i1_v hrun
          obtain ⟨hv1, hv2, hv3⟩ := hv
          by_cases hq : x.toInt < lo ∨ hi < x.toInt
          · exact lv_tableOut hx hb hd hq (tgt := ((pc : Int) + d).toNat) (by omega) (hex _ _ _ _ _ _ _ _ hl hP hS (mm_sw_o _ _ h3 (by rcases hq with q | q; exact Or.inl q; exact Or.inr (by simp; omega))))
          · have hlt : (x.toInt - lo).toNat < ts.size := by omega
            have hto : ts[(x.toInt - lo).toNat]? = some ts[(x.toInt - lo).toNat] := Array.getElem?_eq_getElem hlt
            have hnn : 0 ≤ (pc : Int) + ts[(x.toInt - lo).toNat] := by
              have := List.all_eq_true.mp hv2 ts[(x.toInt - lo).toNat] (by simp)
              simpa using this
            have h4 := mm_sw_v _ _ h3 (x.toInt - lo).toNat ((pc : Int) + ts[(x.toInt - lo).toNat]) (by simp [hto]) (by omega)
            exact lv_tableIn hx hb hd (by omega) (by omega) hto (tgt := ((pc : Int) + ts[(x.toInt - lo).toNat]).toNat) (by omega) (hex _ _ _ _ _ _ _ _ hl hP hS h4)
        · cases hn
      case getfield k =>
        have hlen : len = 3 := of_decide_eq_true hlen
        subst hlen
        simp only [mk_nrm] at hn
        cases hq : mk_look mt_fl oo k with
        | none => rw [hq] at hn; cases hn
        | some q =>
          rw [hq] at hn
          dsimp only at hn
          have fin : ∀ {kk : Nat} {r : List Value} {v : Value}, mk_ty q.1 ≠ 9 → (mm_T kk).1 = q.1 / 100 → ms_v X v = ms_fv X I J kk (q.1 % 100) (mk_ty q.1) → mm_run z C rt ex en is ls (v :: r) I J → W p l e R s m args below meth c H locs cells slots QQ (F0 m pc lsA ((Value.ref kk :: r).map (ms_v X))) := by
            intro kk r v h9 hT hv hr
            obtain ⟨f, hf⟩ := ms_ty_fd h9
            obtain ⟨cq, c1, c2, c3, c4⟩ := mk_fd_v hf
            obtain ⟨hk, he, hlt, hfs⟩ := ms_obj (X := X) (I := I) (J := J) hf hT
            have e1 : (Value.ref kk :: r).map (ms_v X) = .ref (X.1 + kk) :: r.map (ms_v X) := by
              show Value.ref (ms_r X kk) :: _ = _
              rw [ms_r_lt hk]
            rw [e1]
            have hlink := hts _ (ms_flw (q := q.2) (by rw [hq]) hf)
            rw [c4] at hlink
            exact va_get (D := X.2.1) (T := ms_uT cq) (ref := cq.1) hx hb hts (ms_cl_in c1) hown hK hP kk he (ms_cl_at c1) (q.1 % 100) c2 (by rw [c3]; exact hlink) (fun x h => by rw [c3, c4] at h; rw [c3]; exact h) (v := ms_v X v) (by rw [hfs, hv]) hd (go (st' := v :: r) hl hP hS hr)
          split at hn
          · rename_i h0
            have hn := Option.some.inj hn
            subst hn
            obtain ⟨kk, r, rfl, hT, hr⟩ := mm_r1_v hrun
            refine fin (by omega) hT ?_ hr
            show Value.int _ = _
            unfold ms_fv
            rw [if_neg (by omega), if_neg (by omega)]
          · split at hn
            · rename_i h0 h1
              have hn := Option.some.inj hn
              subst hn
              obtain ⟨kk, r, rfl, hT, hr⟩ := mm_r1_v hrun
              refine fin (by omega) hT ?_ hr
              show Value.long _ = _
              unfold ms_fv
              rw [if_pos h1]
            · split at hn
              · rename_i h0 h1 h2
                have hn := Option.some.inj hn
                subst hn
                obtain ⟨kk, r, rfl, hT, hr⟩ := mm_r1_v hrun
                refine fin (by omega) hT ?_ hr
                rw [ms_v_rf X _ (fun a ha => ms_R_ok ha)]
                unfold ms_fv
                rw [if_neg (by omega), if_pos h2]
              · cases hn
      case putfield k =>
        have hlen : len = 3 := of_decide_eq_true hlen
        subst hlen
        simp only [mk_nrm] at hn
        cases hq : mk_look mt_fl oo k with
        | none => rw [hq] at hn; cases hn
        | some q =>
          rw [hq] at hn
          dsimp only at hn
          split at hn
          · cases hn
          rename_i hfin
          have fin : ∀ {kk : Nat} {r : List Value} {v : Value} {I2 : mm_I} {J2 : mm_J} {ty : FieldType}, mk_ty q.1 ≠ 9 → (mm_T kk).1 = q.1 / 100 → ms_v X v = v → v = ms_fv X I2 J2 kk (q.1 % 100) (mk_ty q.1) → (∀ a, a ≠ kk → I2 a = I a) → (∀ a, a ≠ kk → J2 a = J a) → (∀ g, g ≠ q.1 % 100 → I2 kk g = I kk g ∧ J2 kk g = J kk g) → (∀ f, mk_fd q.1 = some f → parseFieldDescriptor f.2.2.1 = some ty) → narrow ty v = v → fits ty v = true → mm_run z C rt ex en is ls r I2 J2 → W p l e R s m args below meth c H locs cells slots QQ (F0 m pc lsA ((v :: Value.ref kk :: r).map (ms_v X))) := by
            intro kk r v I2 J2 ty h9 hT hv0 hv hI hJ hg hty hna hfi hr
            obtain ⟨f, hf⟩ := ms_ty_fd h9
            obtain ⟨cq, c1, c2, c3, c4⟩ := mk_fd_v hf
            obtain ⟨hk, he, hlt, hfs⟩ := ms_obj (X := X) (I := I) (J := J) hf hT
            have e1 : (v :: Value.ref kk :: r).map (ms_v X) = v :: .ref (X.1 + kk) :: r.map (ms_v X) := by
              show ms_v X v :: Value.ref (ms_r X kk) :: _ = _
              rw [ms_r_lt hk, hv0]
            rw [e1]
            have hlink := hts _ (ms_flw (q := q.2) (by rw [hq]) hf)
            rw [c4] at hlink
            have hcm : cq ∈ mt_cls := List.mem_of_getElem? c1
            refine va_put (D := X.2.1) (T := ms_uT cq) (ref := cq.1) (ty := ty) hx hb hts (ms_cl_in c1) (fun f => (parseFieldDescriptor (ms_uT cq f).2.2.1).getD .int) (fun f hf => ?_) (fun x hx y hy hne => ?_) hown hK hP hD hS kk he (ms_cl_at c1) (q.1 % 100) c2 (by rw [c3]; exact hlink) (fun x h => by rw [c3, c4] at h; rw [c3]; exact h) (by rw [c3]; exact ms_fin_fd hf hfin) (by rw [c3]; exact hty f hf) hna hfi (by unfold ms_fs; simpa using hlt) hd (fun H1 locs1 hP1 hD1 hS1 => ?_)
            · have h1 := List.all_eq_true.mp (List.all_eq_true.mp mk_dsc_ok cq hcm) f (List.mem_range.mpr hf)
              cases h2 : parseFieldDescriptor (ms_uT cq f).2.2.1 with
              | none => rw [h2] at h1; cases h1
              | some t => rfl
            · have h1 := List.all_eq_true.mp (List.all_eq_true.mp (List.all_eq_true.mp mk_nm_ok cq hcm) x (List.mem_range.mpr hx)) y (List.mem_range.mpr hy)
              simpa [hne] using h1
            · have e2 : (ms_ws X I J).set kk (X.1 + kk, .inr (q.1 / 100, (ms_fs X I J kk).set (q.1 % 100) v)) = ms_ws X I2 J2 := by
                rw [ms_putfs (I' := I2) (J' := J2) (by rw [hv, hT, Nat.mul_comm, Nat.div_add_mod]) hg]
                have e3 : va_E.inr_ (q.1 / 100) (ms_fs X I2 J2 kk) = ms_ce X I2 J2 kk := by
                  unfold ms_ce va_E.inr_
                  rw [if_pos (by rw [hT]; have := (List.getElem?_eq_some_iff.mp c1).1; rw [show mt_cls.length = 11 from rfl] at this; omega), hT]
                unfold va_E.inr_ at e3
                rw [e3]
                exact ms_set hI hJ
              rw [e2] at hP1
              exact go hl hP1 hS1 hr
          split at hn
          · rename_i h0
            have hn := Option.some.inj hn
            subst hn
            obtain ⟨kk, x, r, rfl, hT, hr⟩ := mm_ri_v hrun
            refine fin (v := .int x) (ty := .int) (by omega) hT rfl ?_ (fun a ha => by unfold mm_wI; rw [if_neg ha]) (fun _ _ => rfl) (fun g hg => ⟨by unfold mm_wI; rw [if_pos rfl]; exact pk_un hg, rfl⟩) (fun f hf => by rw [(ms_tyI hf).1 h0]; decide +kernel) rfl rfl hr
            unfold ms_fv mm_wI
            rw [if_neg (by omega), if_neg (by omega), if_pos rfl, pk_us]
          · split at hn
            · rename_i h0 h1
              have hn := Option.some.inj hn
              subst hn
              obtain ⟨kk, x, r, rfl, hT, h01, hr⟩ := mm_ri_v hrun
              refine fin (v := .int x) (ty := .boolean) (by omega) hT rfl ?_ (fun a ha => by unfold mm_wI; rw [if_neg ha]) (fun _ _ => rfl) (fun g hg => ⟨by unfold mm_wI; rw [if_pos rfl]; exact pk_un hg, rfl⟩) (fun f hf => by rw [(ms_tyI hf).2.1 h1]; decide +kernel) (ms_nar_b h01).1 (ms_nar_b h01).2.1 hr
              unfold ms_fv mm_wI
              rw [if_neg (by omega), if_neg (by omega), if_pos rfl, pk_us]
            · split at hn
              · rename_i h0 h1 h2
                have hn := Option.some.inj hn
                subst hn
                obtain ⟨kk, x, r, rfl, hT, hr⟩ := mm_rl_v hrun
                refine fin (v := .long x) (ty := .long) (by omega) hT rfl ?_ (fun _ _ => rfl) (fun a ha => by unfold mm_wJ; rw [if_neg ha]) (fun g hg => ⟨rfl, by unfold mm_wJ; rw [if_pos rfl]; exact pk_uLn hg⟩) (fun f hf => by rw [(ms_tyI hf).2.2 h2]; decide +kernel) rfl rfl hr
                unfold ms_fv mm_wJ
                rw [if_pos h2, if_pos rfl, pk_uLs]
              · cases hn
      case getstatic k =>
        have hlen : len = 3 := of_decide_eq_true hlen
        subst hlen
        simp only [mk_nrm] at hn
        cases hq : mk_look mt_sf oo k with
        | none => rw [hq] at hn; cases hn
        | some q =>
          rw [hq] at hn
          have hn := Option.some.inj hn
          subst hn
          have h1 := List.all_eq_true.mp mk_sfw_ok _ (mk_look_in hq)
          unfold mk_sfw at h1
          dsimp only at h1
          cases h2 : mt_st.find? (fun r => r.1 == q.1) with
          | none => rw [h2] at h1; cases h1
          | some r =>
            rw [h2] at h1
            have hlink := hts _ (mk_w_in h1)
            have hm : r ∈ mt_st := List.mem_of_find?_eq_some h2
            have hid : r.1 = q.1 := by simpa using List.find?_some h2
            have h9 : 900 ≤ r.1 := by
              have := List.all_eq_true.mp mk_st9 r hm
              simpa using this
            obtain ⟨hZ, -⟩ := hE.2.1.1 r hm
            refine va_gets hx hb hZ hS hown hlink (fun x h => h) hd ?_
            have e1 : ms_v X (.ref q.1) = .ref (X.2.2.2 r.1) := by
              show Value.ref (ms_r X q.1) = _
              rw [← hid, ms_r, if_neg (by omega)]
            have h3 := go (st' := .ref q.1 :: st) hl hP hS hrun
            rw [List.map_cons, e1] at h3
            exact h3
      case iaload =>
        have hlen : len = 1 := of_decide_eq_true hlen
        subst hlen
        have hn := Option.some.inj hn
        subst hn
        obtain ⟨k, x, r, rfl, h2⟩ := mm_ri_v hrun
        unfold mm_al at h2
        split at h2
        · rename_i hT
          obtain ⟨hk, ha⟩ := ms_arr (X := X) (I := I) (J := J) hT (by omega) (by omega)
          rw [ms_ar_i (Or.inl hT)] at ha
          have h3 := va_iald (D := X.2.1) hx hb hK hP k 0 ha rfl (i := x) h2.1 hd (go (st' := .int _ :: r) hl hP hS h2.2)
          show W p l e R s m args below meth c H locs cells slots QQ (F0 m pc lsA (.int x :: .ref (ms_r X k) :: r.map (ms_v X)))
          rw [ms_r_lt hk]
          exact h3
        · split at h2
          · rename_i hT0 hT
            obtain ⟨h3, h4⟩ := h2
            obtain ⟨q, hq, hlen⟩ := ms_T200 hT
            have hm : q ∈ mt_st := List.mem_of_find?_eq_some hq
            have hid : q.1 = k := by simpa using List.find?_some hq
            have h9 : 900 ≤ q.1 := by
              have := List.all_eq_true.mp mk_st9 q hm
              simpa using this
            obtain ⟨-, hTT⟩ := hE.2.1.1 q hm
            have h5 := va_ti hx hb hTT hS (i := x) (by rw [← hlen]; exact h3) (v := .int (mm_ro k x.toNatClampNeg)) (by unfold mm_ro; rw [hq]) hd (go (st' := .int _ :: r) hl hP hS h4)
            show W p l e R s m args below meth c H locs cells slots QQ (F0 m pc lsA (.int x :: .ref (ms_r X k) :: r.map (ms_v X)))
            rw [show ms_r X k = X.2.2.2 q.1 by rw [← hid, ms_r, if_neg (by omega)]]
            exact h5
          · split at h2
            · rename_i hT0 hT1 hT
              have hk : k = 999 := ms_T201 hT
              subst hk
              obtain ⟨hX1, hX2⟩ := hE.2.1.2
              have hbl : X.2.2.2 999 < s.heap.size := Nat.lt_of_lt_of_le hX2 hE.2.2
              exact va_sld hx hb hX1 hbl (by unfold ms_A; omega) hS (i := x) h2.1 hd (go (st' := .int _ :: r) hl hP hS h2.2)
            · exact h2.elim
      case laload =>
        have hlen : len = 1 := of_decide_eq_true hlen
        subst hlen
        have hn := Option.some.inj hn
        subst hn
        obtain ⟨k, x, r, rfl, hT, hin, h2⟩ := mm_ri_v hrun
        obtain ⟨hk, ha⟩ := ms_arr (X := X) (I := I) (J := J) hT (by omega) (by omega)
        rw [ms_ar_l hT] at ha
        have h3 := va_lald (D := X.2.1) hx hb hK hP k 1 ha rfl (i := x) hin hd (go (st' := .long _ :: r) hl hP hS h2)
        show W p l e R s m args below meth c H locs cells slots QQ (F0 m pc lsA (.int x :: .ref (ms_r X k) :: r.map (ms_v X)))
        rw [ms_r_lt hk]
        exact h3
      case baload =>
        have hlen : len = 1 := of_decide_eq_true hlen
        subst hlen
        have hn := Option.some.inj hn
        subst hn
        obtain ⟨k, x, r, rfl, hT, hin, h2⟩ := mm_ri_v hrun
        obtain ⟨hk, ha⟩ := ms_arr (X := X) (I := I) (J := J) hT (by omega) (by omega)
        rw [ms_ar_i (Or.inr hT)] at ha
        have h3 := va_zald (D := X.2.1) hx hb hK hP k 2 ha rfl (i := x) hin hd (go (st' := .int _ :: r) hl hP hS h2)
        show W p l e R s m args below meth c H locs cells slots QQ (F0 m pc lsA (.int x :: .ref (ms_r X k) :: r.map (ms_v X)))
        rw [ms_r_lt hk]
        exact h3
      case aaload =>
        have hlen : len = 1 := of_decide_eq_true hlen
        subst hlen
        have hn := Option.some.inj hn
        subst hn
        obtain ⟨k, x, r, rfl, hT3, hin, h2⟩ := mm_ri_v hrun
        have hk : k < mm_N := ms_T_lt (by omega)
        have h3 := go (st' := va_rf (mm_R k x.toNatClampNeg) :: r) hl hP hS h2
        rw [List.map_cons, ms_v_rf X _ (fun a ha => ms_R_ok ha)] at h3
        show W p l e R s m args below meth c H locs cells slots QQ (F0 m pc lsA (.int x :: .ref (ms_r X k) :: r.map (ms_v X)))
        rw [ms_r_lt hk]
        rcases hT3 with hT | hT | hT
        · obtain ⟨-, ha⟩ := ms_arr (X := X) (I := I) (J := J) hT (by omega) (by omega)
          rw [ms_ar_q (by omega)] at ha
          exact va_aldq (D := X.2.1) (C := "RowGrader$Row") hx hb hK hP k 3 ha rfl hin hd h3
        · obtain ⟨-, ha⟩ := ms_arr (X := X) (I := I) (J := J) hT (by omega) (by omega)
          rw [ms_ar_q (by omega)] at ha
          exact va_aldq (D := X.2.1) (C := "RowGrader$Figure") hx hb hK hP k 4 ha rfl hin hd h3
        · exact ms_aald105 hx hb hK hP hT hin hd h3
      case iastore =>
        have hlen : len = 1 := of_decide_eq_true hlen
        subst hlen
        have hn := Option.some.inj hn
        subst hn
        obtain ⟨k, i, x, r, rfl, hT, hin, h2⟩ := mm_rii_v hrun
        obtain ⟨hk, ha⟩ := ms_arr (X := X) (I := I) (J := J) hT (by omega) (by omega)
        rw [ms_ar_i (Or.inl hT)] at ha
        show W p l e R s m args below meth c H locs cells slots QQ (F0 m pc lsA (_ :: .int i :: .ref (ms_r X k) :: r.map (ms_v X)))
        rw [ms_r_lt hk]
        refine va_iast (D := X.2.1) (x := x) hx hb hK hP hD hS k 0 ha rfl (i := i) hin hd (fun H1 locs1 hP1 hD1 hS1 => ?_)
        have e2 : (ms_ws X I J).set k (X.1 + k, .inl (X.2.2.1 (mm_T k).1, ms_ar X (mm_wI I k i.toNatClampNeg x) J k)) = ms_ws X (mm_wI I k i.toNatClampNeg x) J := by
          have e3 : va_E.inl_ (X.2.2.1 (mm_T k).1) (ms_ar X (mm_wI I k i.toNatClampNeg x) J k) = ms_ce X (mm_wI I k i.toNatClampNeg x) J k := by
            unfold ms_ce va_E.inl_
            rw [if_neg (by omega)]
          unfold va_E.inl_ at e3
          rw [e3]
          exact ms_set (fun a ha => by unfold mm_wI; rw [if_neg ha]) (fun _ _ => rfl)
        rw [hT, ms_ar_i (Or.inl hT)] at e2
        rw [show (mm_wI I k i.toNatClampNeg x) k = upd (I k) i.toNatClampNeg x by unfold mm_wI; rw [if_pos rfl]] at e2
        refine go hl (H' := H1) (locs' := locs1) ?_ hS1 h2
        unfold ms_P
        rw [← e2]
        exact hP1
      case bastore =>
        have hlen : len = 1 := of_decide_eq_true hlen
        subst hlen
        have hn := Option.some.inj hn
        subst hn
        obtain ⟨k, i, x, r, rfl, hT, hin, h01, h2⟩ := mm_rii_v hrun
        obtain ⟨hk, ha⟩ := ms_arr (X := X) (I := I) (J := J) hT (by omega) (by omega)
        rw [ms_ar_i (Or.inr hT)] at ha
        show W p l e R s m args below meth c H locs cells slots QQ (F0 m pc lsA (_ :: .int i :: .ref (ms_r X k) :: r.map (ms_v X)))
        rw [ms_r_lt hk]
        refine va_zast (D := X.2.1) (x := x) hx hb hK hP hD hS k 2 ha rfl (i := i) hin hd (fun H1 locs1 hP1 hD1 hS1 => ?_)
        have e2 : (ms_ws X I J).set k (X.1 + k, .inl (X.2.2.1 (mm_T k).1, ms_ar X (mm_wI I k i.toNatClampNeg x) J k)) = ms_ws X (mm_wI I k i.toNatClampNeg x) J := by
          have e3 : va_E.inl_ (X.2.2.1 (mm_T k).1) (ms_ar X (mm_wI I k i.toNatClampNeg x) J k) = ms_ce X (mm_wI I k i.toNatClampNeg x) J k := by
            unfold ms_ce va_E.inl_
            rw [if_neg (by omega)]
          unfold va_E.inl_ at e3
          rw [e3]
          exact ms_set (fun a ha => by unfold mm_wI; rw [if_neg ha]) (fun _ _ => rfl)
        rw [hT, ms_ar_i (Or.inr hT)] at e2
        rw [show (mm_wI I k i.toNatClampNeg x) k = upd (I k) i.toNatClampNeg (vp_nar .boolean x) by rw [(ms_nar_b h01).2.2]; unfold mm_wI; rw [if_pos rfl]] at e2
        refine go hl (H' := H1) (locs' := locs1) ?_ hS1 h2
        unfold ms_P
        rw [← e2]
        exact hP1
      case lastore =>
        have hlen : len = 1 := of_decide_eq_true hlen
        subst hlen
        have hn := Option.some.inj hn
        subst hn
        obtain ⟨k, i, x, r, rfl, hT, hin, h2⟩ := mm_ril_v hrun
        obtain ⟨hk, ha⟩ := ms_arr (X := X) (I := I) (J := J) hT (by omega) (by omega)
        rw [ms_ar_l hT] at ha
        show W p l e R s m args below meth c H locs cells slots QQ (F0 m pc lsA (_ :: .int i :: .ref (ms_r X k) :: r.map (ms_v X)))
        rw [ms_r_lt hk]
        refine va_last (D := X.2.1) (x := x) hx hb hK hP hD hS k 1 ha rfl (i := i) hin hd (fun H1 locs1 hP1 hD1 hS1 => ?_)
        have e2 : (ms_ws X I J).set k (X.1 + k, .inl (X.2.2.1 (mm_T k).1, ms_ar X I (mm_wJ J k i.toNatClampNeg x) k)) = ms_ws X I (mm_wJ J k i.toNatClampNeg x) := by
          have e3 : va_E.inl_ (X.2.2.1 (mm_T k).1) (ms_ar X I (mm_wJ J k i.toNatClampNeg x) k) = ms_ce X I (mm_wJ J k i.toNatClampNeg x) k := by
            unfold ms_ce va_E.inl_
            rw [if_neg (by omega)]
          unfold va_E.inl_ at e3
          rw [e3]
          exact ms_set (fun _ _ => rfl) (fun a ha => by unfold mm_wJ; rw [if_neg ha])
        rw [hT, ms_ar_l hT] at e2
        rw [show (mm_wJ J k i.toNatClampNeg x) k = vp_updL (J k) i.toNatClampNeg x by unfold mm_wJ; rw [if_pos rfl]] at e2
        refine go hl (H' := H1) (locs' := locs1) ?_ hS1 h2
        unfold ms_P
        rw [← e2]
        exact hP1
      case arraylength =>
        have hlen : len = 1 := of_decide_eq_true hlen
        subst hlen
        have hn := Option.some.inj hn
        subst hn
        obtain ⟨k, r, rfl, h2⟩ := mm_r1_v hrun
        unfold mm_an at h2
        split at h2
        · rename_i hT
          have hk : k = 999 := ms_T201 hT
          subst hk
          obtain ⟨hX1, hX2⟩ := hE.2.1.2
          have hbl : X.2.2.2 999 < s.heap.size := Nat.lt_of_lt_of_le hX2 hE.2.2
          show W p l e R s m args below meth c H locs cells slots QQ (F0 m pc lsA (.ref (X.2.2.2 999) :: r.map (ms_v X)))
          exact va_slen hx hb hX1 hbl (by unfold ms_A; omega) hS hd (go (st' := .int _ :: r) hl hP hS h2)
        · obtain ⟨hT, h3⟩ := h2
          rcases hT with ⟨h100, h105⟩ | hT
          · have hk : k < mm_N := ms_T_lt (by omega)
            show W p l e R s m args below meth c H locs cells slots QQ (F0 m pc lsA (.ref (ms_r X k) :: r.map (ms_v X)))
            rw [ms_r_lt hk]
            obtain ⟨-, ha⟩ := ms_arr (X := X) (I := I) (J := J) (t := (mm_T k).1) rfl (by omega) (by omega)
            have h4 := go (st' := .int _ :: r) hl hP hS h3
            rcases (show (mm_T k).1 = 100 ∨ (mm_T k).1 = 101 ∨ (mm_T k).1 = 102 ∨ (mm_T k).1 = 103 ∨ (mm_T k).1 = 104 ∨ (mm_T k).1 = 105 by omega) with hT | hT | hT | hT | hT | hT
            · rw [hT] at ha
              exact va_alen (D := X.2.1) hx hb hK hP k 0 ha (ty := .int) rfl rfl hd h4
            · rw [hT] at ha
              exact va_alen (D := X.2.1) hx hb hK hP k 1 ha (ty := .long) rfl rfl hd h4
            · rw [hT] at ha
              exact va_alen (D := X.2.1) hx hb hK hP k 2 ha (ty := .boolean) rfl rfl hd h4
            · rw [hT] at ha
              exact va_alen (D := X.2.1) hx hb hK hP k 3 ha (ty := .object "RowGrader$Row") rfl rfl hd h4
            · rw [hT] at ha
              exact va_alen (D := X.2.1) hx hb hK hP k 4 ha (ty := .object "RowGrader$Figure") rfl rfl hd h4
            · rw [hT] at ha
              exact va_alen (D := X.2.1) hx hb hK hP k 5 ha (ty := .array .int) rfl rfl hd h4
          · obtain ⟨q, hq, hlen⟩ := ms_T200 hT
            have hm : q ∈ mt_st := List.mem_of_find?_eq_some hq
            have hid : q.1 = k := by simpa using List.find?_some hq
            have h9 : 900 ≤ q.1 := by
              have := List.all_eq_true.mp mk_st9 q hm
              simpa using this
            obtain ⟨-, hTT⟩ := hE.2.1.1 q hm
            have h5 := va_tlen hx hb hTT hS (v := Int32.ofNat (mm_T k).2) (by rw [hlen]) hd (go (st' := .int _ :: r) hl hP hS h3)
            show W p l e R s m args below meth c H locs cells slots QQ (F0 m pc lsA (.ref (ms_r X k) :: r.map (ms_v X)))
            rw [show ms_r X k = X.2.2.2 q.1 by rw [← hid, ms_r, if_neg (by omega)]]
            exact h5
      case invokestatic k =>
        have hlen : len = 3 := of_decide_eq_true hlen
        subst hlen
        simp only [mk_nrm] at hn
        cases hq : mk_look mt_ml oo k with
        | some q =>
          rw [hq] at hn
          dsimp only at hn
          cases hg : mt_ms[q.1]? with
          | none => rw [hg] at hn; cases hn
          | some mm =>
            rw [hg] at hn
            dsimp only at hn
            split at hn
            · rename_i hst
              have hn := Option.some.inj hn
              subst hn
              obtain ⟨bs, r, rfl, hbs, h4, hcall⟩ := mm_pn_v _ _ _ hrun
              rw [List.append_nil] at hcall
              exact ms_invS hx hb hml hown hts hE hcs hC hq hg hst hbs h4 hS hP hd hcall (fun v I2 J2 H1 locs1 h5 h6 h7 => by
                have h8 := go (st' := v.toList ++ r) hl h6 h7 h5
                have e9 : (v.toList ++ r).map (ms_v X) = (v.map (ms_v X)).toList ++ r.map (ms_v X) := by cases v <;> simp
                rw [e9] at h8
                exact h8) hl.1
            · cases hn
        | none =>
          rw [hq] at hn
          dsimp only at hn
          cases hac : mk_look mt_ac oo k with
          | none => rw [hac] at hn; cases hn
          | some qa =>
            rw [hac] at hn
            have hn := Option.some.inj hn
            subst hn
            obtain ⟨a0, sp, b0, dp, n, r, rfl, hTa, hTb, h1, h2, h3, h4, h5, h6, h7⟩ := mm_cy_v hrun
            obtain ⟨hka, haa⟩ := ms_arr (X := X) (I := I) (J := J) hTa (by omega) (by omega)
            obtain ⟨hkb, hab⟩ := ms_arr (X := X) (I := I) (J := J) hTb (by omega) (by omega)
            rw [ms_ar_i (Or.inl hTa)] at haa
            rw [ms_ar_i (Or.inl hTb)] at hab
            obtain ⟨wl, wn, wst, wi⟩ := ms_acw hac
            have hsum := ms_len' X h6
            show W p l e R s m args below meth c H locs cells slots QQ (F0 m pc lsA (.int n :: .int dp :: .ref (ms_r X b0) :: .int sp :: .ref (ms_r X a0) :: r.map (ms_v X)))
            rw [ms_r_lt hka, ms_r_lt hkb]
            refine va_copyi (D := X.2.1) (ty := .int) hx hb (by rw [hml]; exact hl.1.symm) hown (hts _ wl) (hts _ wn) (hts _ wst) (hts _ wi) hK hP hD hS a0 b0 0 0 haa hab rfl rfl rfl (sp := sp) (dp := dp) (n := n) h1 h2 h3 h4 h5 (fun _ _ => rfl) hR1 (rest := r.map (ms_v X)) (by rw [show nativeFrameWords "java/lang/System" "arraycopy" 5 = 7 by decide +kernel]; omega) hd (fun H1 locs1 hP1 hD1 hS1 => ?_)
            · have e2 : (ms_ws X I J).set b0 (X.1 + b0, .inl (X.2.2.1 (mm_T b0).1, ms_ar X (mm_cp I a0 sp.toNatClampNeg b0 dp.toNatClampNeg n.toNatClampNeg) J b0)) = ms_ws X (mm_cp I a0 sp.toNatClampNeg b0 dp.toNatClampNeg n.toNatClampNeg) J := by
                have e3 : va_E.inl_ (X.2.2.1 (mm_T b0).1) (ms_ar X (mm_cp I a0 sp.toNatClampNeg b0 dp.toNatClampNeg n.toNatClampNeg) J b0) = ms_ce X (mm_cp I a0 sp.toNatClampNeg b0 dp.toNatClampNeg n.toNatClampNeg) J b0 := by
                  unfold ms_ce va_E.inl_
                  rw [if_neg (by omega)]
                unfold va_E.inl_ at e3
                rw [e3]
                exact ms_set (fun a ha => by unfold mm_cp; rw [if_neg ha]) (fun _ _ => rfl)
              rw [hTb, ms_ar_i (Or.inl hTb)] at e2
              rw [show mm_cp I a0 sp.toNatClampNeg b0 dp.toNatClampNeg n.toNatClampNeg b0 = va_cpy (I a0) (I b0) sp.toNatClampNeg dp.toNatClampNeg n.toNatClampNeg by unfold mm_cp; rw [if_pos rfl]] at e2
              refine go hl (H' := H1) (locs' := locs1) ?_ hS1 h7
              unfold ms_P
              rw [← e2]
              exact hP1
      case invokevirtual k =>
        have hlen : len = 3 := of_decide_eq_true hlen
        subst hlen
        simp only [mk_nrm] at hn
        cases hq : mk_look mt_ml oo k with
        | none => rw [hq] at hn; cases hn
        | some q =>
          rw [hq] at hn
          dsimp only at hn
          cases hg : mt_ms[q.1]? with
          | none => rw [hg] at hn; cases hn
          | some mm =>
            rw [hg] at hn
            dsimp only at hn
            split at hn
            · rename_i hst
              obtain ⟨hst, h11, h90⟩ := hst
              have hn := Option.some.inj hn
              subst hn
              obtain ⟨bs, r, rfl, hbs, hhd, h4, hcall⟩ := mm_pn_v _ _ _ hrun
              rw [List.append_nil] at hcall hhd
              rw [show (mm.2.2.2.2.1 * 100 + (mm.2.2.2.2.2.2.1 + 1)) / 100 = mm.2.2.2.2.1 by omega] at hhd
              rw [show (mm.2.2.2.2.1 * 100 + (mm.2.2.2.2.2.2.1 + 1)) % 100 = mm.2.2.2.2.2.2.1 + 1 by omega] at hbs
              exact ms_invV hx hb hml hown hts hE hcs hC hq hg hst h11 hbs hhd h4 hS hP hd hcall (fun v I2 J2 H1 locs1 h5 h6 h7 => by
                have h8 := go (st' := v.toList ++ r) hl h6 h7 h5
                have e9 : (v.toList ++ r).map (ms_v X) = (v.map (ms_v X)).toList ++ r.map (ms_v X) := by cases v <;> simp
                rw [e9] at h8
                exact h8) hl.1
            · cases hn
      case ireturn =>
        have hlen : len = 1 := of_decide_eq_true hlen
        subst hlen
        simp only [mk_nrm] at hn
        split at hn
        · rename_i h0
          have hn := Option.some.inj hn
          subst hn
          obtain ⟨x, r, rfl, rfl, h2⟩ := mm_i1_v hrun
          exact hret (some (.int x)) .ireturn pc lsA I J H locs (Or.inl ⟨h0, rfl, x, rfl⟩) hd hP hS h2
        · split at hn
          · rename_i h0 h3
            have hn := Option.some.inj hn
            subst hn
            obtain ⟨x, r, rfl, rfl, h01, h2⟩ := mm_i1_v hrun
            exact hret (some (.int x)) .ireturn pc lsA I J H locs (Or.inr (Or.inl ⟨h3, rfl, x, rfl, h01⟩)) hd hP hS h2
          · cases hn
      case lreturn =>
        have hlen : len = 1 := of_decide_eq_true hlen
        subst hlen
        simp only [mk_nrm] at hn
        split at hn
        · rename_i h0
          have hn := Option.some.inj hn
          subst hn
          obtain ⟨x, r, rfl, rfl, h2⟩ := mm_l1_v hrun
          exact hret (some (.long x)) .lreturn pc lsA I J H locs (Or.inr (Or.inr (Or.inl ⟨h0, rfl, x, rfl⟩))) hd hP hS h2
        · cases hn
      case areturn =>
        have hlen : len = 1 := of_decide_eq_true hlen
        subst hlen
        simp only [mk_nrm] at hn
        split at hn
        · rename_i h0
          have hn := Option.some.inj hn
          subst hn
          rcases mm_nn_v hrun with ⟨r, rfl, rfl, h2⟩ | ⟨a, r, rfl, h1⟩
          · exact hret (some .null) .areturn pc lsA I J H locs (Or.inr (Or.inr (Or.inr (Or.inl ⟨h0, rfl, Or.inl rfl⟩)))) hd hP hS h2
          · obtain ⟨rfl, h2⟩ := (show r = [] ∧ rt (some (.ref a)) I J from h1)
            exact hret (some (.ref a)) .areturn pc lsA I J H locs (Or.inr (Or.inr (Or.inr (Or.inl ⟨h0, rfl, Or.inr ⟨a, rfl⟩⟩)))) hd hP hS h2
        · cases hn
      case return_ =>
        have hlen : len = 1 := of_decide_eq_true hlen
        subst hlen
        simp only [mk_nrm] at hn
        split at hn
        · rename_i h0
          have hn := Option.some.inj hn
          subst hn
          obtain ⟨rfl, h2⟩ := (show st = [] ∧ rt none I J from hrun)
          exact hret none .return_ pc lsA I J H locs (Or.inr (Or.inr (Or.inr (Or.inr ⟨h0, rfl, rfl⟩)))) hd hP hS h2
        · cases hn
      all_goals (simp [mk_nrm] at hn)
end MS3
