/-! ===== the code tables are the bytecode: checked by decision ===== -/
def mk_look {α : Type} : List (Nat × Nat × α) → Nat → Nat → Option α
  | [], _, _ => none
  | q :: t, o, i => if q.1 = o ∧ q.2.1 = i then some q.2.2 else mk_look t o i
theorem mk_look_in {α : Type} {t : List (Nat × Nat × α)} {o i : Nat} {x : α} (h : mk_look t o i = some x) : (o, i, x) ∈ t := by
  induction t with
  | nil => cases h
  | cons q t ih =>
    unfold mk_look at h
    split at h
    · rename_i hq
      obtain ⟨a, b, c⟩ := q
      obtain ⟨rfl, rfl⟩ := hq
      cases h
      exact List.mem_cons_self
    · exact List.mem_cons_of_mem _ (ih h)
/-- a field, by 100 times its class and its number: class, name, descriptor, final -/
def mk_fd (n : Nat) : Option (String × String × String × Bool) := match mt_cls[n / 100]? with
  | some c => match c.2[n % 100]? with
    | some f => some (c.1, f.1, f.2.1, f.2.2)
    | none => none
  | none => none
def mk_ty (n : Nat) : Nat := match mk_fd n with
  | some f => if f.2.2.1 = "I" then 0 else if f.2.2.1 = "Z" then 3 else if f.2.2.1 = "J" then 1 else 2
  | none => 9
def mk_fin (n : Nat) : Bool := match mk_fd n with
  | some f => f.2.2.2
  | none => true
def mk_tgt (pc : Nat) (t : Int) (f : Int → Instr) : Option Instr := if 0 ≤ (pc : Int) + t then some (f ((pc : Int) + t)) else none
/-- an instruction of the bytecode as one of the small machine -/
def mk_nrm (o maxL rc : Nat) (pc : Nat) : Instr → Option Instr
  | .iconst v => some (.iconst v)
  | .bipush v => if (Int8.ofInt v).toInt32 = Int32.ofInt v then some (.iconst v) else none
  | .sipush v => if (Int16.ofInt v).toInt32 = Int32.ofInt v then some (.iconst v) else none
  | .ldc i => match mk_look mt_ci o i with
    | some q => some (.iconst q.1)
    | none => none
  | .ldc_w i => match mk_look mt_ci o i with
    | some q => some (.iconst q.1)
    | none => none
  | .lconst n => if Int64.ofNat n.val = Int64.ofInt n.val then some (.sipush n.val) else none
  | .ldc2_w i => match mk_look mt_cl o i with
    | some q => some (.sipush q.1)
    | none => none
  | .aconst_null => some .aconst_null
  | .iload_n k => some (.iload k)
  | .lload_n k => some (.lload k)
  | .aload_n k => some (.aload k)
  | .iload k => some (.iload k)
  | .lload k => some (.lload k)
  | .aload k => some (.aload k)
  | .istore_n k => if k.val < maxL then some (.istore k) else none
  | .lstore_n k => if k.val + 1 < maxL then some (.lstore k) else none
  | .astore_n k => if k.val < maxL then some (.astore k) else none
  | .istore k => if k < maxL then some (.istore k) else none
  | .lstore k => if k + 1 < maxL then some (.lstore k) else none
  | .astore k => if k < maxL then some (.astore k) else none
  | .iinc k n => if k < maxL then some (.iinc k n) else none
  | .pop => some .pop
  | .dup => some .dup
  | .dup2 => some .dup2
  | .iadd => some .iadd
  | .isub => some .isub
  | .imul => some .imul
  | .idiv => some .idiv
  | .irem => some .irem
  | .ineg => some .ineg
  | .iand => some .iand
  | .ior => some .ior
  | .ixor => some .ixor
  | .ishl => some .ishl
  | .ishr => some .ishr
  | .iushr => some .iushr
  | .ladd => some .ladd
  | .lsub => some .lsub
  | .lmul => some .lmul
  | .land => some .land
  | .lor => some .lor
  | .lshl => some .lshl
  | .lshr => some .lshr
  | .lushr => some .lushr
  | .lcmp => some .lcmp
  | .i2l => some .i2l
  | .l2i => some .l2i
  | .if_icmp c t => mk_tgt pc t (.if_icmp c)
  | .ifCond c t => mk_tgt pc t (.ifCond c)
  | .ifnull t => mk_tgt pc t .ifnull
  | .ifnonnull t => mk_tgt pc t .ifnonnull
  | .goto t => mk_tgt pc t .goto
  | .tableswitch d lo hi ts => if 0 ≤ (pc : Int) + d ∧ ts.toList.all (fun t => decide (0 ≤ (pc : Int) + t)) = true ∧ (hi - lo + 1 = ts.size) then some (.tableswitch ((pc : Int) + d) lo hi (ts.map fun t => (pc : Int) + t)) else none
  | .getfield i => match mk_look mt_fl o i with
    | some q => if mk_ty q.1 = 0 ∨ mk_ty q.1 = 3 then some (.getfield q.1) else if mk_ty q.1 = 1 then some (.getstatic q.1) else if mk_ty q.1 = 2 then some (.instanceof q.1) else none
    | none => none
  | .putfield i => match mk_look mt_fl o i with
    | some q => if mk_fin q.1 = true then none else if mk_ty q.1 = 0 then some (.putfield q.1) else if mk_ty q.1 = 3 then some (.putstatic q.1) else if mk_ty q.1 = 1 then some (.checkcast q.1) else none
    | none => none
  | .getstatic i => match mk_look mt_sf o i with
    | some q => some (.anewarray q.1)
    | none => none
  | .iaload => some .iaload
  | .laload => some .laload
  | .baload => some .baload
  | .aaload => some .aaload
  | .iastore => some .iastore
  | .bastore => some .bastore
  | .lastore => some .lastore
  | .arraylength => some .arraylength
  | .invokestatic i => match mk_look mt_ml o i with
    | some q => match mt_ms[q.1]? with
      | some m => if m.2.2.2.2.2.1 = true then some (.invokeinterface q.1 m.2.2.2.2.2.2.1) else none
      | none => none
    | none => match mk_look mt_ac o i with
      | some _ => some .monitorenter
      | none => none
  | .invokevirtual i => match mk_look mt_ml o i with
    | some q => match mt_ms[q.1]? with
      | some m => if m.2.2.2.2.2.1 = false ∧ m.2.2.2.2.1 < 11 ∧ m.2.2.2.2.2.2.1 < 90 then some (.multianewarray q.1 (m.2.2.2.2.1 * 100 + (m.2.2.2.2.2.2.1 + 1))) else none
      | none => none
    | none => none
  | .ireturn => if rc = 0 then some .ireturn else if rc = 3 then some .freturn else none
  | .lreturn => if rc = 1 then some .lreturn else none
  | .areturn => if rc = 2 then some .areturn else none
  | .return_ => if rc = 4 then some .return_ else none
  | _ => none
def mk_len : Instr → Nat
  | .bipush _ | .ldc _ | .iload _ | .lload _ | .aload _ | .istore _ | .lstore _ | .astore _ => 2
  | .sipush _ | .ldc_w _ | .ldc2_w _ | .iinc _ _ | .if_icmp _ _ | .ifCond _ _ | .ifnull _ | .ifnonnull _ | .goto _ | .getfield _ | .putfield _ | .getstatic _ | .invokestatic _ | .invokevirtual _ => 3
  | _ => 1
def mk_lok (j : Instr) (len : Nat) : Bool := match j with
  | .tableswitch _ _ _ _ => true
  | j => decide (len = mk_len j)
def mk_chk (b : ByteArray) (o maxL rc : Nat) : Nat → Nat → List Instr → Bool
  | pc, e, [] => decide (pc = e)
  | pc, e, i :: is => match decode b pc with
    | .ok (j, len) => decide (mk_nrm o maxL rc pc j = some i) && mk_lok j len && mk_chk b o maxL rc (pc + len) e is
    | .error _ => false
/-- what a method answers, as a number: 0 int, 1 long, 2 an object, 3 boolean, 4 nothing -/
def mk_rc (r : Option FieldType) : Nat := match r with
  | some .int => 0
  | some .long => 1
  | some (.object _) => 2
  | some .boolean => 3
  | none => 4
  | _ => 9
/-- all blocks of a method -/
def mk_bks (b : ByteArray) (o maxL rc : Nat) : List mm_B → Bool
  | [] => true
  | q :: t => mk_chk b o maxL rc q.1 q.2.1 q.2.2 && mk_bks b o maxL rc t
theorem mk_bks_app {b : ByteArray} {o maxL rc : Nat} {l r : List mm_B} (h : mk_bks b o maxL rc l = true) (h' : mk_bks b o maxL rc r = true) : mk_bks b o maxL rc (l ++ r) = true := by
  induction l with
  | nil => exact h'
  | cons q t ih =>
    simp only [mk_bks, Bool.and_eq_true, List.cons_append] at h ⊢
    exact ⟨h.1, ih h.2⟩
/-- a method's bytes as the tables have them; the law's own stand in none -/
def mk_by (m : mt_M) : ByteArray := match lw_tbl[m.2.2.2.2.2.2.2.getD 0 0]? with
  | some (.code _ b _ _) => b
  | _ => code
def mk_meth (m : mt_M) (bs : List mm_B) : Bool := mk_bks (mk_by m) m.2.2.2.2.1 m.2.2.1 (mk_rc m.2.2.2.1) bs
/-- a word of the tables, by its place -/
def mk_w (i : Nat) (w : Jvm.Cond) : Bool := decide (lw_tbl[i]? = some w) && goodWord w
/-- a method's words -/
def mk_words (m : mt_M) : Bool := plainName m.1.cls && decide (mt_own[m.2.2.2.2.1]? = some m.1.cls) && decide (m.1.cls ≠ "java/lang/invoke/MethodHandle" ∧ m.1.cls ≠ "java/lang/invoke/VarHandle") && decide ((parseMethodDescriptor m.1.desc).map (fun d => d.parameters.length) = some m.2.2.2.2.2.2.1) &&
  ((match lw_tbl[m.2.2.2.2.2.2.2.getD 0 0]? with
    | some (.code y _ n r) => decide (y = m.1) && decide (n = m.2.2.1) && decide (r = m.2.2.2.1)
    | _ => false) && mk_w (m.2.2.2.2.2.2.2.getD 3 0) (.initialized m.1.cls) && decide (m.2.2.1 ≤ 19) &&
  (if m.2.2.2.2.2.1 = true then mk_w (m.2.2.2.2.2.2.2.getD 1 0) (.static m.1) else mk_w (m.2.2.2.2.2.2.2.getD 1 0) (.instanceMethod m.1) && mk_w (m.2.2.2.2.2.2.2.getD 2 0) (.selects m.1.cls m.1 m.1)))
def mk_own (o : Nat) : String := mt_own.getD o ""
def mk_flw (q : Nat × Nat × Nat × Nat) : Bool := match mk_fd q.2.2.1 with
  | some f => mk_w (93 + q.2.2.2) (.fieldLink (mk_own q.1) q.2.1 f.1 f.2.1 f.2.2.1)
  | none => false
def mk_sfw (q : Nat × Nat × Nat × Nat) : Bool := match mt_st.find? (fun r => r.1 == q.2.2.1) with
  | some r => mk_w (93 + q.2.2.2) (.fieldLink (mk_own q.1) q.2.1 r.2.1 r.2.2.1 "[I")
  | none => false
def mk_ciw (q : Nat × Nat × Int × Nat) : Bool := mk_w (93 + q.2.2.2) (.constant (mk_own q.1) q.2.1 (Int32.ofInt q.2.2.1))
def mk_clw (q : Nat × Nat × Int × Nat) : Bool := mk_w (93 + q.2.2.2) (.constantLong (mk_own q.1) q.2.1 (Int64.ofInt q.2.2.1))
def mk_mlw (q : Nat × Nat × Nat × Nat) : Bool := match mt_ms[q.2.2.1]? with
  | some m => decide (q.2.2.1 < 221) && mk_w (93 + q.2.2.2) (.methodLink (mk_own q.1) q.2.1 m.1)
  | none => false
