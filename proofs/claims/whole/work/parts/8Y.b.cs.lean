/-! a small machine for constructors: no input, so it is run -/
abbrev cs_H : Type := List (Nat × List Value)
def cs_n (h : cs_H) : Nat := (h.map fun c => c.2.length).sum
def cs_dv (ci : Nat) : List Value := (List.range ((mt_cls.getD ci ("", [])).2.length)).map fun f => if mk_ty (ci * 100 + f) = 1 then .long 0 else if mk_ty (ci * 100 + f) = 2 then .null else .int 0
def cs_tx : List Int32 := [108, 105, 110, 101, 32, 112, 97, 114, 32, 112, 101, 114, 112, 32, 101, 113, 32, 109, 105, 100, 32, 99, 105, 114, 99, 32, 98, 116, 119, 32, 103, 105, 118, 101, 110, 32, 115, 101, 101, 110, 32, 98, 121, 32, 111, 102]
abbrev cs_S : Type := mm_L × List Value × cs_H
/-- a value that is put into a field -/
def cs_pt (oo n : Nat) (v : Value) : Bool := match v with
  | .int _ => mk_ty n == 0 && !mk_fin n
  | .ref k => mk_ty n == 2 && mk_fin n && n / 100 == oo && decide (k < 900)
  | _ => false
def cs_in_ (i : Int32) (n : Nat) : Bool := !decide (i < 0) && decide (i.toNatClampNeg < n)
/-- steps that stay in the method and go on behind the instruction -/
def cs_st (oo maxL : Nat) (i : Instr) (ls : mm_L) (st : List Value) (h : cs_H) : Option cs_S := match i with
  | .iconst v => some (ls, .int (Int32.ofInt v) :: st, h)
  | .bipush v => if (Int8.ofInt v).toInt32 = Int32.ofInt v then some (ls, .int (Int32.ofInt v) :: st, h) else none
  | .sipush v => if (Int16.ofInt v).toInt32 = Int32.ofInt v then some (ls, .int (Int32.ofInt v) :: st, h) else none
  | .ldc k => match mk_look mt_ci oo k with
    | some q => some (ls, .int (Int32.ofInt q.1) :: st, h)
    | none => if oo = 8 ∧ k = 15 then some (ls, .ref 998 :: st, h) else none
  | .ldc2_w k => match mk_look mt_cl oo k with
    | some q => some (ls, .long (Int64.ofInt q.1) :: st, h)
    | none => none
  | .iload_n k => match mm_gt ls k with
    | some (.int x) => some (ls, .int x :: st, h)
    | _ => none
  | .aload_n k => match mm_gt ls k with
    | some (.ref r) => some (ls, .ref r :: st, h)
    | _ => none
  | .istore_n k => match st with
    | .int x :: r => if k.val < maxL then some (mm_s1 ls k (.int x), r, h) else none
    | _ => none
  | .astore_n k => match st with
    | .ref x :: r => if k.val < maxL then some (mm_s1 ls k (.ref x), r, h) else none
    | _ => none
  | .iinc k n => match mm_gt ls k with
    | some (.int x) => if k < maxL then some (mm_s1 ls k (.int (x + Int32.ofInt n)), st, h) else none
    | _ => none
  | .dup => match st with
    | .ref k :: r => some (ls, .ref k :: .ref k :: r, h)
    | _ => none
  | .i2l => match st with
    | .int x :: r => some (ls, .long x.toInt64 :: r, h)
    | _ => none
  | .iadd => match st with
    | .int y :: .int x :: r => some (ls, .int (x + y) :: r, h)
    | _ => none
  | .lshl => match st with
    | .int y :: .long x :: r => some (ls, .long (x <<< (y.toInt64 &&& 63)) :: r, h)
    | _ => none
  | .lor => match st with
    | .long y :: .long x :: r => some (ls, .long (x ||| y) :: r, h)
    | _ => none
  | .getfield k => match mk_look mt_fl oo k, st with
    | some q, .ref r :: rest => match h[r]? with
      | some c => match c.2[q.1 % 100]? with
        | some v => if c.1 = q.1 / 100 ∧ mk_ty q.1 = 2 ∧ r < 900 then some (ls, v :: rest, h) else none
        | none => none
      | none => none
    | _, _ => none
  | .putfield k => match mk_look mt_fl oo k, st with
    | some q, v :: .ref r :: rest => match h[r]? with
      | some c => if c.1 = q.1 / 100 ∧ r < 900 ∧ q.1 % 100 < c.2.length ∧ cs_pt oo q.1 v = true then some (ls, rest, h.set r (c.1, c.2.set (q.1 % 100) v)) else none
      | none => none
    | _, _ => none
  | .iastore => match st with
    | .int x :: .int i :: .ref r :: rest => match h[r]? with
      | some c => if c.1 = 100 ∧ r < 900 ∧ cs_in_ i c.2.length = true then some (ls, rest, h.set r (c.1, c.2.set i.toNatClampNeg (.int x))) else none
      | none => none
    | _ => none
  | .lastore => match st with
    | .long x :: .int i :: .ref r :: rest => match h[r]? with
      | some c => if c.1 = 101 ∧ r < 900 ∧ cs_in_ i c.2.length = true then some (ls, rest, h.set r (c.1, c.2.set i.toNatClampNeg (.long x))) else none
      | none => none
    | _ => none
  | .laload => match st with
    | .int i :: .ref r :: rest => match h[r]? with
      | some c => match c.2[i.toNatClampNeg]? with
        | some (.long x) => if c.1 = 101 ∧ r < 900 ∧ cs_in_ i c.2.length = true then some (ls, .long x :: rest, h) else none
        | _ => none
      | none => none
    | _ => none
  | .aastore => match st with
    | .ref v :: .int i :: .ref r :: rest => match h[r]?, h[v]? with
      | some c, some c2 => if (c.1 = 103 ∧ c2.1 = 4 ∨ c.1 = 104 ∧ c2.1 = 0) ∧ r < 900 ∧ v < 900 ∧ cs_in_ i c.2.length = true then some (ls, rest, h.set r (c.1, c.2.set i.toNatClampNeg (.ref v))) else none
      | _, _ => none
    | _ => none
  | .new k => match mk_look cs_nl oo k with
    | some q => if h.length < 900 then some (ls, .ref h.length :: st, h ++ [(q.1, cs_dv q.1)]) else none
    | none => none
  | .newarray a => match st with
    | .int n :: r => if ¬ n < 0 ∧ h.length < 900 ∧ n.toNatClampNeg ≤ 5000 then (match a with
      | .int => some (ls, .ref h.length :: r, h ++ [(100, List.replicate n.toNatClampNeg (.int 0))])
      | .long => some (ls, .ref h.length :: r, h ++ [(101, List.replicate n.toNatClampNeg (.long 0))])
      | .boolean => some (ls, .ref h.length :: r, h ++ [(102, List.replicate n.toNatClampNeg (.int 0))])
      | _ => none) else none
    | _ => none
  | .anewarray k => match mk_look cs_al oo k, st with
    | some q, .int n :: r => if ¬ n < 0 ∧ h.length < 900 ∧ n.toNatClampNeg ≤ 5000 then some (ls, .ref h.length :: r, h ++ [(q.1, List.replicate n.toNatClampNeg .null)]) else none
    | _, _ => none
  | .multianewarray k 2 => match st with
    | .int n :: .int x :: r => if oo = 2 ∧ k = 17 ∧ n = 910 ∧ x = 5 ∧ h.length < 800 then some (ls, .ref h.length :: r, h ++ [(105, [.ref (h.length + 1), .ref (h.length + 2), .ref (h.length + 3), .ref (h.length + 4), .ref (h.length + 5)]), (100, List.replicate 910 (.int 0)), (100, List.replicate 910 (.int 0)), (100, List.replicate 910 (.int 0)), (100, List.replicate 910 (.int 0)), (100, List.replicate 910 (.int 0))]) else none
    | _ => none
  | .invokespecial k => match mk_look cs_oi oo k, st with
    | some _, .ref _ :: r => if r.length ≤ 4 then some (ls, r, h) else none
    | _, _ => none
  | .invokevirtual k => match st with
    | .ref 998 :: r => if oo = 8 ∧ k = 17 ∧ r.length ≤ 4 then some (ls, .int 46 :: r, h) else none
    | .int i :: .ref 998 :: r => if oo = 8 ∧ k = 23 ∧ r.length ≤ 4 ∧ cs_in_ i 46 = true then some (ls, .int (cs_tx.getD i.toNatClampNeg 0) :: r, h) else none
    | _ => none
  | .invokestatic k => match mk_look mt_ac oo k, st with
    | some _, .int 11 :: .int 11 :: .ref a :: .int 0 :: .ref b :: r => match h[a]? with
      | some c => if c.1 = 101 ∧ a = b ∧ a < 900 ∧ c.2.length = 22 ∧ r.length ≤ 2 then some (ls, r, h.set a (101, c.2.take 11 ++ c.2.take 11)) else none
      | none => none
    | _, _ => none
  | _ => none
def cs_at : List (Nat × Instr × Nat) → Nat → Option (Instr × Nat)
  | [], _ => none
  | q :: t, pc => if q.1 = pc then some q.2 else cs_at t pc
/-- the arguments of a call -/
def cs_pop : Nat → List Value → List Value → Option (List Value × List Value)
  | 0, st, as => some (as, st)
  | _ + 1, [], _ => none
  | n + 1, v :: st, as => cs_pop n st (v :: as)
def cs_tg (pc : Nat) (t : Int) : Option Nat := if 0 ≤ (pc : Int) + t then some ((pc : Int) + t).toNat else none
def cs_go (C : Nat → List Value → cs_H → Option cs_H) (oo maxL : Nat) (cd : List (Nat × Instr × Nat)) : Nat → Nat → mm_L → List Value → cs_H → Option cs_H
  | 0, _, _, _, _ => none
  | w + 1, pc, ls, st, h => match cs_at cd pc with
    | none => none
    | some (i, len) => match cs_st oo maxL i ls st h with
      | some (ls', st', h') => cs_go C oo maxL cd w (pc + len) ls' st' h'
      | none => match i with
        | .goto t => match cs_tg pc t with
          | some pc' => if len = 3 then cs_go C oo maxL cd w pc' ls st h else none
          | none => none
        | .if_icmp cc t => match cs_tg pc t, st with
          | some pc', .int y :: .int x :: r => if len = 3 then (match cc with
            | .ge => if y ≤ x then cs_go C oo maxL cd w pc' ls r h else cs_go C oo maxL cd w (pc + 3) ls r h
            | .ne => if x = y then cs_go C oo maxL cd w (pc + 3) ls r h else cs_go C oo maxL cd w pc' ls r h
            | _ => none) else none
          | _, _ => none
        | .invokespecial k => match (match mk_look cs_il oo k with | some q => some q.1 | none => (match mk_look cs_in oo k with | some q => some q.1 | none => none)) with
          | some g => match cs_ms[g]? with
            | some m => match cs_pop (m.2.2.2.1 + 1) st [] with
              | some (.ref a :: as, r) => if r.length ≤ 4 ∧ len = 3 then (match C g (.ref a :: as) h with
                | some h' => cs_go C oo maxL cd w (pc + 3) ls r h'
                | none => none) else none
              | _ => none
            | none => none
          | none => none
        | .return_ => if st = [] ∧ len = 1 then some h else none
        | _ => none
def cs_call : Nat → Nat → List Value → cs_H → Option cs_H
  | 0, _, _, _ => none
  | d + 1, g, as, h => match cs_ms[g]? with
    | some m => if (mm_en as).length ≤ m.2.1 then cs_go (cs_call d) m.2.2.1 m.2.1 (cs_cds.getD g []) 3000 0 (mm_entry as m.2.1) [] h else none
    | none => none
set_option maxRecDepth 100000 in
theorem cs_runC : cs_call 5 9 [.ref 0] [(9, cs_dv 9)] = some (cs_h0.take 127) := by decide +kernel
set_option maxRecDepth 100000 in
theorem cs_runM : cs_call 5 10 [.ref 127] (cs_h0.take 127 ++ [(10, cs_dv 10)]) = some cs_h0 := by decide +kernel
