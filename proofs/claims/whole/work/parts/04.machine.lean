/-! ===== a small machine over numbered cells: ints and longs alone change, references stay ===== -/
abbrev mm_I : Type := Nat → Nat → Int32
abbrev mm_J : Type := Nat → Nat → Int64
abbrev mm_S : Type := Nat × (Nat → Int32)
abbrev mm_L : Type := List (Option Value)
abbrev mm_B : Type := Nat × Nat × List Instr
def mm_N : Nat := 158
/-- a cell's kind and size: below 100 an object of that class; 100 int[], 101 long[], 102 boolean[], 103 Row[], 104 Figure[], 105 int[][]; 200 a constant int[]; 201 the script -/
def mm_T (k : Nat) : Nat × Nat := if k < 900 then mt_Tl.getD k (999, 0) else if k = 999 then (201, 0) else match mt_st.find? (fun q => q.1 == k) with
  | some q => (200, q.2.2.2.length)
  | none => (999, 0)
def mm_R (k j : Nat) : Option Nat := (mt_Rl.getD k []).getD j none
def mm_ro (k j : Nat) : Int32 := match mt_st.find? (fun q => q.1 == k) with
  | some q => Int32.ofInt (q.2.2.2.getD j 0)
  | none => 0
def mm_wI (I : mm_I) (k j : Nat) (x : Int32) : mm_I := fun a => if a = k then upd (I k) j x else I a
def mm_wJ (J : mm_J) (k j : Nat) (x : Int64) : mm_J := fun a => if a = k then vp_updL (J k) j x else J a
def mm_cp (I : mm_I) (a sp b dp n : Nat) : mm_I := fun k => if k = b then va_cpy (I a) (I b) sp dp n else I k
/-- the locals -/
def mm_gt : mm_L → Nat → Option Value
  | [], _ => none
  | o :: _, 0 => o
  | _ :: t, k + 1 => mm_gt t k
def mm_clr : Option Value → Option Value
  | some (.long _) => none
  | some (.double _) => none
  | o => o
def mm_s1 : mm_L → Nat → Value → mm_L
  | [], _, _ => []
  | _ :: t, 0, v => some v :: t
  | o :: t, 1, v => mm_clr o :: mm_s1 t 0 v
  | o :: t, k + 2, v => o :: mm_s1 t (k + 1) v
def mm_s2 : mm_L → Nat → Value → mm_L
  | [], _, _ => []
  | _ :: t, 0, v => some v :: (match t with | [] => [] | _ :: t' => none :: t')
  | o :: t, 1, v => mm_clr o :: mm_s2 t 0 v
  | o :: t, k + 2, v => o :: mm_s2 t (k + 1) v
def mm_en : List Value → mm_L
  | [] => []
  | .long x :: t => some (.long x) :: none :: mm_en t
  | .double x :: t => some (.double x) :: none :: mm_en t
  | v :: t => some v :: mm_en t
def mm_entry (as : List Value) (n : Nat) : mm_L := mm_en as ++ List.replicate (n - (mm_en as).length) none
/-- what stands on the stack -/
def mm_i1 (st : List Value) (K : Int32 → List Value → Prop) : Prop := match st with
  | .int x :: r => K x r
  | _ => False
def mm_i2 (st : List Value) (K : Int32 → Int32 → List Value → Prop) : Prop := match st with
  | .int y :: .int x :: r => K x y r
  | _ => False
def mm_l1 (st : List Value) (K : Int64 → List Value → Prop) : Prop := match st with
  | .long x :: r => K x r
  | _ => False
def mm_l2 (st : List Value) (K : Int64 → Int64 → List Value → Prop) : Prop := match st with
  | .long y :: .long x :: r => K x y r
  | _ => False
def mm_li (st : List Value) (K : Int64 → Int32 → List Value → Prop) : Prop := match st with
  | .int y :: .long x :: r => K x y r
  | _ => False
def mm_r1 (st : List Value) (K : Nat → List Value → Prop) : Prop := match st with
  | .ref k :: r => K k r
  | _ => False
def mm_ri (st : List Value) (K : Nat → Int32 → List Value → Prop) : Prop := match st with
  | .int x :: .ref k :: r => K k x r
  | _ => False
def mm_rl (st : List Value) (K : Nat → Int64 → List Value → Prop) : Prop := match st with
  | .long x :: .ref k :: r => K k x r
  | _ => False
def mm_rii (st : List Value) (K : Nat → Int32 → Int32 → List Value → Prop) : Prop := match st with
  | .int x :: .int i :: .ref k :: r => K k i x r
  | _ => False
def mm_ril (st : List Value) (K : Nat → Int32 → Int64 → List Value → Prop) : Prop := match st with
  | .long x :: .int i :: .ref k :: r => K k i x r
  | _ => False
def mm_nn (st : List Value) (A B : List Value → Prop) : Prop := match st with
  | .null :: r => A r
  | .ref _ :: r => B r
  | _ => False
def mm_dup (st : List Value) (K : Value → List Value → Prop) : Prop := match st with
  | .int x :: r => K (.int x) r
  | .ref k :: r => K (.ref k) r
  | .null :: r => K .null r
  | _ => False
def mm_cy (st : List Value) (K : Nat → Int32 → Nat → Int32 → Int32 → List Value → Prop) : Prop := match st with
  | .int n :: .int dp :: .ref b :: .int sp :: .ref a :: r => K a sp b dp n r
  | _ => False
def mm_xi (o : Option Value) (K : Int32 → Prop) : Prop := match o with
  | some (.int x) => K x
  | _ => False
def mm_xl (o : Option Value) (K : Int64 → Prop) : Prop := match o with
  | some (.long x) => K x
  | _ => False
def mm_xr (o : Option Value) (K : Value → Prop) : Prop := match o with
  | some (.ref k) => K (.ref k)
  | some .null => K .null
  | _ => False
def mm_pn : Nat → List Value → List Value → (List Value → List Value → Prop) → Prop
  | 0, st, as, K => K as st
  | _ + 1, [], _, _ => False
  | n + 1, v :: st, as, K => mm_pn n st (v :: as) K
def mm_hd (as : List Value) (c : Nat) : Prop := match as with
  | .ref k :: _ => (mm_T k).1 = c
  | _ => False
def mm_cc (c : Jvm.ClassFile.Cond) (x y : Int32) : Prop := match c with
  | .eq => x = y
  | .ne => ¬ x = y
  | .lt => x < y
  | .ge => y ≤ x
  | .gt => y < x
  | .le => x ≤ y
/-- a branch -/
def mm_br (c : Jvm.ClassFile.Cond) (x y : Int32) (A B : Prop) : Prop := match c with
  | .eq => (x = y → A) ∧ (¬ x = y → B)
  | .ne => (¬ x = y → A) ∧ (x = y → B)
  | .lt => (x < y → A) ∧ (¬ x < y → B)
  | .ge => (y ≤ x → A) ∧ (¬ y ≤ x → B)
  | .gt => (y < x → A) ∧ (¬ y < x → B)
  | .le => (x ≤ y → A) ∧ (¬ x ≤ y → B)
def mm_sw (x : Int32) (K : Nat → Prop) (d : Nat) : Int → List Int → Prop
  | _, [] => K d
  | lo, t :: ts => (x.toInt = lo → K t.toNat) ∧ (¬ x.toInt = lo → mm_sw x K d (lo + 1) ts)
def mm_al (z : mm_S) (t : Nat × Nat) (k : Nat) (i : Int32) (I : mm_I) (K : Int32 → Prop) : Prop :=
  if t.1 = 100 then vp_in i t.2 ∧ K (I k i.toNatClampNeg) else if t.1 = 200 then vp_in i t.2 ∧ K (mm_ro k i.toNatClampNeg) else if t.1 = 201 then vp_in i z.1 ∧ K (z.2 i.toNatClampNeg) else False
def mm_an (z : mm_S) (t : Nat × Nat) (K : Int32 → Prop) : Prop :=
  if t.1 = 201 then K (Int32.ofNat z.1) else (100 ≤ t.1 ∧ t.1 ≤ 105 ∨ t.1 = 200) ∧ K (Int32.ofNat t.2)
/-- a block's instructions; of the kit's own instructions some stand for others: iconst any int, sipush any long, getfield, getstatic, instanceof the getting of an int, a long, a reference, putfield, putstatic, checkcast the putting of an int, a boolean, a long, anewarray a constant array, invokeinterface, multianewarray a static and another call, monitorenter the copying of ints, freturn the return of a boolean; all targets are places -/
def mm_run (z : mm_S) (C : Nat → List Value → mm_I → mm_J → (Option Value → mm_I → mm_J → Prop) → Prop) (rt : Option Value → mm_I → mm_J → Prop) (ex : Nat → mm_L → List Value → mm_I → mm_J → Prop) (e : Nat) : List Instr → mm_L → List Value → mm_I → mm_J → Prop
  | [], ls, st, I, J => ex e ls st I J
  | i :: is, ls, st, I, J => match i with
    | .iconst v => mm_run z C rt ex e is ls (.int (Int32.ofInt v) :: st) I J
    | .sipush v => mm_run z C rt ex e is ls (.long (Int64.ofInt v) :: st) I J
    | .aconst_null => mm_run z C rt ex e is ls (.null :: st) I J
    | .iload k => mm_xi (mm_gt ls k) fun x => mm_run z C rt ex e is ls (.int x :: st) I J
    | .lload k => mm_xl (mm_gt ls k) fun x => mm_run z C rt ex e is ls (.long x :: st) I J
    | .aload k => mm_xr (mm_gt ls k) fun v => mm_run z C rt ex e is ls (v :: st) I J
    | .istore k => mm_i1 st fun x r => mm_run z C rt ex e is (mm_s1 ls k (.int x)) r I J
    | .lstore k => mm_l1 st fun x r => mm_run z C rt ex e is (mm_s2 ls k (.long x)) r I J
    | .astore k => mm_nn st (fun r => mm_run z C rt ex e is (mm_s1 ls k .null) r I J) fun r => mm_r1 st fun a _ => mm_run z C rt ex e is (mm_s1 ls k (.ref a)) r I J
    | .iinc k n => mm_xi (mm_gt ls k) fun x => mm_run z C rt ex e is (mm_s1 ls k (.int (x + Int32.ofInt n))) st I J
    | .pop => mm_dup st fun _ r => mm_run z C rt ex e is ls r I J
    | .dup => mm_dup st fun v r => mm_run z C rt ex e is ls (v :: v :: r) I J
    | .dup2 => mm_ri st fun k x r => mm_run z C rt ex e is ls (.int x :: .ref k :: .int x :: .ref k :: r) I J
    | .iadd => mm_i2 st fun x y r => mm_run z C rt ex e is ls (.int (x + y) :: r) I J
    | .isub => mm_i2 st fun x y r => mm_run z C rt ex e is ls (.int (x - y) :: r) I J
    | .imul => mm_i2 st fun x y r => mm_run z C rt ex e is ls (.int (x * y) :: r) I J
    | .idiv => mm_i2 st fun x y r => ¬ y = 0 ∧ mm_run z C rt ex e is ls (.int (x / y) :: r) I J
    | .irem => mm_i2 st fun x y r => ¬ y = 0 ∧ mm_run z C rt ex e is ls (.int (x - x / y * y) :: r) I J
    | .ineg => mm_i1 st fun x r => mm_run z C rt ex e is ls (.int (-x) :: r) I J
    | .iand => mm_i2 st fun x y r => mm_run z C rt ex e is ls (.int (x &&& y) :: r) I J
    | .ior => mm_i2 st fun x y r => mm_run z C rt ex e is ls (.int (x ||| y) :: r) I J
    | .ixor => mm_i2 st fun x y r => mm_run z C rt ex e is ls (.int (x ^^^ y) :: r) I J
    | .ishl => mm_i2 st fun x y r => mm_run z C rt ex e is ls (.int (x <<< (y &&& 31)) :: r) I J
    | .ishr => mm_i2 st fun x y r => mm_run z C rt ex e is ls (.int (x >>> (y &&& 31)) :: r) I J
    | .iushr => mm_i2 st fun x y r => mm_run z C rt ex e is ls (.int ((x.toUInt32 >>> (y.toUInt32 &&& Int32.toUInt32 31)).toInt32) :: r) I J
    | .ladd => mm_l2 st fun x y r => mm_run z C rt ex e is ls (.long (x + y) :: r) I J
    | .lsub => mm_l2 st fun x y r => mm_run z C rt ex e is ls (.long (x - y) :: r) I J
    | .lmul => mm_l2 st fun x y r => mm_run z C rt ex e is ls (.long (x * y) :: r) I J
    | .land => mm_l2 st fun x y r => mm_run z C rt ex e is ls (.long (x &&& y) :: r) I J
    | .lor => mm_l2 st fun x y r => mm_run z C rt ex e is ls (.long (x ||| y) :: r) I J
    | .lshl => mm_li st fun x y r => mm_run z C rt ex e is ls (.long (x <<< (y.toInt64 &&& 63)) :: r) I J
    | .lshr => mm_li st fun x y r => mm_run z C rt ex e is ls (.long (x >>> (y.toInt64 &&& 63)) :: r) I J
    | .lushr => mm_li st fun x y r => mm_run z C rt ex e is ls (.long ((x.toUInt64 >>> (y.toInt64.toUInt64 &&& Int64.toUInt64 63)).toInt64) :: r) I J
    | .lcmp => mm_l2 st fun x y r => mm_run z C rt ex e is ls (.int (lg_cmp x y) :: r) I J
    | .i2l => mm_i1 st fun x r => mm_run z C rt ex e is ls (.long x.toInt64 :: r) I J
    | .l2i => mm_l1 st fun x r => mm_run z C rt ex e is ls (.int x.toInt32 :: r) I J
    | .if_icmp c t => mm_i2 st fun x y r => mm_br c x y (ex t.toNat ls r I J) (mm_run z C rt ex e is ls r I J)
    | .ifCond c t => mm_i1 st fun x r => mm_br c x 0 (ex t.toNat ls r I J) (mm_run z C rt ex e is ls r I J)
    | .ifnull t => mm_nn st (fun r => ex t.toNat ls r I J) fun r => mm_run z C rt ex e is ls r I J
    | .ifnonnull t => mm_nn st (fun r => mm_run z C rt ex e is ls r I J) fun r => ex t.toNat ls r I J
    | .goto t => ex t.toNat ls st I J
    | .tableswitch d lo _ ts => mm_i1 st fun x r => mm_sw x (fun t => ex t ls r I J) d.toNat lo ts.toList
    | .getfield n => mm_r1 st fun k r => (mm_T k).1 = n / 100 ∧ mm_run z C rt ex e is ls (.int (I k (n % 100)) :: r) I J
    | .getstatic n => mm_r1 st fun k r => (mm_T k).1 = n / 100 ∧ mm_run z C rt ex e is ls (.long (J k (n % 100)) :: r) I J
    | .instanceof n => mm_r1 st fun k r => (mm_T k).1 = n / 100 ∧ mm_run z C rt ex e is ls (va_rf (mm_R k (n % 100)) :: r) I J
    | .putfield n => mm_ri st fun k x r => (mm_T k).1 = n / 100 ∧ mm_run z C rt ex e is ls r (mm_wI I k (n % 100) x) J
    | .putstatic n => mm_ri st fun k x r => (mm_T k).1 = n / 100 ∧ (x = 0 ∨ x = 1) ∧ mm_run z C rt ex e is ls r (mm_wI I k (n % 100) x) J
    | .checkcast n => mm_rl st fun k x r => (mm_T k).1 = n / 100 ∧ mm_run z C rt ex e is ls r I (mm_wJ J k (n % 100) x)
    | .anewarray n => mm_run z C rt ex e is ls (.ref n :: st) I J
    | .iaload => mm_ri st fun k i r => mm_al z (mm_T k) k i I fun v => mm_run z C rt ex e is ls (.int v :: r) I J
    | .laload => mm_ri st fun k i r => (mm_T k).1 = 101 ∧ vp_in i (mm_T k).2 ∧ mm_run z C rt ex e is ls (.long (J k i.toNatClampNeg) :: r) I J
    | .baload => mm_ri st fun k i r => (mm_T k).1 = 102 ∧ vp_in i (mm_T k).2 ∧ mm_run z C rt ex e is ls (.int (I k i.toNatClampNeg) :: r) I J
    | .aaload => mm_ri st fun k i r => ((mm_T k).1 = 103 ∨ (mm_T k).1 = 104 ∨ (mm_T k).1 = 105) ∧ vp_in i (mm_T k).2 ∧ mm_run z C rt ex e is ls (va_rf (mm_R k i.toNatClampNeg) :: r) I J
    | .iastore => mm_rii st fun k i x r => (mm_T k).1 = 100 ∧ vp_in i (mm_T k).2 ∧ mm_run z C rt ex e is ls r (mm_wI I k i.toNatClampNeg x) J
    | .bastore => mm_rii st fun k i x r => (mm_T k).1 = 102 ∧ vp_in i (mm_T k).2 ∧ (x = 0 ∨ x = 1) ∧ mm_run z C rt ex e is ls r (mm_wI I k i.toNatClampNeg x) J
    | .lastore => mm_ril st fun k i x r => (mm_T k).1 = 101 ∧ vp_in i (mm_T k).2 ∧ mm_run z C rt ex e is ls r I (mm_wJ J k i.toNatClampNeg x)
    | .arraylength => mm_r1 st fun k r => mm_an z (mm_T k) fun v => mm_run z C rt ex e is ls (.int v :: r) I J
    | .monitorenter => mm_cy st fun a sp b dp n r => (mm_T a).1 = 100 ∧ (mm_T b).1 = 100 ∧ ¬ sp < 0 ∧ ¬ dp < 0 ∧ ¬ n < 0 ∧ sp.toNatClampNeg + n.toNatClampNeg ≤ (mm_T a).2 ∧ dp.toNatClampNeg + n.toNatClampNeg ≤ (mm_T b).2 ∧ r.length ≤ 2 ∧ mm_run z C rt ex e is ls r (mm_cp I a sp.toNatClampNeg b dp.toNatClampNeg n.toNatClampNeg) J
    | .invokeinterface g n => mm_pn n st [] fun as r => r.length ≤ 4 ∧ C g as I J fun v I' J' => mm_run z C rt ex e is ls (v.toList ++ r) I' J'
    | .multianewarray g n => mm_pn (n % 100) st [] fun as r => mm_hd as (n / 100) ∧ r.length ≤ 4 ∧ C g as I J fun v I' J' => mm_run z C rt ex e is ls (v.toList ++ r) I' J'
    | .ireturn => mm_i1 st fun x r => r = [] ∧ rt (some (.int x)) I J
    | .freturn => mm_i1 st fun x r => r = [] ∧ (x = 0 ∨ x = 1) ∧ rt (some (.int x)) I J
    | .lreturn => mm_l1 st fun x r => r = [] ∧ rt (some (.long x)) I J
    | .areturn => mm_nn st (fun r => r = [] ∧ rt (some .null) I J) fun r => mm_r1 st fun a _ => r = [] ∧ rt (some (.ref a)) I J
    | .return_ => st = [] ∧ rt none I J
    | _ => False
def mm_bk (bs : List mm_B) (pc : Nat) : Option (Nat × List Instr) := match bs with
  | [] => none
  | b :: t => if b.1 = pc then some b.2 else mm_bk t pc
def mm_code (g : Nat) : List mm_B := mc_all.getD g []
/-- a method's run from a place of it on, to its return: the least that is closed under the blocks -/
def mm_at (z : mm_S) (C : Nat → List Value → mm_I → mm_J → (Option Value → mm_I → mm_J → Prop) → Prop) (bs : List mm_B) (rt : Option Value → mm_I → mm_J → Prop) (pc : Nat) (ls : mm_L) (st : List Value) (I : mm_I) (J : mm_J) : Prop :=
  ∀ P : Nat → mm_L → List Value → mm_I → mm_J → Prop, (∀ pc ls st I J e is, mm_bk bs pc = some (e, is) → mm_run z C rt P e is ls st I J → P pc ls st I J) → P pc ls st I J
def mm_ml (g : Nat) : Nat := match mt_ms[g]? with
  | some m => m.2.2.1
  | none => 0
def mm_call (z : mm_S) : Nat → Nat → List Value → mm_I → mm_J → (Option Value → mm_I → mm_J → Prop) → Prop
  | 0, _, _, _, _, _ => False
  | d + 1, g, as, I, J, Q => (mm_en as).length ≤ mm_ml g ∧ mm_at z (mm_call z d) (mm_code g) Q 0 (mm_entry as (mm_ml g)) [] I J
