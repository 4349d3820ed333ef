/-! what grading gives -/
/-- the last letter of a part -/
def pw (t : rt_T) : Nat := max t.2.1 (max t.2.2.1 (max t.2.2.2.1 t.2.2.2.2))
def rul (m : Nat) : List rt_T × rt_T := rt_rules.getD m ([], (0, 0, 0, 0, 0))
def ltr (m : Nat) : Nat := pw (rul m).2 + 1
def ls_f (l : List Nat) (i : Nat) : Nat := l.getD i 0
def gkn (kn : Nat → Bool) (o : Option Nat) : Bool := match o with
  | none => false
  | some g => kn g
def gG (m f : Nat) (kn : Nat → Bool) (l : List Nat) : Bool := ((rul m).1.all fun t => gkn kn (rt_f (ls_f l) t)) && rt_f (ls_f l) (rul m).2 == some f
/-- the first letters by which a fact follows -/
def fl (np m f : Nat) (kn : Nat → Bool) : Option (List Nat) := ff np (gG m f kn) (ltr m) []
section GP
variable (np nf nr : Nat) (F : Nat → fg_T) (R : Nat → rw_T)
def gf (i : Nat) : Bool := fg_apart (F i) np && (List.range' 1 nr).all fun r => !((R r).2.1 == 1) || fg_shows (F i) (R r).1
def agn (f : Nat) : Option Nat := (List.range' 0 nf).find? fun i => gf np nr F R i && !fg_shows (F i) f
def S0 (G : Nat → gr_T) (f : Nat) : Prop := ∃ r, 1 ≤ r ∧ r ≤ nr ∧ (G r).2.1 = 1 ∧ (R r).1 = f
def rgt (G : Nat → gr_T) (os : List Nat) : List Nat := (os.filter fun o => decide (o ≤ nr) && (G o).2.1 == 1).map fun o => (R o).1
noncomputable def wyF (G : Nat → gr_T) (r : Nat) : Nat := if (R r).2.1 = 1 then 1 else cif (S0 nr R G (R r).1) 2 (if (R r).2.1 = 2 ∧ kd (R r).1 = 6 ∧ ((List.range' 0 nf).any (gf np nr F R)) = true ∧ agn np nf nr F R (R r).1 = none then 3 else if (R r).2.1 = 3 ∧ (fl np (R r).2.2.1.toNatClampNeg (R r).1 (fun g => (rgt nr R G (R r).2.2.2).contains g)).isSome = true then 4 else cif (rt_lv np (S0 nr R G) 2 (R r).1) 5 0)
noncomputable def gX (G : Nat → gr_T) (t r : Nat) : gr_T := (t, if wyF np nf nr F R G r = 0 then (if agn np nf nr F R (R r).1 = none then 2 else 0) else 1, wyF np nf nr F R G r, if wyF np nf nr F R G r = 5 then rt_lvl np (S0 nr R G) (R r).1 else 0, if wyF np nf nr F R G r = 0 then wI (agn np nf nr F R (R r).1) else -5)
noncomputable def gF : Nat → Nat → gr_T := grs nr (fun r => (R r).2.2.2) (gX np nf nr F R)
end GP
/-- towards a hint: the first of the greatest premises -/
def gpm (V : Nat → Nat) : List Nat → Nat
  | [] => 0
  | p :: ps => ps.foldl (fun b q => if V b < V q then q else b) p
def hpm (np : Nat) (V : Nat → Nat) (f : Nat) : Option Nat := (List.range' 0 17).findSome? fun m => (fl np m f fun g => decide (V g < V f)).map fun l => gpm V ((rul m).1.map fun t => (rt_f (ls_f l) t).getD 0)
def hnt (np : Nat) (V : Nat → Nat) : Nat → Nat → Nat
  | 0, f => f
  | w + 1, f => if V f ≤ 1 then f else hnt np V w ((hpm np V f).getD f)
