/-! the state of the two, and how each keeps it -/
abbrev st_T : Type := Nat × Nat × Nat × Bool × (Nat → fg_T) × (Nat → Nat) × Nat × Nat × (Nat → Nat → List Nat) × (Nat → rw_T) × Bool × (Nat → gr_T) × List Nat
abbrev sNp (s : st_T) : Nat := s.1
abbrev sNf (s : st_T) : Nat := s.2.1
abbrev sNr (s : st_T) : Nat := s.2.2.1
abbrev sHg (s : st_T) : Bool := s.2.2.2.1
abbrev sF (s : st_T) : (Nat → fg_T) := s.2.2.2.2.1
abbrev sT (s : st_T) : (Nat → Nat) := s.2.2.2.2.2.1
abbrev sN (s : st_T) : Nat := s.2.2.2.2.2.2.1
abbrev sLg (s : st_T) : Nat := s.2.2.2.2.2.2.2.1
abbrev sW (s : st_T) : (Nat → Nat → List Nat) := s.2.2.2.2.2.2.2.2.1
abbrev sR (s : st_T) : (Nat → rw_T) := s.2.2.2.2.2.2.2.2.2.1
abbrev sGd (s : st_T) : Bool := s.2.2.2.2.2.2.2.2.2.2.1
abbrev sG (s : st_T) : (Nat → gr_T) := s.2.2.2.2.2.2.2.2.2.2.2.1
abbrev sC (s : st_T) : List Nat := s.2.2.2.2.2.2.2.2.2.2.2.2
abbrev uNp (s : st_T) (x : Nat) : st_T := (x, s.2)
abbrev uNf (s : st_T) (x : Nat) : st_T := (s.1, x, s.2.2)
abbrev uNr (s : st_T) (x : Nat) : st_T := (s.1, s.2.1, x, s.2.2.2)
abbrev uHg (s : st_T) (x : Bool) : st_T := (s.1, s.2.1, s.2.2.1, x, s.2.2.2.2)
abbrev uF (s : st_T) (x : (Nat → fg_T)) : st_T := (s.1, s.2.1, s.2.2.1, s.2.2.2.1, x, s.2.2.2.2.2)
abbrev uT (s : st_T) (x : (Nat → Nat)) : st_T := (s.1, s.2.1, s.2.2.1, s.2.2.2.1, s.2.2.2.2.1, x, s.2.2.2.2.2.2)
abbrev uN (s : st_T) (x : Nat) : st_T := (s.1, s.2.1, s.2.2.1, s.2.2.2.1, s.2.2.2.2.1, s.2.2.2.2.2.1, x, s.2.2.2.2.2.2.2)
abbrev uLg (s : st_T) (x : Nat) : st_T := (s.1, s.2.1, s.2.2.1, s.2.2.2.1, s.2.2.2.2.1, s.2.2.2.2.2.1, s.2.2.2.2.2.2.1, x, s.2.2.2.2.2.2.2.2)
abbrev uW (s : st_T) (x : (Nat → Nat → List Nat)) : st_T := (s.1, s.2.1, s.2.2.1, s.2.2.2.1, s.2.2.2.2.1, s.2.2.2.2.2.1, s.2.2.2.2.2.2.1, s.2.2.2.2.2.2.2.1, x, s.2.2.2.2.2.2.2.2.2)
abbrev uR (s : st_T) (x : (Nat → rw_T)) : st_T := (s.1, s.2.1, s.2.2.1, s.2.2.2.1, s.2.2.2.2.1, s.2.2.2.2.2.1, s.2.2.2.2.2.2.1, s.2.2.2.2.2.2.2.1, s.2.2.2.2.2.2.2.2.1, x, s.2.2.2.2.2.2.2.2.2.2)
abbrev uGd (s : st_T) (x : Bool) : st_T := (s.1, s.2.1, s.2.2.1, s.2.2.2.1, s.2.2.2.2.1, s.2.2.2.2.2.1, s.2.2.2.2.2.2.1, s.2.2.2.2.2.2.2.1, s.2.2.2.2.2.2.2.2.1, s.2.2.2.2.2.2.2.2.2.1, x, s.2.2.2.2.2.2.2.2.2.2.2)
abbrev uG (s : st_T) (x : (Nat → gr_T)) : st_T := (s.1, s.2.1, s.2.2.1, s.2.2.2.1, s.2.2.2.2.1, s.2.2.2.2.2.1, s.2.2.2.2.2.2.1, s.2.2.2.2.2.2.2.1, s.2.2.2.2.2.2.2.2.1, s.2.2.2.2.2.2.2.2.2.1, s.2.2.2.2.2.2.2.2.2.2.1, x, s.2.2.2.2.2.2.2.2.2.2.2.2)
abbrev uC (s : st_T) (x : List Nat) : st_T := (s.1, s.2.1, s.2.2.1, s.2.2.2.1, s.2.2.2.2.1, s.2.2.2.2.2.1, s.2.2.2.2.2.2.1, s.2.2.2.2.2.2.2.1, s.2.2.2.2.2.2.2.2.1, s.2.2.2.2.2.2.2.2.2.1, s.2.2.2.2.2.2.2.2.2.2.1, s.2.2.2.2.2.2.2.2.2.2.2.1, x)
/-- what is so of a state -/
def va (s : st_T) : Prop := (sNp s ≤ 7 ∧ sNf s ≤ 6 ∧ sNr s ≤ 40 ∧ sLg s < 2) ∧ (∀ i, i < 6 → fgB (sF s i) ∧ (sF s i).2.2 < 128) ∧ rw_W (sW s) ∧ (∀ r, 1 ≤ r → r ≤ sNr s → vr (sNp s) (sR s r)) ∧ (sHg s = true → isP (sNp s) (sR s 0).1 ∧ (sR s 0).2 = (0, -5, []))
def gC (I : mm_I) (c : Nat) (g : gr_T) : Prop := I c 5 = nI g.1 ∧ I c 6 = nI g.2.1 ∧ I c 7 = nI g.2.2.1 ∧ I c 8 = nI g.2.2.2.1 ∧ I c 9 = g.2.2.2.2
def gM (I : mm_I) (r : Nat) (g : gr_T) : Prop := I 154 r = nI g.1 ∧ I 150 r = nI g.2.1 ∧ I 151 r = nI g.2.2.1 ∧ I 152 r = nI g.2.2.2.1 ∧ I 153 r = g.2.2.2.2
/-- what is so of grades -/
def vg (g : gr_T) : Prop := g.1 ≤ 40 ∧ g.2.1 ≤ 2 ∧ g.2.2.1 ≤ 5 ∧ g.2.2.2.1 ≤ 5 ∧ (g.1 = 0 → g = gr0)
def cnt (n : Nat) (p : Nat → Bool) : Nat := (List.range' 1 n).countP p
noncomputable def lvF (s : st_T) (f : Nat) : Nat := rt_lvl (sNp s) (S0 (sNr s) (sR s) (sG s)) f
/-- the hint towards a fact: none, if it is there already or too far -/
noncomputable def hntF (s : st_T) (f : Nat) : Option Nat := if lvF s f = 0 ∨ 5 < lvF s f then none else some (hnt (sNp s) (lvF s) 5 f)
def rcG (I : mm_I) (s : st_T) : Prop := (∀ r, 1 ≤ r → r ≤ sNr s → gC I (4 + 2 * r) (sG s r)) ∧ (I 112 4 = nI (cnt (sNr s) fun r => (sG s r).2.1 == 1) ∧ I 112 5 = nI (cnt (sNr s) fun r => (sG s r).1 == 0) ∧ I 112 6 = nI (cnt (sNr s) fun r => (sG s r).2.2.1 == 3)) ∧ (I 112 9 = nI (sC s).length ∧ ∀ i, i < (sC s).length → I 126 i = nI ((sC s).getD i 0)) ∧ (∃ S, rl_rep I (sNp s) S ∧ al_ok (sNp s) (S0 (sNr s) (sR s) (sG s)) S) ∧ (I 112 10 = -1 ∨ ∃ g, isP (sNp s) g ∧ I 112 10 = nI g ∧ I 112 11 = eI (hntF s g))
/-- the levels that the reference keeps -/
def lvs (V : Nat → Nat) (t : Nat) : Nat := if isF (un t) = true ∧ sl (un t) = t then V (un t) else 6
def rm_lv (I : mm_I) (V : Nat → Nat) : Prop := ∀ t, t < 4400 → I 137 t = if lvs V t < 6 then nI (lvs V t) else -1
def rmG (I : mm_I) (s : st_T) : Prop := (∀ r, 1 ≤ r → r ≤ sNr s → gM I r (sG s r)) ∧ (I 127 44 = nI (sC s).length ∧ ∀ i, i < (sC s).length → I 155 i = nI ((sC s).getD i 0)) ∧ (I 127 47 = 5 → rm_lv I (lvF s))
/-- what is so of a grading -/
def vaG (s : st_T) : Prop := (∀ r, 1 ≤ r → r ≤ sNr s → vg (sG s r)) ∧ (sC s).length ≤ 40 ∧ ∀ c ∈ sC s, c ≤ 40
def repC (I : mm_I) (J : mm_J) (s : st_T) : Prop := (I 1 0 = nI (sNp s) ∧ I 1 1 = nI (sNf s) ∧ I 1 2 = nI (sNr s) ∧ I 1 3 = mb (sHg s)) ∧ (∀ i, i < 6 → rg_fig I i (sF s i)) ∧ rt_rep I (sT s) (sN s) ∧ rw_C I J (sLg s) (sW s) ∧ (∀ r, 1 ≤ r → r ≤ sNr s → rC_row I (4 + 2 * r) (sR s r)) ∧ (sHg s = true → rC_row I 2 (sR s 0)) ∧ I 112 3 = mb (sGd s) ∧ (sGd s = true → rcG I s)
/-- the reference's tables and its goal's row -/
def mtL : List Nat := [6, 6, 6, 3, 3, 3, 5, 6, 3, 4, 4, 4, 5, 5, 5, 3, 5]
def mtF : List Nat := [4, 4, 4, 3, 3, 3, 3, 4, 3, 3, 3, 3, 3, 4, 3, 3, 4]
def mt1 : List Int := [10123, 20123, 20123, 40120, 40120, 60120, 40120, 30123, 10102, 120, 30121, 40120, 30102, 50123, 120, 120, 20123]
def mt2 : List Int := [12345, 22345, 12345, -1, -1, -1, 43140, 32345, -1, 130, 30323, 20312, 30203, 50124, 10134, 30102, 140]
def mt3 : List Int := [10145, 10145, 20145, 30102, 60120, 120, 10324, 30145, 120, 230, 20213, 33132, 51234, 50134, 10234, 40120, 20423]
def mtb (I : mm_I) (m : Nat) : Prop := I 131 m = nI (mtL.getD m 0) ∧ I 132 m = nI (mtF.getD m 0) ∧ I 133 m = Int32.ofInt (mt1.getD m 0) ∧ I 134 m = Int32.ofInt (mt2.getD m 0) ∧ I 135 m = Int32.ofInt (mt3.getD m 0)
def mtab (I : mm_I) : Prop := (∀ m, m < 17 → mtb I m) ∧ I 145 0 = 0 ∧ I 147 0 = 0
def repM (I : mm_I) (J : mm_J) (s : st_T) : Prop := (I 127 0 = nI (sNp s) ∧ I 127 1 = nI (sNf s) ∧ I 127 24 = nI (sNr s) ∧ I 127 25 = mb (sHg s)) ∧ (∀ i, i < 6 → rm_fig I i (sF s i)) ∧ rm_tape I (sT s) (sN s) ∧ rw_M I J (sLg s) (sW s) ∧ (∀ r, 1 ≤ r → r ≤ sNr s → rM_row I r (sR s r)) ∧ (sHg s = true → rM_row I 0 (sR s 0)) ∧ I 127 37 = mb (sGd s) ∧ (sGd s = true → rmG I s) ∧ mtab I
def frC (I : mm_I) (J : mm_J) (I' : mm_I) (J' : mm_J) : Prop := ∀ k, 127 ≤ k → I' k = I k ∧ J' k = J k
def frM (I : mm_I) (J : mm_J) (I' : mm_I) (J' : mm_J) : Prop := ∀ k, k < 127 → I' k = I k ∧ J' k = J k
