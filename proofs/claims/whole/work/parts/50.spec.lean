/-! rows, and how they are read. A row: fact, reason, rule, of -/
abbrev rw_T : Type := Nat × Nat × Int32 × List Nat
def vr (np : Nat) (x : rw_T) : Prop := isP np x.1 ∧ x.2.1 ≤ 3 ∧ (x.2.1 = 3 → ∃ m, m < 17 ∧ x.2.2.1 = nI m) ∧ x.2.2.2.length ≤ 6 ∧ ∀ o ∈ x.2.2.2, 1 ≤ o ∧ o < 1000
def pI (f k : Nat) : Int32 := if k < kdN (kd f) then nI (pt f k) else -5
def rC_row (I : mm_I) (c : Nat) (x : rw_T) : Prop := I c 0 = nI x.1 ∧ I c 1 = nI x.2.1 ∧ I c 2 = x.2.2.1 ∧ I c 3 = nI x.2.2.2.length ∧ ∀ k, k < x.2.2.2.length → I (c + 1) k = nI (x.2.2.2.getD k 0)
def rM_row (I : mm_I) (r : Nat) (x : rw_T) : Prop := I 142 r = nI (kd x.1) ∧ (∀ k, k < 4 → I 143 (4 * r + k) = pI x.1 k) ∧ I 144 r = nI (sl x.1) ∧ I 145 r = nI x.2.1 ∧ I 146 r = x.2.2.1 ∧ I 147 r = nI x.2.2.2.length ∧ ∀ k, k < x.2.2.2.length → I 148 (6 * r + k) = nI (x.2.2.2.getD k 0)
/-! reading: from where a token ended on; an error is a fault's place -/
section RD
variable (T : Nat → Nat) (n np : Nat) (W : Nat → List Nat)
def rdW (i : Nat) : Option Nat := if tk_s (tk_c T n i) = 1 then wh W (tk_c T n i) else none
def rdP : Nat → Nat → Except Nat (List Nat × Nat)
  | 0, i => .ok ([], i)
  | c + 1, i => if tk_s (tk_c T n i) = 2 ∧ tk_n (tk_c T n i) < np then (match rdP c (tk_e T n i) with
    | .ok q => .ok (tk_n (tk_c T n i) :: q.1, q.2)
    | .error p => .error p) else .error (tk_j T n i)
/-- kind, points, fact, where it ends -/
def rdF : Except Nat (Nat × List Nat × Nat × Nat) := match rdW T n W 0 with
  | none => .error (tk_j T n 0)
  | some k => if k < 7 then (match rdP T n np (kdN k) (tk_e T n 0) with
    | .error p => .error p
    | .ok q => (match n_number k (q.1.getD 0 0) (q.1.getD 1 0) (q.1.getD 2 0) (q.1.getD 3 0) with
      | none => .error (tk_j T n 0)
      | some f => .ok (k, q.1, f, q.2))) else .error (tk_j T n 0)
def rdE (i : Nat) (x : Nat × Int32 × List Nat) : Except Nat (Nat × Int32 × List Nat) := if tk_s (tk_c T n i) = 0 then .ok x else .error (tk_j T n i)
def rdO (m : Nat) : Nat → List Nat → Nat → Except Nat (Nat × Int32 × List Nat)
  | 0, os, i => rdE T n i (3, nI m, os)
  | w + 1, os, i => if os ≠ [] ∧ tk_s (tk_c T n i) = 0 then .ok (3, nI m, os) else if tk_s (tk_c T n i) = 3 ∧ 1 ≤ tk_n (tk_c T n i) then rdO m w (os ++ [tk_n (tk_c T n i)]) (tk_e T n i) else .error (tk_j T n i)
def rdU (i : Nat) : Except Nat (Nat × Int32 × List Nat) := if tk_s (tk_c T n i) = 3 ∧ tk_n (tk_c T n i) < 17 then (if tk_s (tk_c T n (tk_e T n i)) = 0 then .ok (3, nI (tk_n (tk_c T n i)), []) else if rdW T n W (tk_e T n i) = some 10 then rdO T n (tk_n (tk_c T n i)) 6 [] (tk_e T n (tk_e T n i)) else .error (tk_j T n (tk_e T n i))) else .error (tk_j T n i)
def rdR (i : Nat) : Except Nat (Nat × Int32 × List Nat) := if tk_s (tk_c T n i) = 0 then .ok (0, -5, []) else if rdW T n W i = some 7 then rdE T n (tk_e T n i) (1, -5, []) else if rdW T n W i = some 8 then rdE T n (tk_e T n i) (2, -5, []) else if rdW T n W i = some 9 then rdU T n W (tk_e T n i) else .error (tk_j T n i)
end RD
