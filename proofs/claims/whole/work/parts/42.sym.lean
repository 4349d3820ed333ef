/-! what a figure shows does not hang on the order of the points -/
def bd (x : Int32) : Prop := -1000 ≤ x.toInt ∧ x.toInt ≤ 1000
theorem sub64 {a b : Int32} (ha : bd a) (hb : bd b) : (a - b).toInt64 = a.toInt64 - b.toInt64 := by
  apply Int64.toInt_inj.mp
  obtain ⟨h1, h2⟩ := ha
  obtain ⟨h3, h4⟩ := hb
  rw [Int32.toInt_toInt64, Int64.toInt_sub, Int32.toInt_toInt64, Int32.toInt_toInt64, Int32.toInt_sub]
  rw [Int.bmod_eq_of_le (by omega) (by omega), Int.bmod_eq_of_le (by omega) (by omega)]
def fgB (F : fg_T) : Prop := ∀ p, p < 7 → bd (F.1 p) ∧ bd (F.2.1 p)
/-- over longs -/
def l_cr (ax ay bx bY cx cy dx dy : Int64) : Int64 := (bx - ax) * (dy - cy) - (bY - ay) * (dx - cx)
def l_dt (ax ay bx bY cx cy dx dy : Int64) : Int64 := (bx - ax) * (dx - cx) + (bY - ay) * (dy - cy)
section SY
variable {F : fg_T} {a b c d : Nat}
theorem cross_l (h : fgB F) (ha : a < 7) (hb : b < 7) (hc : c < 7) (hd : d < 7) : fg_cross F a b c d = l_cr (F.1 a).toInt64 (F.2.1 a).toInt64 (F.1 b).toInt64 (F.2.1 b).toInt64 (F.1 c).toInt64 (F.2.1 c).toInt64 (F.1 d).toInt64 (F.2.1 d).toInt64 := by
  unfold fg_cross l_cr
  rw [sub64 (h b hb).1 (h a ha).1, sub64 (h b hb).2 (h a ha).2, sub64 (h d hd).1 (h c hc).1, sub64 (h d hd).2 (h c hc).2]
theorem dot_l (h : fgB F) (ha : a < 7) (hb : b < 7) (hc : c < 7) (hd : d < 7) : fg_dot F a b c d = l_dt (F.1 a).toInt64 (F.2.1 a).toInt64 (F.1 b).toInt64 (F.2.1 b).toInt64 (F.1 c).toInt64 (F.2.1 c).toInt64 (F.1 d).toInt64 (F.2.1 d).toInt64 := by
  unfold fg_dot l_dt
  rw [sub64 (h b hb).1 (h a ha).1, sub64 (h b hb).2 (h a ha).2, sub64 (h d hd).1 (h c hc).1, sub64 (h d hd).2 (h c hc).2]
theorem cr_1 (ax ay bx bY cx cy dx dy : Int64) : l_cr bx bY ax ay cx cy dx dy = - l_cr ax ay bx bY cx cy dx dy := by unfold l_cr; grind
theorem cr_2 (ax ay bx bY cx cy dx dy : Int64) : l_cr ax ay bx bY dx dy cx cy = - l_cr ax ay bx bY cx cy dx dy := by unfold l_cr; grind
theorem cr_3 (ax ay bx bY cx cy dx dy : Int64) : l_cr cx cy dx dy ax ay bx bY = - l_cr ax ay bx bY cx cy dx dy := by unfold l_cr; grind
theorem cr_4 (ax ay bx bY cx cy : Int64) : l_cr bx bY ax ay bx bY cx cy = - l_cr ax ay bx bY ax ay cx cy := by unfold l_cr; grind
theorem dt_1 (ax ay bx bY cx cy dx dy : Int64) : l_dt bx bY ax ay cx cy dx dy = - l_dt ax ay bx bY cx cy dx dy := by unfold l_dt; grind
theorem dt_2 (ax ay bx bY cx cy dx dy : Int64) : l_dt ax ay bx bY dx dy cx cy = - l_dt ax ay bx bY cx cy dx dy := by unfold l_dt; grind
theorem dt_3 (ax ay bx bY cx cy dx dy : Int64) : l_dt cx cy dx dy ax ay bx bY = l_dt ax ay bx bY cx cy dx dy := by unfold l_dt; grind
theorem dt_4 (ax ay bx bY : Int64) : l_dt bx bY ax ay bx bY ax ay = l_dt ax ay bx bY ax ay bx bY := by unfold l_dt; grind
/-- the determinant of a circle -/
def l_ci (ax ay bx bY cx cy dx dy : Int64) : Int64 := l_dt dx dy ax ay dx dy ax ay * l_cr dx dy bx bY dx dy cx cy + l_dt dx dy bx bY dx dy bx bY * l_cr dx dy cx cy dx dy ax ay + l_dt dx dy cx cy dx dy cx cy * l_cr dx dy ax ay dx dy bx bY
theorem ci_1 (ax ay bx bY cx cy dx dy : Int64) : l_ci bx bY ax ay cx cy dx dy = - l_ci ax ay bx bY cx cy dx dy := by unfold l_ci l_dt l_cr; grind
theorem ci_2 (ax ay bx bY cx cy dx dy : Int64) : l_ci ax ay cx cy bx bY dx dy = - l_ci ax ay bx bY cx cy dx dy := by unfold l_ci l_dt l_cr; grind
theorem ci_3 (ax ay bx bY cx cy dx dy : Int64) : l_ci ax ay bx bY dx dy cx cy = - l_ci ax ay bx bY cx cy dx dy := by unfold l_ci l_dt l_cr; grind
theorem neg0 {x : Int64} : (-x == 0) = (x == 0) := by
  rw [Bool.eq_iff_iff, beq_iff_eq, beq_iff_eq]
  constructor
  · intro h
    have : x = -(-x) := by grind
    rw [this, h]
    rfl
  · intro h
    rw [h]
    rfl
theorem ex2_lt (ha : a < 7) (hb : b < 7) : (ex2 a b).1 < 7 ∧ (ex2 a b).2 < 7 := by
  unfold ex2
  split
  · exact ⟨hb, ha⟩
  · exact ⟨ha, hb⟩
theorem ex2_inv {P : Nat → Nat → Bool} (h : P b a = P a b) : P (ex2 a b).1 (ex2 a b).2 = P a b := by
  unfold ex2
  split
  · exact h
  · rfl
theorem nf3_lt (ha : a < 7) (hb : b < 7) (hc : c < 7) : (nf3 a b c).1 < 7 ∧ (nf3 a b c).2.1 < 7 ∧ (nf3 a b c).2.2 < 7 := by
  have p := ex2_lt ha hb
  have q := ex2_lt p.2 hc
  have r := ex2_lt p.1 q.1
  exact ⟨r.1, r.2, q.2⟩
theorem nf3_inv {P : Nat → Nat → Nat → Bool} (h1 : ∀ a b c, a < 7 → b < 7 → c < 7 → P b a c = P a b c) (h2 : ∀ a b c, a < 7 → b < 7 → c < 7 → P a c b = P a b c) (ha : a < 7) (hb : b < 7) (hc : c < 7) : P (nf3 a b c).1 (nf3 a b c).2.1 (nf3 a b c).2.2 = P a b c := by
  have p := ex2_lt ha hb
  have q := ex2_lt p.2 hc
  have e1 := ex2_inv (P := fun x y => P x y c) (h1 a b c ha hb hc)
  have e2 := ex2_inv (P := fun x y => P (ex2 a b).1 x y) (h2 _ _ _ p.1 p.2 hc)
  have e3 := ex2_inv (P := fun x y => P x y (ex2 (ex2 a b).2 c).2) (h1 _ _ _ p.1 q.1 q.2)
  exact e3.trans (e2.trans e1)
theorem nf4_inv {P : Nat → Nat → Nat → Nat → Bool} (h1 : ∀ a b c d, a < 7 → b < 7 → c < 7 → d < 7 → P b a c d = P a b c d) (h2 : ∀ a b c d, a < 7 → b < 7 → c < 7 → d < 7 → P a c b d = P a b c d) (h3 : ∀ a b c d, a < 7 → b < 7 → c < 7 → d < 7 → P a b d c = P a b c d) (ha : a < 7) (hb : b < 7) (hc : c < 7) (hd : d < 7) : P (nf4 a b c d).1 (nf4 a b c d).2.1 (nf4 a b c d).2.2.1 (nf4 a b c d).2.2.2 = P a b c d := by
  obtain ⟨p1, p2, p3⟩ := nf3_lt ha hb hc
  have e0 := nf3_inv (P := fun x y w => P x y w d) (fun a b c ha hb hc => h1 a b c d ha hb hc hd) (fun a b c ha hb hc => h2 a b c d ha hb hc hd) ha hb hc
  have q := ex2_lt p3 hd
  have r := ex2_lt p2 q.1
  have e1 := ex2_inv (P := fun x y => P (nf3 a b c).1 (nf3 a b c).2.1 x y) (h3 _ _ _ _ p1 p2 p3 hd)
  have e2 := ex2_inv (P := fun x y => P (nf3 a b c).1 x y (ex2 (nf3 a b c).2.2 d).2) (h2 _ _ _ _ p1 p2 q.1 q.2)
  have e3 := ex2_inv (P := fun x y => P x y (ex2 (nf3 a b c).2.1 (ex2 (nf3 a b c).2.2 d).1).2 (ex2 (nf3 a b c).2.2 d).2) (h1 _ _ _ _ p1 r.1 r.2 q.2)
  exact e3.trans (e2.trans (e1.trans e0))
theorem nfP_inv {P : Nat → Nat → Nat → Nat → Bool} (h1 : ∀ a b c d, a < 7 → b < 7 → c < 7 → d < 7 → P b a c d = P a b c d) (h3 : ∀ a b c d, a < 7 → b < 7 → c < 7 → d < 7 → P a b d c = P a b c d) (h2 : ∀ a b c d, a < 7 → b < 7 → c < 7 → d < 7 → P c d a b = P a b c d) (ha : a < 7) (hb : b < 7) (hc : c < 7) (hd : d < 7) : P (nfP a b c d).1 (nfP a b c d).2.1 (nfP a b c d).2.2.1 (nfP a b c d).2.2.2 = P a b c d := by
  have p := ex2_lt ha hb
  have q := ex2_lt hc hd
  have e1 := ex2_inv (P := fun x y => P x y c d) (h1 a b c d ha hb hc hd)
  have e2 := ex2_inv (P := fun x y => P (ex2 a b).1 (ex2 a b).2 x y) (h3 _ _ _ _ p.1 p.2 hc hd)
  have e12 := e2.trans e1
  unfold nfP
  dsimp only
  split
  · exact e12
  · exact (h2 _ _ _ _ p.1 p.2 q.1 q.2).trans e12
theorem cr_5 (ax ay bx bY cx cy : Int64) : l_cr ax ay cx cy ax ay bx bY = - l_cr ax ay bx bY ax ay cx cy := by unfold l_cr; grind
/-- a triangle's double content, the third point ahead -/
theorem cr_6 (ax ay bx bY cx cy : Int64) : l_cr cx cy ax ay cx cy bx bY = l_cr ax ay bx bY ax ay cx cy := by unfold l_cr; grind
def l_T (ax ay bx bY cx cy : Int64) : Bool := l_cr ax ay bx bY ax ay cx cy == 0
theorem T_1 (ax ay bx bY cx cy : Int64) : l_T bx bY ax ay cx cy = l_T ax ay bx bY cx cy := by unfold l_T; rw [cr_4, neg0]
theorem T_2 (ax ay bx bY cx cy : Int64) : l_T ax ay cx cy bx bY = l_T ax ay bx bY cx cy := by unfold l_T; rw [cr_5, neg0]
def l_circ (ax ay bx bY cx cy dx dy : Int64) : Bool := !(l_T dx dy bx bY cx cy || l_T dx dy cx cy ax ay || l_T dx dy ax ay bx bY || l_T ax ay bx bY cx cy) && l_ci ax ay bx bY cx cy dx dy == 0
theorem or4_1 (p q r s : Bool) : (p || q || r || s) = (q || p || r || s) := by cases p <;> cases q <;> rfl
theorem or4_2 (p q r s : Bool) : (p || q || r || s) = (p || r || q || s) := by cases p <;> cases q <;> cases r <;> rfl
theorem or4_3 (p q r s : Bool) : (p || q || r || s) = (p || q || s || r) := by cases p <;> cases q <;> cases r <;> cases s <;> rfl
theorem lc_1 (ax ay bx bY cx cy dx dy : Int64) : l_circ bx bY ax ay cx cy dx dy = l_circ ax ay bx bY cx cy dx dy := by
  unfold l_circ
  rw [ci_1, neg0, T_2 dx dy cx cy ax ay, T_2 dx dy bx bY cx cy, T_2 dx dy ax ay bx bY, T_1 ax ay bx bY, or4_1]
theorem lc_2 (ax ay bx bY cx cy dx dy : Int64) : l_circ ax ay cx cy bx bY dx dy = l_circ ax ay bx bY cx cy dx dy := by
  unfold l_circ
  rw [ci_2, neg0, T_2 dx dy bx bY cx cy, T_2 dx dy ax ay bx bY, T_2 dx dy cx cy ax ay, T_2 ax ay bx bY, or4_2]
theorem lc_3 (ax ay bx bY cx cy dx dy : Int64) : l_circ ax ay bx bY dx dy cx cy = l_circ ax ay bx bY cx cy dx dy := by
  unfold l_circ
  have e1 : l_T cx cy bx bY dx dy = l_T dx dy bx bY cx cy := by rw [T_1, T_2, T_1]
  have e2 : l_T cx cy dx dy ax ay = l_T dx dy cx cy ax ay := by rw [T_1]
  have e3 : l_T cx cy ax ay bx bY = l_T ax ay bx bY cx cy := by rw [T_1, T_2]
  have e4 : l_T ax ay bx bY dx dy = l_T dx dy ax ay bx bY := (T_2 ax ay bx bY dx dy).symm.trans (T_1 dx dy ax ay bx bY)
  rw [ci_3, neg0, e1, e2, e3, e4, or4_3]
theorem circ_l (h : fgB F) (ha : a < 7) (hb : b < 7) (hc : c < 7) (hd : d < 7) : fg_circ F a b c d = l_circ (F.1 a).toInt64 (F.2.1 a).toInt64 (F.1 b).toInt64 (F.2.1 b).toInt64 (F.1 c).toInt64 (F.2.1 c).toInt64 (F.1 d).toInt64 (F.2.1 d).toInt64 := by
  unfold fg_circ
  rw [cross_l h hd hb hd hc, cross_l h hd hc hd ha, cross_l h hd ha hd hb, cross_l h ha hb ha hc, dot_l h hd ha hd ha, dot_l h hd hb hd hb, dot_l h hd hc hd hc]
  rfl
theorem ci_s1 (h : fgB F) (ha : a < 7) (hb : b < 7) (hc : c < 7) (hd : d < 7) : fg_circ F b a c d = fg_circ F a b c d := by
  rw [circ_l h hb ha hc hd, circ_l h ha hb hc hd, lc_1]
theorem ci_s2 (h : fgB F) (ha : a < 7) (hb : b < 7) (hc : c < 7) (hd : d < 7) : fg_circ F a c b d = fg_circ F a b c d := by
  rw [circ_l h ha hc hb hd, circ_l h ha hb hc hd, lc_2]
theorem ci_s3 (h : fgB F) (ha : a < 7) (hb : b < 7) (hc : c < 7) (hd : d < 7) : fg_circ F a b d c = fg_circ F a b c d := by
  rw [circ_l h ha hb hd hc, circ_l h ha hb hc hd, lc_3]
/-- the order does not matter -/
theorem so_nf {k f : Nat} (h : fgB F) (hk : k < 7) (ha : a < 7) (hb : b < 7) (hc : c < 7) (hd : d < 7) (hN : n_number k a b c d = some f) : fg_so F k (pt f 0) (pt f 1) (pt f 2) (if kdN k = 4 then pt f 3 else pt f 2) = fg_so F k a b c (if kdN k = 4 then d else c) := by
  obtain ⟨t0, t1, t2, t3⟩ := nf_pt hk ha hb hc hd hN
  rw [t0, t1, t2]
  rcases (show k = 0 ∨ k = 1 ∨ k = 2 ∨ k = 3 ∨ k = 4 ∨ k = 5 ∨ k = 6 by omega) with rfl | rfl | rfl | rfl | rfl | rfl | rfl
  · refine nf3_inv (P := fun a b c => fg_cross F a b a c == 0) (fun a b c ha hb hc => ?_) (fun a b c ha hb hc => ?_) ha hb hc
    · rw [cross_l h hb ha hb hc, cross_l h ha hb ha hc, cr_4, neg0]
    · rw [cross_l h ha hc ha hb, cross_l h ha hb ha hc, cr_5, neg0]
  · rw [t3.resolve_left (by decide)]
    refine nfP_inv (P := fun a b c d => fg_cross F a b c d == 0) (fun a b c d ha hb hc hd => ?_) (fun a b c d ha hb hc hd => ?_) (fun a b c d ha hb hc hd => ?_) ha hb hc hd
    · rw [cross_l h hb ha hc hd, cross_l h ha hb hc hd, cr_1, neg0]
    · rw [cross_l h ha hb hd hc, cross_l h ha hb hc hd, cr_2, neg0]
    · rw [cross_l h hc hd ha hb, cross_l h ha hb hc hd, cr_3, neg0]
  · rw [t3.resolve_left (by decide)]
    refine nfP_inv (P := fun a b c d => fg_dot F a b c d == 0) (fun a b c d ha hb hc hd => ?_) (fun a b c d ha hb hc hd => ?_) (fun a b c d ha hb hc hd => ?_) ha hb hc hd
    · rw [dot_l h hb ha hc hd, dot_l h ha hb hc hd, dt_1, neg0]
    · rw [dot_l h ha hb hd hc, dot_l h ha hb hc hd, dt_2, neg0]
    · rw [dot_l h hc hd ha hb, dot_l h ha hb hc hd, dt_3]
  · rw [t3.resolve_left (by decide)]
    refine nfP_inv (P := fun a b c d => fg_dot F a b a b == fg_dot F c d c d) (fun a b c d ha hb hc hd => ?_) (fun a b c d ha hb hc hd => ?_) (fun a b c d ha hb hc hd => ?_) ha hb hc hd
    · rw [dot_l h hb ha hb ha, dot_l h ha hb ha hb, dt_4]
    · rw [dot_l h hd hc hd hc, dot_l h hc hd hc hd, dt_4]
    · exact Bool.eq_iff_iff.mpr ⟨fun q => by rw [beq_iff_eq] at q ⊢; exact q.symm, fun q => by rw [beq_iff_eq] at q ⊢; exact q.symm⟩
  · exact ex2_inv (P := fun b c => F.1 a + F.1 a == F.1 b + F.1 c && F.2.1 a + F.2.1 a == F.2.1 b + F.2.1 c) (by rw [Int32.add_comm (F.1 c), Int32.add_comm (F.2.1 c)])
  · rw [t3.resolve_left (by decide)]
    exact nf4_inv (P := fun a b c d => fg_circ F a b c d) (fun a b c d ha hb hc hd => ci_s1 h ha hb hc hd) (fun a b c d ha hb hc hd => ci_s2 h ha hb hc hd) (fun a b c d ha hb hc hd => ci_s3 h ha hb hc hd) ha hb hc hd
  · refine ex2_inv (P := fun b c => fg_cross F a b a c == 0 && decide (fg_dot F a b a c < 0)) ?_
    rw [cross_l h ha hc ha hb, cross_l h ha hb ha hc, cr_5, neg0, dot_l h ha hc ha hb, dot_l h ha hb ha hc, dt_3]
/-- all points of a fact have places just if those told have -/
theorem all_nf {k f : Nat} (hk : k < 7) (ha : a < 7) (hb : b < 7) (hc : c < 7) (hd : d < 7) (hN : n_number k a b c d = some f) (H : Nat → Bool) : ((List.range (kdN k)).all fun i => H (pt f i)) = (H a && H b && H c && H (if kdN k = 4 then d else c)) := by
  obtain ⟨t0, t1, t2, t3⟩ := nf_pt hk ha hb hc hd hN
  have e3 : ((List.range 3).all fun i => H (pt f i)) = (H (pt f 0) && H (pt f 1) && H (pt f 2)) := by simp [List.range_succ, Bool.and_assoc]
  have e4 : ((List.range 4).all fun i => H (pt f i)) = (H (pt f 0) && H (pt f 1) && H (pt f 2) && H (pt f 3)) := by simp [List.range_succ, Bool.and_assoc]
  rcases (show k = 0 ∨ k = 1 ∨ k = 2 ∨ k = 3 ∨ k = 4 ∨ k = 5 ∨ k = 6 by omega) with rfl | rfl | rfl | rfl | rfl | rfl | rfl
  · show ((List.range 3).all fun i => H (pt f i)) = (H a && H b && H c && H c)
    rw [e3, t0, t1, t2]
    have := nf3_inv (P := fun a b c => H a && H b && H c) (fun a b c _ _ _ => by grind) (fun a b c _ _ _ => by grind) ha hb hc
    exact this.trans (by grind)
  · show ((List.range 4).all fun i => H (pt f i)) = (H a && H b && H c && H d)
    rw [e4, t0, t1, t2, t3.resolve_left (by decide)]
    exact nfP_inv (P := fun a b c d => H a && H b && H c && H d) (fun a b c d _ _ _ _ => by grind) (fun a b c d _ _ _ _ => by grind) (fun a b c d _ _ _ _ => by grind) ha hb hc hd
  · show ((List.range 4).all fun i => H (pt f i)) = (H a && H b && H c && H d)
    rw [e4, t0, t1, t2, t3.resolve_left (by decide)]
    exact nfP_inv (P := fun a b c d => H a && H b && H c && H d) (fun a b c d _ _ _ _ => by grind) (fun a b c d _ _ _ _ => by grind) (fun a b c d _ _ _ _ => by grind) ha hb hc hd
  · show ((List.range 4).all fun i => H (pt f i)) = (H a && H b && H c && H d)
    rw [e4, t0, t1, t2, t3.resolve_left (by decide)]
    exact nfP_inv (P := fun a b c d => H a && H b && H c && H d) (fun a b c d _ _ _ _ => by grind) (fun a b c d _ _ _ _ => by grind) (fun a b c d _ _ _ _ => by grind) ha hb hc hd
  · show ((List.range 3).all fun i => H (pt f i)) = (H a && H b && H c && H c)
    rw [e3, t0, t1, t2]
    have := ex2_inv (a := b) (b := c) (P := fun b c => H a && H b && H c) (by grind)
    exact this.trans (by grind)
  · show ((List.range 4).all fun i => H (pt f i)) = (H a && H b && H c && H d)
    rw [e4, t0, t1, t2, t3.resolve_left (by decide)]
    exact nf4_inv (P := fun a b c d => H a && H b && H c && H d) (fun a b c d _ _ _ _ => by grind) (fun a b c d _ _ _ _ => by grind) (fun a b c d _ _ _ _ => by grind) ha hb hc hd
  · show ((List.range 3).all fun i => H (pt f i)) = (H a && H b && H c && H c)
    rw [e3, t0, t1, t2]
    have := ex2_inv (a := b) (b := c) (P := fun b c => H a && H b && H c) (by grind)
    exact this.trans (by grind)
end SY
