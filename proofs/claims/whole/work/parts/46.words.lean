/-! words as numbers: one number, one word -/
/-- the number of a word that is written from behind -/
def dgr (b : Nat) (g : Nat → Nat) : List Nat → Nat
  | [] => 0
  | c :: t => dgr b g t * b + g c
theorem dgr_inj {b : Nat} {g : Nat → Nat} {P : Nat → Prop} (h0 : ∀ c, P c → 0 < g c ∧ g c < b) (hg : ∀ c c', P c → P c' → g c = g c' → c = c') : ∀ (l l' : List Nat), (∀ c ∈ l, P c) → (∀ c ∈ l', P c) → dgr b g l = dgr b g l' → l = l'
  | [], [], _, _, _ => rfl
  | [], c :: t, _, h', e => by
    have := (h0 c (h' c List.mem_cons_self)).1
    have e2 : 0 = dgr b g t * b + g c := e
    omega
  | c :: t, [], h, _, e => by
    have := (h0 c (h c List.mem_cons_self)).1
    have e2 : dgr b g t * b + g c = 0 := e
    omega
  | c :: t, c' :: t', h, h', e => by
    have hc := h0 c (h c List.mem_cons_self)
    have hc' := h0 c' (h' c' List.mem_cons_self)
    have e2 : dgr b g t * b + g c = dgr b g t' * b + g c' := e
    have em : g c = g c' := by
      have := congrArg (· % b) e2
      simp only [Nat.add_mod, Nat.mul_mod_left, Nat.zero_add, Nat.mod_mod, Nat.mod_eq_of_lt hc.2, Nat.mod_eq_of_lt hc'.2] at this
      exact this
    have ed : dgr b g t = dgr b g t' := by
      rw [em] at e2
      exact Nat.eq_of_mul_eq_mul_right (show 0 < b by omega) (by omega)
    have := dgr_inj h0 hg t t' (fun x hx => h x (List.mem_cons_of_mem _ hx)) (fun x hx => h' x (List.mem_cons_of_mem _ hx)) ed
    rw [this, hg c c' (h c List.mem_cons_self) (h' c' List.mem_cons_self) em]
theorem dgr_lt {b : Nat} {g : Nat → Nat} {P : Nat → Prop} (h0 : ∀ c, P c → g c < b) : ∀ (l : List Nat), (∀ c ∈ l, P c) → dgr b g l < b ^ l.length
  | [], _ => Nat.one_pos
  | c :: t, h => by
    have := dgr_lt h0 t (fun x hx => h x (List.mem_cons_of_mem _ hx))
    have hc := h0 c (h c List.mem_cons_self)
    show dgr b g t * b + g c < b ^ (t.length + 1)
    rw [Nat.pow_succ]
    calc dgr b g t * b + g c < dgr b g t * b + b := by omega
      _ = (dgr b g t + 1) * b := by rw [Nat.add_mul, Nat.one_mul]
      _ ≤ b ^ t.length * b := Nat.mul_le_mul_right b this
def isW (cs : List Nat) : Prop := cs ≠ [] ∧ cs.length ≤ 8 ∧ ∀ c ∈ cs, 97 ≤ c ∧ c ≤ 122
theorem tk_s1 {cs : List Nat} : tk_s cs = 1 ↔ isW cs := by
  unfold tk_s isW
  have ha : cs.all (inC 97 122) = true ↔ ∀ c ∈ cs, 97 ≤ c ∧ c ≤ 122 := by
    rw [List.all_eq_true]
    simp only [inC, decide_eq_true_eq]
  have hn : cs.length = 0 ↔ cs = [] := List.length_eq_zero_iff
  by_cases h0 : cs = []
  · rw [if_pos (hn.mpr h0)]
    exact ⟨fun q => by omega, fun q => absurd h0 q.1⟩
  · rw [if_neg (fun q => h0 (hn.mp q))]
    by_cases h1 : cs.length ≤ 8 ∧ cs.all (inC 97 122) = true
    · rw [if_pos h1]
      exact ⟨fun _ => ⟨h0, h1.1, ha.mp h1.2⟩, fun _ => rfl⟩
    · rw [if_neg h1]
      refine ⟨fun q => ?_, fun q => absurd ⟨q.2.1, ha.mpr q.2.2⟩ h1⟩
      split at q
      · omega
      · split at q <;> omega
/-- the class's number of a word -/
theorem x256 : ∀ (l : List Nat), (∀ c ∈ l, 97 ≤ c ∧ c ≤ 122) → l.reverse.foldl (fun v c => v * (nI 256).toInt64 + (nI c - nI 0).toInt64) (0 : Int64) = Int64.ofNat (dgr 256 id l)
  | [], _ => rfl
  | c :: t, h => by
    rw [List.reverse_cons, List.foldl_append, x256 t (fun x hx => h x (List.mem_cons_of_mem _ hx))]
    have hc := h c List.mem_cons_self
    show Int64.ofNat (dgr 256 id t) * (nI 256).toInt64 + (nI c - nI 0).toInt64 = Int64.ofNat (dgr 256 id t * 256 + c)
    rw [nI_sub (Nat.zero_le c), Nat.sub_zero, nI_l (show c < 2 ^ 31 by omega), nI_l (show 256 < 2 ^ 31 by decide), Int64.ofNat_add, Int64.ofNat_mul]
    rfl
def tk_w (cs : List Nat) : Int64 := cs.foldl (fun v c => v <<< ((5 : Int32).toInt64 &&& 63) ||| (nI c &&& 31).toInt64) 0
theorem nat_or32 (m c : Nat) : m <<< 5 ||| c % 32 = m * 32 + c % 32 := by
  rw [← Nat.shiftLeft_add_eq_or_of_lt (show c % 32 < 2 ^ 5 from Nat.mod_lt _ (by decide)), Nat.shiftLeft_eq]
theorem x32_one {m c : Nat} (hm : m < 2 ^ 50) (hc : c < 256) : Int64.ofNat m <<< ((5 : Int32).toInt64 &&& 63) ||| (nI c &&& 31).toInt64 = Int64.ofNat (m * 32 + c % 32) := by
  have e1 : (nI c &&& 31).toInt64 = Int64.ofNat (c % 32) := by
    have t : ∀ c, c < 256 → (nI c &&& 31).toInt64 = Int64.ofNat (c % 32) := by decide +kernel
    exact t c hc
  have e2 : (5 : Int32).toInt64 &&& 63 = Int64.ofNat 5 := by decide +kernel
  rw [e1, e2, ← nat_or32]
  apply Int64.toBitVec_inj.mp
  rw [Int64.toBitVec_or, Int64.toBitVec_shiftLeft]
  have e3 : (Int64.ofNat 5).toBitVec.smod 64 = 5#64 := by decide +kernel
  rw [e3]
  apply BitVec.eq_of_toNat_eq
  have tn : ∀ k : Nat, (Int64.ofNat k).toBitVec.toNat = k % 2 ^ 64 := fun k => by
    rw [Int64.toBitVec_ofNat', BitVec.toNat_ofNat]
  rw [BitVec.toNat_or, BitVec.shiftLeft_eq', BitVec.toNat_shiftLeft, tn, tn, tn]
  have e4 : (5#64).toNat = 5 := rfl
  have h1 : m <<< 5 < 2 ^ 64 := by rw [Nat.shiftLeft_eq]; omega
  have h2 : c % 32 < 32 := Nat.mod_lt _ (by decide)
  rw [e4, Nat.mod_eq_of_lt (show m < 2 ^ 64 by omega), Nat.mod_eq_of_lt h1, Nat.mod_eq_of_lt (show c % 32 < 2 ^ 64 by omega), nat_or32, Nat.mod_eq_of_lt (show m * 32 + c % 32 < 2 ^ 64 by omega)]
theorem x32 : ∀ (l : List Nat), l.length ≤ 8 → (∀ c ∈ l, 97 ≤ c ∧ c ≤ 122) → l.reverse.foldl (fun v c => v <<< ((5 : Int32).toInt64 &&& 63) ||| (nI c &&& 31).toInt64) (0 : Int64) = Int64.ofNat (dgr 32 (· % 32) l)
  | [], _, _ => rfl
  | c :: t, hl, h => by
    have hl' : t.length ≤ 7 := by simpa using hl
    rw [List.reverse_cons, List.foldl_append, x32 t (by omega) (fun x hx => h x (List.mem_cons_of_mem _ hx))]
    have hc := h c List.mem_cons_self
    have hb := dgr_lt (b := 32) (g := (· % 32)) (P := fun _ => True) (fun c _ => Nat.mod_lt _ (by decide)) t (fun _ _ => trivial)
    have hp : 32 ^ t.length ≤ 32 ^ 7 := Nat.pow_le_pow_right (by decide) hl'
    exact x32_one (m := dgr 32 (· % 32) t) (c := c) (by omega) (by omega)
theorem lN64 {a b : Nat} (ha : a < 2 ^ 64) (hb : b < 2 ^ 64) (h : Int64.ofNat a = Int64.ofNat b) : a = b := by
  have := congrArg (fun x => x.toBitVec.toNat) h
  simp only [Int64.toBitVec_ofNat', BitVec.toNat_ofNat] at this
  rw [Nat.mod_eq_of_lt ha, Nat.mod_eq_of_lt hb] at this
  exact this
theorem wd_c {cs cs' : List Nat} (h : isW cs) (h' : isW cs') : (tk_x 0 256 cs = tk_x 0 256 cs') = (cs = cs') := by
  apply propext
  refine ⟨fun e => ?_, fun e => by rw [e]⟩
  have k : ∀ {l : List Nat}, isW l → tk_x 0 256 l = Int64.ofNat (dgr 256 id l.reverse) ∧ dgr 256 id l.reverse < 2 ^ 64 := by
    intro l hl
    have hm : ∀ c ∈ l.reverse, 97 ≤ c ∧ c ≤ 122 := fun c hc => hl.2.2 c (List.mem_reverse.mp hc)
    have := x256 l.reverse hm
    rw [List.reverse_reverse] at this
    have hb := dgr_lt (b := 256) (g := id) (P := fun c => 97 ≤ c ∧ c ≤ 122) (fun c hc => by show c < 256; omega) l.reverse hm
    have hp : 256 ^ l.reverse.length ≤ 256 ^ 8 := Nat.pow_le_pow_right (by decide) (by rw [List.length_reverse]; exact hl.2.1)
    exact ⟨this, by omega⟩
  obtain ⟨k1, k2⟩ := k h
  obtain ⟨k3, k4⟩ := k h'
  rw [k1, k3] at e
  have := dgr_inj (b := 256) (g := id) (P := fun c => 97 ≤ c ∧ c ≤ 122) (fun c hc => by show 0 < c ∧ c < 256; omega) (fun c c' _ _ q => q) cs.reverse cs'.reverse (fun c hc => h.2.2 c (List.mem_reverse.mp hc)) (fun c hc => h'.2.2 c (List.mem_reverse.mp hc)) (lN64 k2 k4 e)
  exact List.reverse_inj.mp this
theorem wd_m {cs cs' : List Nat} (h : isW cs) (h' : isW cs') : (tk_w cs = tk_w cs') = (cs = cs') := by
  apply propext
  refine ⟨fun e => ?_, fun e => by rw [e]⟩
  have k : ∀ {l : List Nat}, isW l → tk_w l = Int64.ofNat (dgr 32 (· % 32) l.reverse) ∧ dgr 32 (· % 32) l.reverse < 2 ^ 64 := by
    intro l hl
    have hm : ∀ c ∈ l.reverse, 97 ≤ c ∧ c ≤ 122 := fun c hc => hl.2.2 c (List.mem_reverse.mp hc)
    have := x32 l.reverse (by rw [List.length_reverse]; exact hl.2.1) hm
    rw [List.reverse_reverse] at this
    have hb := dgr_lt (b := 32) (g := (· % 32)) (P := fun _ => True) (fun c _ => Nat.mod_lt _ (by decide)) l.reverse (fun _ _ => trivial)
    have hp : 32 ^ l.reverse.length ≤ 32 ^ 8 := Nat.pow_le_pow_right (by decide) (by rw [List.length_reverse]; exact hl.2.1)
    exact ⟨this, by omega⟩
  obtain ⟨k1, k2⟩ := k h
  obtain ⟨k3, k4⟩ := k h'
  rw [k1, k3] at e
  have := dgr_inj (b := 32) (g := (· % 32)) (P := fun c => 97 ≤ c ∧ c ≤ 122) (fun c hc => by show 0 < c % 32 ∧ c % 32 < 32; omega) (fun c c' hc hc' q => by have q : c % 32 = c' % 32 := q; omega) cs.reverse cs'.reverse (fun c hc => h.2.2 c (List.mem_reverse.mp hc)) (fun c hc => h'.2.2 c (List.mem_reverse.mp hc)) (lN64 k2 k4 e)
  exact List.reverse_inj.mp this
/-- the number of a point or of a number -/
theorem tk_dec : ∀ (l : List Nat), (∀ c ∈ l, 48 ≤ c ∧ c ≤ 57) → ∃ m, m < 10 ^ l.length ∧ l.reverse.foldl (fun v c => v * (nI 10).toInt64 + (nI c - nI 48).toInt64) (0 : Int64) = lN m
  | [], _ => ⟨0, Nat.one_pos, rfl⟩
  | c :: t, h => by
    obtain ⟨m, hm, e⟩ := tk_dec t (fun x hx => h x (List.mem_cons_of_mem _ hx))
    have hc := h c List.mem_cons_self
    refine ⟨m * 10 + (c - 48), ?_, ?_⟩
    · rw [List.length_cons, Nat.pow_succ]
      omega
    · rw [List.reverse_cons, List.foldl_append, e]
      show lN m * (nI 10).toInt64 + (nI c - nI 48).toInt64 = _
      rw [nI_sub (by omega), nI_l (show c - 48 < 2 ^ 31 by omega), nI_l (show 10 < 2 ^ 31 by decide), lN_mul, lN_add]
theorem tk_n3 {cs : List Nat} (h : tk_s cs = 3) : ∃ m, m < 1000 ∧ tk_v cs = lN m := by
  have ha : cs.length ≤ 3 ∧ cs.all (inC 48 57) = true := by
    unfold tk_s at h
    split at h
    · omega
    split at h
    · omega
    split at h
    · omega
    split at h
    · assumption
    · omega
  have hd : ∀ c ∈ cs.reverse, 48 ≤ c ∧ c ≤ 57 := fun c hc => by
    have := List.all_eq_true.mp ha.2 c (List.mem_reverse.mp hc)
    simpa [inC] using this
  obtain ⟨m, h1, h2⟩ := tk_dec cs.reverse hd
  rw [List.reverse_reverse] at h2
  rw [List.length_reverse] at h1
  have hp : 10 ^ cs.length ≤ 10 ^ 3 := Nat.pow_le_pow_right (by decide) ha.1
  refine ⟨m, by omega, ?_⟩
  unfold tk_v
  rw [h]
  exact h2
theorem tk_n2 {cs : List Nat} (h : tk_s cs = 2) : ∃ c, cs = [c] ∧ 65 ≤ c ∧ c ≤ 71 ∧ tk_v cs = lN (c - 65) := by
  have ha : cs.length = 1 ∧ cs.all (inC 65 71) = true := by
    unfold tk_s at h
    split at h
    · omega
    split at h
    · omega
    split at h
    · assumption
    split at h
    · omega
    · omega
  obtain ⟨c, rfl⟩ := List.length_eq_one_iff.mp ha.1
  have hc : 65 ≤ c ∧ c ≤ 71 := by simpa [inC] using ha.2
  refine ⟨c, rfl, hc.1, hc.2, ?_⟩
  unfold tk_v
  rw [h]
  show (0 : Int64) * (nI 1).toInt64 + (nI c - nI 65).toInt64 = _
  rw [nI_sub (by omega), nI_l (show c - 65 < 2 ^ 31 by omega)]
  rw [Int64.zero_mul, Int64.zero_add]
/-- what a point or a number says -/
def tk_n (cs : List Nat) : Nat := (tk_v cs).toInt.toNat
theorem tk_nv {cs : List Nat} (h : tk_s cs = 2 ∨ tk_s cs = 3) : tk_v cs = lN (tk_n cs) ∧ tk_n cs < 1000 := by
  have : ∃ m, m < 1000 ∧ tk_v cs = lN m := by
    rcases h with h | h
    · obtain ⟨c, -, h1, h2, h3⟩ := tk_n2 h
      exact ⟨_, by omega, h3⟩
    · exact tk_n3 h
  obtain ⟨m, h1, h2⟩ := this
  have e : tk_n cs = m := by
    unfold tk_n
    rw [h2, lN_toInt (by omega)]
    rfl
  rw [e]
  exact ⟨h2, h1⟩
theorem tk_n7 {cs : List Nat} (h : tk_s cs = 2) : tk_n cs < 7 := by
  obtain ⟨c, -, h1, h2, h3⟩ := tk_n2 h
  have e : tk_n cs = c - 65 := by
    unfold tk_n
    rw [h3, lN_toInt (by omega)]
    rfl
  omega
