/-! the reference's tape -/
def rm_tape (I : mm_I) (T : Nat → Nat) (n : Nat) : Prop := I 127 12 = nI n ∧ n ≤ 120 ∧ ∀ i, i < n → I 138 i = nI (T i) ∧ T i < 256
/-- next, tokenAt, sort and token change -/
def rm_mv (I : mm_I) (J : mm_J) (I' : mm_I) (J' : mm_J) : Prop := (∀ k, k ≠ 127 → I' k = I k) ∧ (∀ j, j ≠ 17 → j ≠ 18 → j ≠ 19 → I' 127 j = I 127 j) ∧ ∀ k j, k ≠ 127 → J' k j = J k j
theorem rm_mv_rf {I : mm_I} {J : mm_J} : rm_mv I J I J := ⟨fun _ _ => rfl, fun _ _ _ _ => rfl, fun _ _ _ => rfl⟩
theorem rm_mv_tr {I I' I'' : mm_I} {J J' J'' : mm_J} (h : rm_mv I J I' J') (h' : rm_mv I' J' I'' J'') : rm_mv I J I'' J'' := ⟨fun k q => (h'.1 k q).trans (h.1 k q), fun j q1 q2 q3 => (h'.2.1 j q1 q2 q3).trans (h.2.1 j q1 q2 q3), fun k j q => (h'.2.2 k j q).trans (h.2.2 k j q)⟩
theorem rm_tape_mv {I I' : mm_I} {J J' : mm_J} {T : Nat → Nat} {n : Nat} (h : rm_tape I T n) (m : rm_mv I J I' J') : rm_tape I' T n := by
  refine ⟨?_, h.2.1, fun i hi => ?_⟩
  · rw [m.2.1 _ (by decide) (by decide) (by decide)]; exact h.1
  · rw [m.1 _ (by decide)]; exact h.2.2 i hi
abbrev tm_T : Type := Bool × Bool × Int64 × Int64 × Nat
def tm_1 (s : tm_T) (c : Nat) : tm_T := (s.1 && inC 97 122 c, s.2.1 && inC 48 57 c, s.2.2.1 <<< ((5 : Int32).toInt64 &&& 63) ||| (nI c &&& 31).toInt64, if s.2.2.2.2 < 4 then 10 * s.2.2.2.1 + (nI c).toInt64 - 48 else s.2.2.2.1, s.2.2.2.2 + 1)
theorem tm_all : ∀ (cs : List Nat) (s : tm_T), (cs.foldl tm_1 s).1 = (s.1 && cs.all (inC 97 122)) ∧ (cs.foldl tm_1 s).2.1 = (s.2.1 && cs.all (inC 48 57)) ∧ (cs.foldl tm_1 s).2.2.1 = cs.foldl (fun v c => v <<< ((5 : Int32).toInt64 &&& 63) ||| (nI c &&& 31).toInt64) s.2.2.1 ∧ (cs.foldl tm_1 s).2.2.2.2 = s.2.2.2.2 + cs.length
  | [], s => by simp
  | c :: t, s => by
    obtain ⟨h1, h2, h3, h4⟩ := tm_all t (tm_1 s c)
    rw [List.foldl_cons]
    refine ⟨?_, ?_, ?_, ?_⟩
    · rw [h1, List.all_cons, ← Bool.and_assoc]; rfl
    · rw [h2, List.all_cons, ← Bool.and_assoc]; rfl
    · rw [h3]; rfl
    · rw [h4, List.length_cons]
      show s.2.2.2.2 + 1 + t.length = _
      omega
theorem tm_dec : ∀ (cs : List Nat) (s : tm_T), s.2.2.2.2 + cs.length ≤ 4 → (∀ c ∈ cs, c < 256) → (cs.foldl tm_1 s).2.2.2.1 = cs.foldl (fun v c => v * (nI 10).toInt64 + (nI c - nI 48).toInt64) s.2.2.2.1
  | [], _, _, _ => rfl
  | c :: t, s, hl, hc => by
    rw [List.length_cons] at hl
    rw [List.foldl_cons, List.foldl_cons, tm_dec t (tm_1 s c) (by show s.2.2.2.2 + 1 + t.length ≤ 4; omega) (fun x hx => hc x (List.mem_cons_of_mem _ hx))]
    congr 1
    show (if s.2.2.2.2 < 4 then 10 * s.2.2.2.1 + (nI c).toInt64 - 48 else s.2.2.2.1) = _
    have hc' := hc c List.mem_cons_self
    rw [if_pos (by omega), sub64 ⟨by rw [nI_toInt (by omega)]; omega, by rw [nI_toInt (by omega)]; omega⟩ ⟨by decide, by decide⟩]
    have e1 : (nI 10).toInt64 = 10 := by decide
    have e2 : (nI 48).toInt64 = 48 := by decide
    rw [e1, e2]
    grind
section TK
variable {z : mm_S} {d : Nat} {I : mm_I} {J : mm_J} {T : Nat → Nat} {n : Nat} {Q : Option Value → mm_I → mm_J → Prop}
theorem mmv_at {x : Int32} {j : Nat} (hj : j = 17 ∨ j = 18 ∨ j = 19) : rm_mv I J (mm_wI I 127 j x) J := by
  refine ⟨fun k hk => ?_, fun i h1 h2 h3 => ?_, fun _ _ _ => rfl⟩
  · funext q; rw [mWI, if_neg hk]
  · rw [mWI, if_pos rfl, if_neg (by omega)]
theorem c_isLetter {c : Nat} (hc : c < 256) (Q : Option Value → mm_I → mm_J → Prop) : mm_call z (d + 2) 148 [.int (nI c)] I J Q = Q (some (.int (mb (inC 97 122 c)))) I J := by
  refine mm_ev ?_ Q
  have e := @in_ab (nI c) 97 122 (by omega) (by omega)
  rw [show Int64.ofInt 97 = 97 from rfl, show Int64.ofInt 122 = 122 from rfl, nI_toInt (by omega)] at e
  simp only [ce_148, bk_148, mmE, mmE0, mmH, mT, mR, mRf, mAl, mAs, mAz, mAn, Int.reduceToNat, Int32.reduceOfInt, Int64.reduceOfInt, Int.reduceAdd, swE, Nat.reduceDiv, Nat.reduceMod, Nat.reduceAdd, Nat.reduceMul, Nat.reduceEqDiff, Nat.reduceLeDiff, Nat.zero_le, List.length_nil, List.length_cons, Nat.zero_add, true_or, or_true, false_or, or_false, true_and, and_true, and_self, mb_01, mb_t, mb_f, c_in, e]
  unfold inC
  congr 3
  exact decide_eq_decide.mpr (by omega)
theorem c_isDigit {c : Nat} (hc : c < 256) (Q : Option Value → mm_I → mm_J → Prop) : mm_call z (d + 2) 149 [.int (nI c)] I J Q = Q (some (.int (mb (inC 48 57 c)))) I J := by
  refine mm_ev ?_ Q
  have e := @in_ab (nI c) 48 57 (by omega) (by omega)
  rw [show Int64.ofInt 48 = 48 from rfl, show Int64.ofInt 57 = 57 from rfl, nI_toInt (by omega)] at e
  simp only [ce_149, bk_149, mmE, mmE0, mmH, mT, mR, mRf, mAl, mAs, mAz, mAn, Int.reduceToNat, Int32.reduceOfInt, Int64.reduceOfInt, Int.reduceAdd, swE, Nat.reduceDiv, Nat.reduceMod, Nat.reduceAdd, Nat.reduceMul, Nat.reduceEqDiff, Nat.reduceLeDiff, Nat.zero_le, List.length_nil, List.length_cons, Nat.zero_add, true_or, or_true, false_or, or_false, true_and, and_true, and_self, mb_01, mb_t, mb_f, c_in, e]
  unfold inC
  congr 3
  exact decide_eq_decide.mpr (by omega)
theorem w_take1 : ∀ (w i : Nat) (I : mm_I), i + w = n → rm_tape I T n → I 127 17 = nI i → (∀ I', rm_mv I J I' J → I' 127 17 = nI (sk T w i) → mm_at z (mm_call z (d + 2)) (mm_code 147) Q 38 [some (.ref 127), none, none, none, none, none, none, none, none] [] I' J) → mm_at z (mm_call z (d + 2)) (mm_code 147) Q 0 [some (.ref 127), none, none, none, none, none, none, none, none] [] I J
  | 0, i, I, hi, h, hat, k => by
    have hk := k I rm_mv_rf hat
    have := h.2.1
    rw [hk_147_0]
    have c1 : (nI n ≤ nI i) = True := by rw [le_nI (by omega) (by omega)]; exact eq_true (by omega)
    simp only [mmE, mmE0, mmH, mT, mR, mRf, mAl, mAs, mAz, mAn, Int.reduceToNat, Int32.reduceOfInt, Int64.reduceOfInt, Int.reduceAdd, swE, Nat.reduceDiv, Nat.reduceMod, Nat.reduceAdd, Nat.reduceMul, Nat.reduceEqDiff, Nat.reduceLeDiff, Nat.zero_le, List.length_nil, List.length_cons, Nat.zero_add, true_or, or_true, false_or, or_false, true_and, and_true, and_self, mb_01, mb_t, mb_f, hat, h.1, c1, true_implies, not_true_eq_false, false_implies]
    exact hk
  | w + 1, i, I, hi, h, hat, k => by
    have hn := h.2.1
    rw [hk_147_0]
    have c1 : (nI n ≤ nI i) = False := by rw [le_nI (by omega) (by omega)]; exact eq_false (by omega)
    obtain ⟨g1, g2⟩ := h.2.2 i (by omega)
    simp only [mmE, mmE0, mmH, mT, mR, mRf, mAl, mAs, mAz, mAn, Int.reduceToNat, Int32.reduceOfInt, Int64.reduceOfInt, Int.reduceAdd, swE, Nat.reduceDiv, Nat.reduceMod, Nat.reduceAdd, Nat.reduceMul, Nat.reduceEqDiff, Nat.reduceLeDiff, Nat.zero_le, List.length_nil, List.length_cons, Nat.zero_add, true_or, or_true, false_or, or_false, true_and, and_true, and_self, mb_01, mb_t, mb_f, hat, h.1, c1, ix120 (show i < 120 by omega), g1, eq32 g2, true_implies, not_true_eq_false, not_false_eq_true, false_implies]
    unfold sk at k
    by_cases e : T i = 32
    · rw [if_pos e] at k
      simp only [e, true_implies, not_true_eq_false, false_implies, and_true, true_and]
      have hm : rm_mv I J (mm_wI I 127 17 (nI i + 1)) J := mmv_at (Or.inl rfl)
      refine w_take1 w (i + 1) _ (by omega) (rm_tape_mv h hm) ?_ (fun I' m' h' => k I' (rm_mv_tr hm m') h')
      rw [mWI, if_pos rfl, if_pos rfl, nI_succ]
    · rw [if_neg e] at k
      simp only [e, not_false_eq_true, true_implies, false_implies, and_true]
      exact k I rm_mv_rf hat
theorem w_take2 : ∀ (w i : Nat) (I : mm_I) (s : tm_T) (o8 : Option Value), i + w = n → s.2.2.2.2 ≤ i → rm_tape I T n → I 127 17 = nI i → (∀ I' o8, rm_mv I J I' J → I' 127 17 = nI (te T w i) → I' 127 18 = I 127 18 → mm_at z (mm_call z (d + 2)) (mm_code 147) Q 184 [some (.ref 127), some (.int (mb ((seg T i (te T w i)).foldl tm_1 s).1)), some (.int (mb ((seg T i (te T w i)).foldl tm_1 s).2.1)), some (.long ((seg T i (te T w i)).foldl tm_1 s).2.2.1), none, some (.long ((seg T i (te T w i)).foldl tm_1 s).2.2.2.1), none, some (.int (nI ((seg T i (te T w i)).foldl tm_1 s).2.2.2.2)), o8] [] I' J) → mm_at z (mm_call z (d + 2)) (mm_code 147) Q 58 [some (.ref 127), some (.int (mb s.1)), some (.int (mb s.2.1)), some (.long s.2.2.1), none, some (.long s.2.2.2.1), none, some (.int (nI s.2.2.2.2)), o8] [] I J
  | 0, i, I, s, o8, hi, hs, h, hat, k => by
    have hk := k I o8 rm_mv_rf hat rfl
    have e0 : seg T i (te T 0 i) = [] := by unfold seg te; rw [Nat.sub_self]; rfl
    rw [e0] at hk
    have := h.2.1
    rw [hk_147_58]
    have c1 : (nI n ≤ nI i) = True := by rw [le_nI (by omega) (by omega)]; exact eq_true (by omega)
    simp only [mmE, mmE0, mmH, mT, mR, mRf, mAl, mAs, mAz, mAn, Int.reduceToNat, Int32.reduceOfInt, Int64.reduceOfInt, Int.reduceAdd, swE, Nat.reduceDiv, Nat.reduceMod, Nat.reduceAdd, Nat.reduceMul, Nat.reduceEqDiff, Nat.reduceLeDiff, Nat.zero_le, List.length_nil, List.length_cons, Nat.zero_add, true_or, or_true, false_or, or_false, true_and, and_true, and_self, mb_01, mb_t, mb_f, hat, h.1, c1, true_implies, not_true_eq_false, false_implies]
    exact hk
  | w + 1, i, I, s, o8, hi, hs, h, hat, k => by
    have hn := h.2.1
    rw [hk_147_58]
    have c1 : (nI n ≤ nI i) = False := by rw [le_nI (by omega) (by omega)]; exact eq_false (by omega)
    obtain ⟨g1, g2⟩ := h.2.2 i (by omega)
    simp only [mmE, mmE0, mmH, mT, mR, mRf, mAl, mAs, mAz, mAn, Int.reduceToNat, Int32.reduceOfInt, Int64.reduceOfInt, Int.reduceAdd, swE, Nat.reduceDiv, Nat.reduceMod, Nat.reduceAdd, Nat.reduceMul, Nat.reduceEqDiff, Nat.reduceLeDiff, Nat.zero_le, List.length_nil, List.length_cons, Nat.zero_add, true_or, or_true, false_or, or_false, true_and, and_true, and_self, mb_01, mb_t, mb_f, hat, h.1, c1, ix120 (show i < 120 by omega), g1, eq32 g2, true_implies, not_true_eq_false, not_false_eq_true, false_implies]
    by_cases e : T i = 32
    · have e1 : te T (w + 1) i = i := by unfold te; rw [if_pos e]
      rw [e1] at k
      have e0 : seg T i i = [] := by unfold seg; rw [Nat.sub_self]; rfl
      rw [e0] at k
      simp only [e, true_implies, not_true_eq_false, false_implies, and_true]
      exact k I o8 rm_mv_rf hat rfl
    · have e1 : te T (w + 1) i = te T w (i + 1) := by rw [te, if_neg e]
      have hle := te_le (T := T) w (i + 1)
      have e0 : seg T i (te T (w + 1) i) = T i :: seg T (i + 1) (te T w (i + 1)) := by
        rw [e1]
        unfold seg
        rw [show te T w (i + 1) - i = te T w (i + 1) - (i + 1) + 1 by omega, List.range'_succ, List.map_cons]
      rw [e0, e1] at k
      have hm : rm_mv I J (mm_wI I 127 17 (nI i + 1)) J := mmv_at (Or.inl rfl)
      have hlt : (4 ≤ nI s.2.2.2.2) = (4 ≤ s.2.2.2.2) := le_nI (a := 4) (by omega) (by omega)
      have ih := w_take2 w (i + 1) (mm_wI I 127 17 (nI i + 1)) (tm_1 s (T i)) (some (.int (nI (T i)))) (by omega) (by show s.2.2.2.2 + 1 ≤ i + 1; omega) (rm_tape_mv h hm) (by rw [mWI, if_pos rfl, if_pos rfl, nI_succ]) (fun I' o8 m' h' h2 => k I' o8 (rm_mv_tr hm m') h' (by rw [h2, mWI, if_pos rfl, if_neg (by decide)]))
      have es : nI (tm_1 s (T i)).2.2.2.2 = nI s.2.2.2.2 + 1 := nI_succ _
      rw [es] at ih
      simp only [ce_147, bk_147, mmE, mmE0, mmH, mT, mR, mRf, mAl, mAs, mAz, mAn, Int.reduceToNat, Int32.reduceOfInt, Int64.reduceOfInt, Int.reduceAdd, swE, Nat.reduceDiv, Nat.reduceMod, Nat.reduceAdd, Nat.reduceMul, Nat.reduceEqDiff, Nat.reduceLeDiff, Nat.zero_le, List.length_nil, List.length_cons, Nat.zero_add, true_or, or_true, false_or, or_false, true_and, and_true, and_self, mb_01, mb_t, mb_f, e, not_false_eq_true, true_implies, false_implies, and_true, c_isLetter g2, c_isDigit g2, mb_0, hlt, hat]
      have fin : ∀ b1 b2 : Bool, b1 = (tm_1 s (T i)).1 → b2 = (tm_1 s (T i)).2.1 → mm_at z (mm_call z (d + 2)) (mm_code 147) Q 58 [some (.ref 127), some (.int (mb b1)), some (.int (mb b2)), some (.long (tm_1 s (T i)).2.2.1), none, some (.long (tm_1 s (T i)).2.2.2.1), none, some (.int (nI s.2.2.2.2 + 1)), some (.int (nI (T i)))] [] (mm_wI I 127 17 (nI i + 1)) J := by
        rintro b1 b2 rfl rfl
        exact ih
      have f00 := fin false false
      have f01 := fin false true
      have f10 := fin true false
      have f11 := fin true true
      have t1 : (tm_1 s (T i)).1 = (s.1 && inC 97 122 (T i)) := rfl
      have t2 : (tm_1 s (T i)).2.1 = (s.2.1 && inC 48 57 (T i)) := rfl
      have t3 : (tm_1 s (T i)).2.2.1 = s.2.2.1 <<< ((5 : Int32).toInt64 &&& 63) ||| (nI (T i) &&& 31).toInt64 := rfl
      rw [t1, t2, t3] at f00 f01 f10 f11
      by_cases q4 : 4 ≤ s.2.2.2.2
      · have t4 : (tm_1 s (T i)).2.2.2.1 = s.2.2.2.1 := if_neg (by omega)
        rw [t4] at f00 f01 f10 f11
        simp only [mb_t, mb_f] at f00 f01 f10 f11
        cases ha : s.1 <;> cases hb : inC 97 122 (T i) <;> cases hc : s.2.1 <;> cases hd : inC 48 57 (T i) <;> rw [ha, hb, hc, hd] at f00 f01 f10 f11 <;> simp only [q4, true_implies, not_true_eq_false, not_false_eq_true, false_implies, and_true, true_and, Bool.true_eq_false, Bool.false_eq_true] <;> first | exact f00 rfl rfl | exact f01 rfl rfl | exact f10 rfl rfl | exact f11 rfl rfl
      · have t4 : (tm_1 s (T i)).2.2.2.1 = 10 * s.2.2.2.1 + (nI (T i)).toInt64 - 48 := if_pos (by omega)
        rw [t4] at f00 f01 f10 f11
        simp only [mb_t, mb_f] at f00 f01 f10 f11
        cases ha : s.1 <;> cases hb : inC 97 122 (T i) <;> cases hc : s.2.1 <;> cases hd : inC 48 57 (T i) <;> rw [ha, hb, hc, hd] at f00 f01 f10 f11 <;> simp only [q4, true_implies, not_true_eq_false, not_false_eq_true, false_implies, and_true, true_and, Bool.true_eq_false, Bool.false_eq_true] <;> first | exact f00 rfl rfl | exact f01 rfl rfl | exact f10 rfl rfl | exact f11 rfl rfl
/-- take -/
theorem tk_s_lt (cs : List Nat) : tk_s cs < 5 := by
  unfold tk_s
  repeat' split
  all_goals omega
theorem w_take3 {j : Nat} {cs : List Nat} {v10 : Int64} {o8 : Option Value} (h : rm_tape I T n) (hst : I 127 18 = nI j) (hj : ∀ c, cs = [c] → j < n ∧ T j = c) (hlen : cs.length ≤ 120) (hv : cs.length ≤ 4 → v10 = cs.foldl (fun v c => v * (nI 10).toInt64 + (nI c - nI 48).toInt64) 0) (k : ∀ s (w : Int64), s = tk_s cs → (s = 1 → w = tk_w cs) → (s = 2 ∨ s = 3 → w = tk_v cs) → Q none (mm_wI I 127 19 (nI s)) (mm_wJ J 127 20 w)) : mm_at z (mm_call z (d + 2)) (mm_code 147) Q 184 [some (.ref 127), some (.int (mb (cs.all (inC 97 122)))), some (.int (mb (cs.all (inC 48 57)))), some (.long (tk_w cs)), none, some (.long v10), none, some (.int (nI cs.length)), o8] [] I J := by
  have hn := h.2.1
  have n0 : (nI cs.length = 0) = (cs.length = 0) := eq_nI (b := 0) (by omega) (by omega)
  have one0 : ((1 : Int32) = 0) = False := by decide
  have n11 : (nI 1 = 1) = True := eq_true rfl
  have n8 : ((8 : Int32) < nI cs.length) = (8 < cs.length) := lt_nI (a := 8) (by omega) (by omega)
  have n1 : (nI cs.length = 1) = (cs.length = 1) := eq_nI (b := 1) (by omega) (by omega)
  have n3 : ((3 : Int32) < nI cs.length) = (3 < cs.length) := lt_nI (a := 3) (by omega) (by omega)
  -- from the sort on
  have hC : ∀ s b, s = tk_s cs → (b = true → ∃ c, cs = [c] ∧ 65 ≤ c ∧ c ≤ 71) → (s = 2 ↔ b = true) → mm_at z (mm_call z (d + 2)) (mm_code 147) Q 268 [some (.ref 127), some (.int (mb (cs.all (inC 97 122)))), some (.int (mb (cs.all (inC 48 57)))), some (.long (tk_w cs)), none, some (.long v10), none, some (.int (nI cs.length)), some (.int (mb b))] [.int (nI s), .ref 127] I J := by
    intro s b hs hb h2
    have s5 : s < 5 := hs ▸ tk_s_lt cs
    have sE : (mm_wI I 127 19 (nI s) 127 19 = 1) = (s = 1) := by
      rw [mWI, if_pos rfl, if_pos rfl]
      exact eq_nI (b := 1) (by omega) (by omega)
    have tA : mm_wI I 127 19 (nI s) 127 18 = nI j := by
      rw [mWI, if_pos rfl, if_neg (by decide)]
      exact hst
    have tB : mm_wI I 127 19 (nI s) 138 = I 138 := by
      funext q
      rw [mWI, if_neg (by decide)]
    cases b with
    | false =>
      have h2' : ¬ s = 2 := fun q => by cases h2.mp q
      simp only [bk_147.2.2.2.2.2.2.2.2.2.2.2.2.2.2.1, bk_147.2.2.2.2.2.2.2.2.2.2.2.2.2.2.2.1, bk_147.2.2.2.2.2.2.2.2.2.2.2.2.2.2.2.2.1, bk_147.2.2.2.2.2.2.2.2.2.2.2.2.2.2.2.2.2, mmE, mmE0, mmH, mT, mR, mRf, mAl, mAs, mAz, mAn, Int.reduceToNat, Int32.reduceOfInt, Int64.reduceOfInt, Int.reduceAdd, swE, Nat.reduceDiv, Nat.reduceMod, Nat.reduceAdd, Nat.reduceMul, Nat.reduceEqDiff, Nat.reduceLeDiff, Nat.zero_le, List.length_nil, List.length_cons, Nat.zero_add, true_or, or_true, false_or, or_false, true_and, and_true, and_self, mb_01, mb_t, mb_f, sE, mb_0, true_implies, not_true_eq_false, not_false_eq_true, false_implies, and_true, true_and]
      refine ⟨fun q => ?_, fun q => ?_⟩
      · refine k s v10 hs (fun q1 => absurd q1 q) (fun q3 => ?_)
        rcases q3 with q3 | q3
        · exact absurd q3 h2'
        · have e3 : tk_s cs = 3 := hs.symm.trans q3
          have l3 : cs.length ≤ 3 := by
            unfold tk_s at e3
            repeat' split at e3
            all_goals omega
          rw [hv (by omega)]
          unfold tk_v
          rw [e3]
          rfl
      · exact k s _ hs (fun _ => rfl) (fun q3 => by omega)
    | true =>
      obtain ⟨c, hc, c1, c2⟩ := hb rfl
      have h2' := h2.mpr rfl
      obtain ⟨j1, j2⟩ := hj c hc
      obtain ⟨g1, g2⟩ := h.2.2 j j1
      have e21 : (s = 1) = False := eq_false (by omega)
      simp only [bk_147.2.2.2.2.2.2.2.2.2.2.2.2.2.2.1, bk_147.2.2.2.2.2.2.2.2.2.2.2.2.2.2.2.1, bk_147.2.2.2.2.2.2.2.2.2.2.2.2.2.2.2.2.1, bk_147.2.2.2.2.2.2.2.2.2.2.2.2.2.2.2.2.2, mmE, mmE0, mmH, mT, mR, mRf, mAl, mAs, mAz, mAn, Int.reduceToNat, Int32.reduceOfInt, Int64.reduceOfInt, Int.reduceAdd, swE, Nat.reduceDiv, Nat.reduceMod, Nat.reduceAdd, Nat.reduceMul, Nat.reduceEqDiff, Nat.reduceLeDiff, Nat.zero_le, List.length_nil, List.length_cons, Nat.zero_add, true_or, or_true, false_or, or_false, true_and, and_true, and_self, mb_01, mb_t, mb_f, sE, tA, tB, e21, ix120 (show j < 120 by omega), g1, j2, mb_0, one0, Bool.true_eq_false, true_implies, not_true_eq_false, not_false_eq_true, false_implies, and_true, true_and]
      refine k s _ hs (fun q => by omega) (fun _ => ?_)
      have e2 : tk_s cs = 2 := hs.symm.trans h2'
      unfold tk_v
      rw [e2, hc]
      show _ = (0 : Int64) * _ + _
      rw [Int64.zero_mul, Int64.zero_add]
      rfl
  -- whether it is a point
  have hB : ∀ b, (b = true ↔ ∃ c, cs = [c] ∧ 65 ≤ c ∧ c ≤ 71) → mm_at z (mm_call z (d + 2)) (mm_code 147) Q 217 [some (.ref 127), some (.int (mb (cs.all (inC 97 122)))), some (.int (mb (cs.all (inC 48 57)))), some (.long (tk_w cs)), none, some (.long v10), none, some (.int (nI cs.length)), o8] [.int (mb b)] I J := by
    intro b hb
    have key : tk_s cs = if cs.length = 0 then 0 else if cs.all (inC 97 122) = true ∧ ¬ 8 < cs.length then 1 else if b = true then 2 else if cs.all (inC 48 57) = true ∧ ¬ 3 < cs.length then 3 else 4 := by
      unfold tk_s
      have e2 : (cs.length = 1 ∧ cs.all (inC 65 71) = true) = (b = true) := by
        apply propext
        rw [hb]
        constructor
        · rintro ⟨q1, q2⟩
          obtain ⟨c, rfl⟩ := List.length_eq_one_iff.mp q1
          rw [List.all_cons, List.all_nil, Bool.and_true] at q2
          unfold inC at q2
          exact ⟨c, rfl, (of_decide_eq_true q2).1, (of_decide_eq_true q2).2⟩
        · rintro ⟨c, rfl, q1, q2⟩
          refine ⟨rfl, ?_⟩
          rw [List.all_cons, List.all_nil, Bool.and_true]
          unfold inC
          exact decide_eq_true ⟨q1, q2⟩
      simp only [e2, Nat.not_lt, and_comm]
    have hb1 := hb.mp
    have hC' : ∀ s, s = tk_s cs → (s = 2 ↔ b = true) → _ := fun s q1 q2 => hC s b q1 hb1 q2
    have hbL : b = true → ¬ cs.length = 0 ∧ cs.all (inC 97 122) = false := by
      intro q
      obtain ⟨c, rfl, c1, c2⟩ := hb1 q
      refine ⟨by simp, ?_⟩
      rw [List.all_cons, List.all_nil, Bool.and_true]
      unfold inC
      exact decide_eq_false (by omega)
    simp only [bk_147.2.2.2.2.2.2.2.2.2.1, bk_147.2.2.2.2.2.2.2.2.2.2.1, bk_147.2.2.2.2.2.2.2.2.2.2.2.1, bk_147.2.2.2.2.2.2.2.2.2.2.2.2.1, bk_147.2.2.2.2.2.2.2.2.2.2.2.2.2.1, mmE, mmE0, mmH, mT, mR, mRf, mAl, mAs, mAz, mAn, Int.reduceToNat, Int32.reduceOfInt, Int64.reduceOfInt, Int.reduceAdd, swE, Nat.reduceDiv, Nat.reduceMod, Nat.reduceAdd, Nat.reduceMul, Nat.reduceEqDiff, Nat.reduceLeDiff, Nat.zero_le, List.length_nil, List.length_cons, Nat.zero_add, true_or, or_true, false_or, or_false, true_and, and_true, and_self, mb_01, mb_t, mb_f, n0, n8, n3, mb_0, true_implies, not_true_eq_false, not_false_eq_true, false_implies, and_true, true_and]
    by_cases q0 : cs.length = 0
    · have := hC' 0 (by rw [key, if_pos q0]) ⟨fun q => by omega, fun q => absurd q0 (hbL q).1⟩
      simp only [q0, true_implies, not_true_eq_false, not_false_eq_true, false_implies, and_true, true_and]
      rw [q0] at this
      exact this
    rw [if_neg q0] at key
    simp only [q0, true_implies, not_true_eq_false, not_false_eq_true, false_implies, and_true, true_and]
    cases qa : cs.all (inC 97 122) with
    | true =>
      rw [qa] at key hC'
      have bf : b = false := Bool.eq_false_iff.mpr (fun q => by rw [(hbL q).2] at qa; cases qa)
      subst bf
      by_cases q8 : 8 < cs.length
      · have e3 : (3 < cs.length) = True := eq_true (by omega)
        have := hC' 4 (by rw [key, if_neg (fun q => q.2 q8), if_neg (by decide), if_neg (fun q => q.2 (by omega))]) (by simp)
        simp only [q8, e3, Bool.true_eq_false, true_implies, not_true_eq_false, not_false_eq_true, false_implies, and_true, true_and, implies_true]
        exact ⟨fun _ => this, fun _ => this⟩
      · have := hC' 1 (by rw [key, if_pos ⟨rfl, q8⟩]) (by simp)
        simp only [q8, Bool.true_eq_false, true_implies, not_true_eq_false, not_false_eq_true, false_implies, and_true, true_and]
        exact this
    | false =>
      rw [qa] at key hC'
      rw [if_neg (fun q => by cases q.1)] at key
      simp only [Bool.true_eq_false, true_implies, not_true_eq_false, not_false_eq_true, false_implies, and_true, true_and]
      cases b with
      | true =>
        have := hC' 2 (by rw [key, if_pos rfl]) (by simp)
        simp only [Bool.true_eq_false, true_implies, not_true_eq_false, not_false_eq_true, false_implies, and_true, true_and]
        exact this
      | false =>
        rw [if_neg (by decide)] at key
        simp only [true_implies, not_true_eq_false, not_false_eq_true, false_implies, and_true, true_and]
        cases qd : cs.all (inC 48 57) with
        | true =>
          rw [qd] at key hC'
          by_cases q3 : 3 < cs.length
          · have := hC' 4 (by rw [key, if_neg (fun q => q.2 q3)]) (by simp)
            simp only [q3, Bool.true_eq_false, true_implies, not_true_eq_false, not_false_eq_true, false_implies, and_true, true_and]
            exact this
          · have := hC' 3 (by rw [key, if_pos ⟨rfl, q3⟩]) (by simp)
            simp only [q3, Bool.true_eq_false, true_implies, not_true_eq_false, not_false_eq_true, false_implies, and_true, true_and]
            exact this
        | false =>
          rw [qd] at key hC'
          have := hC' 4 (by rw [key, if_neg (fun q => by cases q.1)]) (by simp)
          simp only [Bool.true_eq_false, true_implies, not_true_eq_false, not_false_eq_true, false_implies, and_true, true_and]
          exact this
  by_cases q1 : cs.length = 1
  · obtain ⟨c, hc⟩ := List.length_eq_one_iff.mp q1
    obtain ⟨j1, j2⟩ := hj c hc
    obtain ⟨g1, g2⟩ := h.2.2 j j1
    rw [j2] at g1 g2
    have ei := @in_ab (nI c) 65 71 (by omega) (by omega)
    rw [show Int64.ofInt 65 = 65 from rfl, show Int64.ofInt 71 = 71 from rfl, nI_toInt (by omega)] at ei
    have := hB (decide ((65 : Int) ≤ (c : Int) ∧ (c : Int) ≤ 71)) (by
      rw [decide_eq_true_eq]
      constructor
      · rintro ⟨q1, q2⟩
        exact ⟨c, hc, by omega, by omega⟩
      · rintro ⟨c', e, q1, q2⟩
        rw [hc] at e
        injection e with e
        omega)
    simp only [bk_147.2.2.2.2.2.2.2.1, bk_147.2.2.2.2.2.2.2.2.1, mmE, mmE0, mmH, mT, mR, mRf, mAl, mAs, mAz, mAn, Int.reduceToNat, Int32.reduceOfInt, Int64.reduceOfInt, Int.reduceAdd, swE, Nat.reduceDiv, Nat.reduceMod, Nat.reduceAdd, Nat.reduceMul, Nat.reduceEqDiff, Nat.reduceLeDiff, Nat.zero_le, List.length_nil, List.length_cons, Nat.zero_add, true_or, or_true, false_or, or_false, true_and, and_true, and_self, mb_01, mb_t, mb_f, n1, q1, hst, ix120 (show j < 120 by omega), g1, c_in, ei, mb_0, true_implies, not_true_eq_false, not_false_eq_true, false_implies, and_true, true_and]
    rw [q1] at this
    cases qq : decide ((65 : Int) ≤ (c : Int) ∧ (c : Int) ≤ 71) with
    | true =>
      rw [qq] at this
      simp only [n11, Bool.true_eq_false, true_implies, not_true_eq_false, not_false_eq_true, false_implies, and_true, true_and]
      exact this
    | false =>
      rw [qq] at this
      simp only [n11, true_implies, not_true_eq_false, not_false_eq_true, false_implies, and_true, true_and]
      exact this
  · have := hB false ⟨fun q => (by cases q), fun ⟨c, e, _⟩ => absurd (by rw [e]; rfl) q1⟩
    simp only [bk_147.2.2.2.2.2.2.2.1, bk_147.2.2.2.2.2.2.2.2.1, mmE, mmE0, mmH, mT, mR, mRf, mAl, mAs, mAz, mAn, Int.reduceToNat, Int32.reduceOfInt, Int64.reduceOfInt, Int.reduceAdd, swE, Nat.reduceDiv, Nat.reduceMod, Nat.reduceAdd, Nat.reduceMul, Nat.reduceEqDiff, Nat.reduceLeDiff, Nat.zero_le, List.length_nil, List.length_cons, Nat.zero_add, true_or, or_true, false_or, or_false, true_and, and_true, and_self, mb_01, mb_t, mb_f, n1, q1, true_implies, not_true_eq_false, not_false_eq_true, false_implies, and_true, true_and]
    exact this
theorem w_take {i : Nat} (h : rm_tape I T n) (hi : i ≤ n) (hat : I 127 17 = nI i) (k : ∀ I' J', rm_mv I J I' J' → I' 127 17 = nI (tk_e T n i) → I' 127 18 = nI (tk_j T n i) → I' 127 19 = nI (tk_s (tk_c T n i)) → (tk_s (tk_c T n i) = 1 → J' 127 20 = tk_w (tk_c T n i)) → (tk_s (tk_c T n i) = 2 ∨ tk_s (tk_c T n i) = 3 → J' 127 20 = tk_v (tk_c T n i)) → Q none I' J') : mm_call z (d + 3) 147 [.ref 127] I J Q := by
  obtain ⟨l1, l2, l3⟩ := tk_le (T := T) hi
  have hn := h.2.1
  simp only [ce_147, bk_147, mmE, mmE0, mmH, mT, mR, mRf, mAl, mAs, mAz, mAn, Int.reduceToNat, Int32.reduceOfInt, Int64.reduceOfInt, Int.reduceAdd, swE, Nat.reduceDiv, Nat.reduceMod, Nat.reduceAdd, Nat.reduceMul, Nat.reduceEqDiff, Nat.reduceLeDiff, Nat.zero_le, List.length_nil, List.length_cons, Nat.zero_add, true_or, or_true, false_or, or_false, true_and, and_true, and_self, mb_01, mb_t, mb_f]
  refine w_take1 (z := z) (d := d) (n - i) i I (by omega) h hat (fun I1 m1 h1 => ?_)
  have r1 := rm_tape_mv h m1
  simp only [ce_147, bk_147, mmE, mmE0, mmH, mT, mR, mRf, mAl, mAs, mAz, mAn, Int.reduceToNat, Int32.reduceOfInt, Int64.reduceOfInt, Int.reduceAdd, swE, Nat.reduceDiv, Nat.reduceMod, Nat.reduceAdd, Nat.reduceMul, Nat.reduceEqDiff, Nat.reduceLeDiff, Nat.zero_le, List.length_nil, List.length_cons, Nat.zero_add, true_or, or_true, false_or, or_false, true_and, and_true, and_self, mb_01, mb_t, mb_f, h1]
  have m2 : rm_mv I1 J (mm_wI I1 127 18 (nI (sk T (n - i) i))) J := mmv_at (Or.inr (Or.inl rfl))
  have r2 := rm_tape_mv r1 m2
  refine w_take2 (z := z) (d := d) (Q := Q) (n - tk_j T n i) (tk_j T n i) _ (true, true, 0, 0, 0) _ (by omega) (by show 0 ≤ _; omega) r2 ?_ (fun I3 o8 m3 h3 h4 => ?_)
  · rw [mWI, if_pos rfl, if_neg (by decide)]
    exact h1
  have hst : I3 127 18 = nI (tk_j T n i) := by
    rw [h4, mWI, if_pos rfl, if_pos rfl]
    rfl
  have hat3 : I3 127 17 = nI (tk_e T n i) := h3
  have r3 := rm_tape_mv r2 m3
  have m13 := rm_mv_tr m1 (rm_mv_tr m2 m3)
  have bseg : seg T (tk_j T n i) (te T (n - tk_j T n i) (tk_j T n i)) = tk_c T n i := rfl
  rw [bseg]
  obtain ⟨a1, a2, a3, a4⟩ := tm_all (tk_c T n i) (true, true, 0, 0, 0)
  have a5 := tm_dec (tk_c T n i) (true, true, 0, 0, 0)
  have a1' : (List.foldl tm_1 (true, true, 0, 0, 0) (tk_c T n i)).1 = (tk_c T n i).all (inC 97 122) := a1.trans (Bool.true_and _)
  have a2' : (List.foldl tm_1 (true, true, 0, 0, 0) (tk_c T n i)).2.1 = (tk_c T n i).all (inC 48 57) := a2.trans (Bool.true_and _)
  have a3' : (List.foldl tm_1 (true, true, 0, 0, 0) (tk_c T n i)).2.2.1 = tk_w (tk_c T n i) := a3
  have a4' : (List.foldl tm_1 (true, true, 0, 0, 0) (tk_c T n i)).2.2.2.2 = (tk_c T n i).length := a4.trans (Nat.zero_add _)
  rw [a1', a2', a3', a4']
  have hlen : (tk_c T n i).length = tk_e T n i - tk_j T n i := seg_len
  have hbyte : ∀ c ∈ tk_c T n i, c < 256 := by
    intro c hc
    obtain ⟨q, hq, rfl⟩ := List.mem_map.mp hc
    rw [List.mem_range'_1] at hq
    exact (h.2.2 q (by omega)).2
  refine w_take3 (z := z) (d := d) (T := T) (n := n) r3 hst (fun c hc => ?_) (by omega) (fun q => a5 (by show 0 + _ ≤ 4; omega) hbyte) (fun s w hs hw1 hw2 => ?_)
  · have hj : tk_j T n i < n := by
      have : (tk_c T n i).length = 1 := by rw [hc]; rfl
      omega
    refine ⟨hj, ?_⟩
    have : tk_c T n i = T (tk_j T n i) :: seg T (tk_j T n i + 1) (tk_e T n i) := by
      have hl1 : (tk_c T n i).length = 1 := by rw [hc]; rfl
      show seg T (tk_j T n i) (tk_e T n i) = _
      unfold seg
      rw [show tk_e T n i - tk_j T n i = tk_e T n i - (tk_j T n i + 1) + 1 by omega, List.range'_succ, List.map_cons]
    rw [this] at hc
    injection hc
  · have m4 : rm_mv I3 J (mm_wI I3 127 19 (nI s)) (mm_wJ J 127 20 w) := by
      refine ⟨fun k hk => ?_, fun i h1 h2 h3 => ?_, fun k j hk => ?_⟩
      · funext q; rw [mWI, if_neg hk]
      · rw [mWI, if_pos rfl, if_neg h3]
      · rw [mWJ, if_neg hk]
    refine k _ _ (rm_mv_tr m13 m4) ?_ ?_ ?_ ?_ ?_
    · rw [mWI, if_pos rfl, if_neg (by decide)]; exact hat3
    · rw [mWI, if_pos rfl, if_neg (by decide)]; exact hst
    · rw [mWI, if_pos rfl, if_pos rfl, hs]
    · intro q
      rw [mWJ, if_pos rfl, if_pos rfl]
      exact hw1 (hs.trans q)
    · intro q
      rw [mWJ, if_pos rfl, if_pos rfl]
      exact hw2 (by rw [hs]; exact q)
end TK
