/-! the class's reader -/
def fe {α : Type} (x : Except Nat α) : Int32 := match x with
  | .error p => nI p
  | .ok _ => -1
def enC (I : mm_I) (J : mm_J) (T : Nat → Nat) (n lg : Nat) (W : Nat → Nat → List Nat) (np : Nat) : Prop := rt_rep I T n ∧ rw_C I J lg W ∧ I 1 0 = nI np
/-- what the reader may change -/
def rd_fr (I : mm_I) (J : mm_J) (I' : mm_I) (J' : mm_J) : Prop := (∀ k, k ≠ 104 → k ≠ 109 → k ≠ 110 → k ≠ 111 → I' k = I k) ∧ (∀ j, j < 2 → I' 104 j = I 104 j) ∧ ∀ k j, k ≠ 104 → k ≠ 108 → J' k j = J k j
theorem rd_rf {I : mm_I} {J : mm_J} : rd_fr I J I J := ⟨fun _ _ _ _ _ => rfl, fun _ _ => rfl, fun _ _ _ _ => rfl⟩
theorem rd_tr {I I' I'' : mm_I} {J J' J'' : mm_J} (h : rd_fr I J I' J') (h' : rd_fr I' J' I'' J'') : rd_fr I J I'' J'' := ⟨fun k a b c e => (h'.1 k a b c e).trans (h.1 k a b c e), fun j q => (h'.2.1 j q).trans (h.2.1 j q), fun k j a b => (h'.2.2 k j a b).trans (h.2.2 k j a b)⟩
theorem rd_mv {I I' : mm_I} {J J' : mm_J} (h : rt_mv I J I' J') : rd_fr I J I' J' := ⟨fun k a _ _ _ => h.1 k a, h.2.1, fun k j a _ => h.2.2 k j a⟩
theorem rd_w {I : mm_I} {J : mm_J} {k j : Nat} {x : Int32} (hk : k = 109 ∨ k = 110 ∨ k = 111) : rd_fr I J (mm_wI I k j x) J := by
  refine ⟨fun c a b e f => ?_, fun i _ => ?_, fun _ _ _ _ => rfl⟩
  · funext q
    rw [mWI, if_neg (by omega)]
  · rw [mWI, if_neg (by omega)]
theorem enC_fr {I I' : mm_I} {J J' : mm_J} {T : Nat → Nat} {n lg : Nat} {W : Nat → Nat → List Nat} {np : Nat} (h : enC I J T n lg W np) (f : rd_fr I J I' J') : enC I' J' T n lg W np := by
  obtain ⟨h1, h2, h3⟩ := h
  refine ⟨⟨?_, h1.2.1, fun i hi => ?_⟩, ⟨?_, fun l k hl hk => ?_⟩, ?_⟩
  · rw [f.2.1 1 (by omega)]; exact h1.1
  · rw [f.1 105 (by decide) (by decide) (by decide) (by decide)]; exact h1.2.2 i hi
  · rw [f.1 106 (by decide) (by decide) (by decide) (by decide)]; exact h2.1
  · rw [f.2.2 107 _ (by decide) (by decide)]; exact h2.2 l k hl hk
  · rw [f.1 1 (by decide) (by decide) (by decide) (by decide)]; exact h3
/-- the token behind i has been read -/
def tkC (I : mm_I) (J : mm_J) (T : Nat → Nat) (n i : Nat) : Prop := I 104 2 = nI (tk_e T n i) ∧ I 104 3 = nI (tk_j T n i) ∧ I 104 4 = nI (tk_s (tk_c T n i)) ∧ J 104 5 = tk_v (tk_c T n i)
theorem lQ_i (n : Nat) (h : n < 2 ^ 31) : (nI n).toInt64 = lN n := by
  apply Int64.toInt_inj.mp
  rw [Int32.toInt_toInt64, nI_toInt h]
  show _ = (Int64.ofNat n).toInt
  rw [Int64.toInt_ofNat_of_lt (by omega)]
theorem lQ_lt {a b : Nat} (ha : a < 2 ^ 31) (hb : b < 2 ^ 31) : (lN a < lN b) = (a < b) := by
  rw [Int64.lt_iff_toInt_lt]
  show ((Int64.ofNat a).toInt < (Int64.ofNat b).toInt) = _
  rw [Int64.toInt_ofNat_of_lt (by omega), Int64.toInt_ofNat_of_lt (by omega)]
  exact propext (by omega)
theorem v4L : (vp_in 0 4 = True ∧ vp_in 1 4 = True ∧ vp_in 2 4 = True ∧ vp_in 3 4 = True) ∧ ((0 : Int32).toNatClampNeg = 0 ∧ (1 : Int32).toNatClampNeg = 1 ∧ (2 : Int32).toNatClampNeg = 2 ∧ (3 : Int32).toNatClampNeg = 3) := ⟨⟨eq_true (vp_in_nI (n := 0) (by decide) (by decide)), eq_true (vp_in_nI (n := 1) (by decide) (by decide)), eq_true (vp_in_nI (n := 2) (by decide) (by decide)), eq_true (vp_in_nI (n := 3) (by decide) (by decide))⟩, by decide⟩
theorem skE {s c : Nat} (hs : s < 2 ^ 31) (hc : c < 2 ^ 31) : (nI s = nI c) = (s = c) := eq_nI hs hc
theorem tsE (cs : List Nat) : (nI (tk_s cs) = 0) = (tk_s cs = 0) ∧ (nI (tk_s cs) = 1) = (tk_s cs = 1) ∧ (nI (tk_s cs) = 2) = (tk_s cs = 2) ∧ (nI (tk_s cs) = 3) = (tk_s cs = 3) := by
  have := tk_s_lt cs
  exact ⟨skE (c := 0) (by omega) (by omega), skE (c := 1) (by omega) (by omega), skE (c := 2) (by omega) (by omega), skE (c := 3) (by omega) (by omega)⟩
section RR
variable {z : mm_S} {d : Nat} {I : mm_I} {J : mm_J} {T : Nat → Nat} {n lg np : Nat} {W : Nat → Nat → List Nat} {Q : Option Value → mm_I → mm_J → Prop}
theorem w_nx {i : Nat} (h : enC I J T n lg W np) (hi : i ≤ n) (hat : I 104 2 = nI i) (k : ∀ I' J', rd_fr I J I' J' → (∀ k, k ≠ 104 → I' k = I k) → enC I' J' T n lg W np → tkC I' J' T n i → tk_e T n i ≤ n → Q none I' J') : mm_call z (d + 2) 91 [.ref 104] I J Q := by
  refine w_next h.1 hi hat (fun I' J' m h1 h2 h3 h4 => ?_)
  exact k I' J' (rd_mv m) m.1 (enC_fr h (rd_mv m)) ⟨h1, h2, h3, h4⟩ (tk_le (T := T) hi).2.2
theorem c_word {i : Nat} (hlg : lg < 2) (hW : rw_W W) (h : enC I J T n lg W np) (ht : tkC I J T n i) (Q : Option Value → mm_I → mm_J → Prop) : mm_call z (d + 2) 58 [.ref 108] I J Q = Q (some (.int (eI (rdW T n (W lg) i)))) I J := by
  refine mm_ev ?_ Q
  unfold rdW
  simp only [ce_58, bk_58, mmE, mmE0, mmH, mT, mR, mRf, mAl, mAs, mAz, mAn, Int.reduceToNat, Int32.reduceOfInt, Int64.reduceOfInt, Int.reduceAdd, swE, Nat.reduceDiv, Nat.reduceMod, Nat.reduceAdd, Nat.reduceMul, Nat.reduceEqDiff, Nat.reduceLeDiff, Nat.zero_le, List.length_nil, List.length_cons, Nat.zero_add, true_or, or_true, false_or, or_false, true_and, and_true, and_self, mb_01, mb_t, mb_f, ht.2.2.1, tsE]
  by_cases q : tk_s (tk_c T n i) = 1
  · have ev : J 104 5 = tk_x 0 256 (tk_c T n i) := by
      rw [ht.2.2.2]
      unfold tk_v
      rw [if_pos q]
    simp only [q, ev, h.2.1.1, c_find hlg (tk_s1.mp q) hW h.2.1, true_implies, not_true_eq_false, false_implies, and_true, true_and, if_true, List.nil_append, List.cons_append, Option.toList_some, ce_58, bk_58, mmE, mmE0, mmH, mT, mR, mRf, mAl, mAs, mAz, mAn, Int.reduceToNat, Int32.reduceOfInt, Int64.reduceOfInt, Int.reduceAdd, swE, Nat.reduceDiv, Nat.reduceMod, Nat.reduceAdd, Nat.reduceMul, Nat.reduceEqDiff, Nat.reduceLeDiff, Nat.zero_le, List.length_nil, List.length_cons, Nat.zero_add, true_or, or_true, false_or, or_false, true_and, and_true, and_self, mb_01, mb_t, mb_f]
  · simp only [q, true_implies, not_false_eq_true, false_implies, and_true, true_and, if_false]
    rfl
theorem w_readEnd {i : Nat} {α : Type} {x : α} (h : enC I J T n lg W np) (hi : i ≤ n) (hat : I 104 2 = nI i) (k : ∀ I' J', rd_fr I J I' J' → (∀ k, k ≠ 104 → I' k = I k) → Q (some (.int (eI (if tk_s (tk_c T n i) = 0 then none else some (tk_j T n i))))) I' J') : mm_call z (d + 3) 55 [.ref 108] I J Q := by
  simp only [ce_55, bk_55, mmE, mmE0, mmH, mT, mR, mRf, mAl, mAs, mAz, mAn, Int.reduceToNat, Int32.reduceOfInt, Int64.reduceOfInt, Int.reduceAdd, swE, Nat.reduceDiv, Nat.reduceMod, Nat.reduceAdd, Nat.reduceMul, Nat.reduceEqDiff, Nat.reduceLeDiff, Nat.zero_le, List.length_nil, List.length_cons, Nat.zero_add, true_or, or_true, false_or, or_false, true_and, and_true, and_self, mb_01, mb_t, mb_f]
  refine w_nx h hi hat (fun I' J' f f2 h' t _ => ?_)
  have hk := k I' J' f f2
  simp only [ce_55, bk_55, mmE, mmE0, mmH, mT, mR, mRf, mAl, mAs, mAz, mAn, Int.reduceToNat, Int32.reduceOfInt, Int64.reduceOfInt, Int.reduceAdd, swE, Nat.reduceDiv, Nat.reduceMod, Nat.reduceAdd, Nat.reduceMul, Nat.reduceEqDiff, Nat.reduceLeDiff, Nat.zero_le, List.length_nil, List.length_cons, Nat.zero_add, true_or, or_true, false_or, or_false, true_and, and_true, and_self, mb_01, mb_t, mb_f, t.2.2.1, tsE]
  by_cases q : tk_s (tk_c T n i) = 0
  · rw [if_pos q] at hk
    simp only [q, true_implies, not_true_eq_false, false_implies, and_true, true_and]
    exact hk
  · rw [if_neg q] at hk
    simp only [q, t.2.1, true_implies, not_false_eq_true, false_implies, and_true, true_and]
    exact hk
/-- points are read -/
theorem rdP_ok {T : Nat → Nat} {n np : Nat} : ∀ (w i : Nat) (q : List Nat × Nat), i ≤ n → rdP T n np w i = .ok q → q.1.length = w ∧ (∀ x ∈ q.1, x < np) ∧ q.2 ≤ n
  | 0, i, q, hi, h => by
    injection h with h
    subst h
    exact ⟨rfl, (fun x hx => by cases hx), hi⟩
  | w + 1, i, q, hi, h => by
    unfold rdP at h
    by_cases c : tk_s (tk_c T n i) = 2 ∧ tk_n (tk_c T n i) < np
    · rw [if_pos c] at h
      cases e : rdP T n np w (tk_e T n i) with
      | error p => rw [e] at h; cases h
      | ok r =>
        rw [e] at h
        injection h with h
        subst h
        obtain ⟨h1, h2, h3⟩ := rdP_ok w (tk_e T n i) r (tk_le (T := T) hi).2.2 e
        refine ⟨by rw [List.length_cons, h1], fun x hx => ?_, h3⟩
        rcases List.mem_cons.mp hx with y | y
        · rw [y]; exact c.2
        · exact h2 x y
    · rw [if_neg c] at h
      cases h
theorem w_rf_loop {k : Nat} {st : Int32} (hnp : np ≤ 7) (hk4 : kdN k ≤ 4) : ∀ (w c i : Nat) (I : mm_I) (J : mm_J), c + w = kdN k → i ≤ n → enC I J T n lg W np → I 104 2 = nI i → (match rdP T n np w i with
    | .error p => ∀ I' J', rd_fr I J I' J' → Q (some (.int (nI p))) I' J'
    | .ok q => ∀ I' J', rd_fr I J I' J' → enC I' J' T n lg W np → (∀ x, x < c ∨ c + w ≤ x → I' 109 x = I 109 x) → (∀ x, x < w → I' 109 (c + x) = nI (q.1.getD x 0)) → I' 104 2 = nI q.2 → mm_at z (mm_call z (d + 2)) (mm_code 57) Q 136 [some (.ref 108), some (.int st), some (.int (nI k)), some (.int (nI (kdN k))), some (.int (nI (kdN k)))] [] I' J') → mm_at z (mm_call z (d + 2)) (mm_code 57) Q 54 [some (.ref 108), some (.int st), some (.int (nI k)), some (.int (nI (kdN k))), some (.int (nI c))] [] I J
  | 0, c, i, I, J, hc, hi, h, hat, K => by
    rw [hk_57_54]
    have c1 : (nI (kdN k) ≤ nI c) = True := by rw [le_nI (by omega) (by omega)]; exact eq_true (by omega)
    have hK : mm_at z (mm_call z (d + 2)) (mm_code 57) Q 136 [some (.ref 108), some (.int st), some (.int (nI k)), some (.int (nI (kdN k))), some (.int (nI (kdN k)))] [] I J := K I J rd_rf h (fun _ _ => rfl) (fun x hx => by omega) hat
    have e : c = kdN k := by omega
    subst e
    simp only [mmE, mmE0, mmH, mT, mR, mRf, mAl, mAs, mAz, mAn, Int.reduceToNat, Int32.reduceOfInt, Int64.reduceOfInt, Int.reduceAdd, swE, Nat.reduceDiv, Nat.reduceMod, Nat.reduceAdd, Nat.reduceMul, Nat.reduceEqDiff, Nat.reduceLeDiff, Nat.zero_le, List.length_nil, List.length_cons, Nat.zero_add, true_or, or_true, false_or, or_false, true_and, and_true, and_self, mb_01, mb_t, mb_f, c1, true_implies, not_true_eq_false, false_implies, and_true]
    exact hK
  | w + 1, c, i, I, J, hc, hi, h, hat, K => by
    rw [hk_57_54]
    have c1 : (nI (kdN k) ≤ nI c) = False := by rw [le_nI (by omega) (by omega)]; exact eq_false (by omega)
    have c2 : (Int32.ofNat 4 ≤ nI c) = False := eq_false (nI_ge (b := 4) (by omega) (by decide))
    have c3 : vp_in (nI c) 4 = True := eq_true (vp_in_nI (by omega) (by decide))
    have c4 : (nI c).toNatClampNeg = c := nI_clamp (by omega)
    simp only [mmE, mmE0, mmH, mT, mR, mRf, mAl, mAs, mAz, mAn, Int.reduceToNat, Int32.reduceOfInt, Int64.reduceOfInt, Int.reduceAdd, swE, Nat.reduceDiv, Nat.reduceMod, Nat.reduceAdd, Nat.reduceMul, Nat.reduceEqDiff, Nat.reduceLeDiff, Nat.zero_le, List.length_nil, List.length_cons, Nat.zero_add, true_or, or_true, false_or, or_false, true_and, and_true, and_self, mb_01, mb_t, mb_f, c1, c2, true_implies, not_true_eq_false, not_false_eq_true, false_implies, and_true, true_and]
    refine w_nx h hi hat (fun I1 J1 f1 f1' h1 t1 l1 => ?_)
    simp only [ce_57, bk_57, mmE, mmE0, mmH, mT, mR, mRf, mAl, mAs, mAz, mAn, Int.reduceToNat, Int32.reduceOfInt, Int64.reduceOfInt, Int.reduceAdd, swE, Nat.reduceDiv, Nat.reduceMod, Nat.reduceAdd, Nat.reduceMul, Nat.reduceEqDiff, Nat.reduceLeDiff, Nat.zero_le, List.length_nil, List.length_cons, Nat.zero_add, true_or, or_true, false_or, or_false, true_and, and_true, and_self, mb_01, mb_t, mb_f, t1.2.2.1, tsE, List.nil_append, Option.toList_none]
    unfold rdP at K
    by_cases q2 : tk_s (tk_c T n i) = 2
    · obtain ⟨v1, v2⟩ := tk_nv (Or.inl q2)
      have hv : J1 104 5 = lN (tk_n (tk_c T n i)) := by rw [t1.2.2.2, v1]
      simp only [q2, hv, h1.2.2, lQ_i np (by omega), lc_lt, lQ_lt (show tk_n (tk_c T n i) < 2 ^ 31 by omega) (show np < 2 ^ 31 by omega), true_implies, not_true_eq_false, not_false_eq_true, false_implies, and_true, true_and]
      by_cases qn : tk_n (tk_c T n i) < np
      · rw [if_pos ⟨q2, qn⟩] at K
        simp only [qn, c3, c4, lN_i, true_implies, not_true_eq_false, not_false_eq_true, false_implies, and_true, true_and]
        rw [← nI_succ]
        have fw : rd_fr I1 J1 (mm_wI I1 109 c (nI (tk_n (tk_c T n i)))) J1 := rd_w (Or.inl rfl)
        refine w_rf_loop hnp hk4 w (c + 1) (tk_e T n i) _ J1 (by omega) l1 (enC_fr h1 fw) ?_ ?_
        · rw [mWI, if_neg (by decide)]; exact t1.1
        · cases e : rdP T n np w (tk_e T n i) with
          | error p =>
            rw [e] at K
            exact fun I' J' f' => K I' J' (rd_tr f1 (rd_tr fw f'))
          | ok r =>
            rw [e] at K
            intro I' J' f' h' a' b' at'
            refine K I' J' (rd_tr f1 (rd_tr fw f')) h' (fun x hx => ?_) (fun x hx => ?_) at'
            · rw [a' x (by omega), mWI, if_pos rfl, if_neg (by omega), f1' _ (by decide)]
            · match x with
              | 0 =>
                rw [Nat.add_zero, a' c (by omega), mWI, if_pos rfl, if_pos rfl]
                rfl
              | x + 1 =>
                rw [show c + (x + 1) = c + 1 + x by omega, b' x (by omega)]
                rfl
      · rw [if_neg (fun q => qn q.2)] at K
        simp only [qn, t1.2.1, true_implies, not_true_eq_false, not_false_eq_true, false_implies, and_true, true_and]
        exact K I1 J1 f1
    · rw [if_neg (fun q => q2 q.1)] at K
      simp only [q2, t1.2.1, true_implies, not_true_eq_false, not_false_eq_true, false_implies, and_true, true_and]
      exact K I1 J1 f1
theorem w_restart {f : Nat} (k : ∀ I', rC_row I' 110 (f, 0, -5, []) → (∀ k, k ≠ 110 → I' k = I k) → Q none I' J) : mm_call z (d + 1) 63 [.ref 110, .int (nI f)] I J Q := by
  simp only [ce_63, bk_63, mmE, mmE0, mmH, mT, mR, mRf, mAl, mAs, mAz, mAn, Int.reduceToNat, Int32.reduceOfInt, Int64.reduceOfInt, Int.reduceAdd, swE, Nat.reduceDiv, Nat.reduceMod, Nat.reduceAdd, Nat.reduceMul, Nat.reduceEqDiff, Nat.reduceLeDiff, Nat.zero_le, List.length_nil, List.length_cons, Nat.zero_add, true_or, or_true, false_or, or_false, true_and, and_true, and_self, mb_01, mb_t, mb_f]
  refine k _ ⟨?_, ?_, ?_, ?_, fun q hq => by cases hq⟩ (fun c hc => ?_)
  · rw [mWI, if_pos rfl, if_neg (by decide), mWI, if_pos rfl, if_neg (by decide), mWI, if_pos rfl, if_neg (by decide), mWI, if_pos rfl, if_pos rfl]
  · rw [mWI, if_pos rfl, if_neg (by decide), mWI, if_pos rfl, if_neg (by decide), mWI, if_pos rfl, if_pos rfl]
    rfl
  · rw [mWI, if_pos rfl, if_neg (by decide), mWI, if_pos rfl, if_pos rfl]
  · rw [mWI, if_pos rfl, if_pos rfl]
    rfl
  · funext q
    rw [mWI, if_neg hc, mWI, if_neg hc, mWI, if_neg hc, mWI, if_neg hc]
theorem getD_lt {l : List Nat} {m : Nat} (h : ∀ x ∈ l, x < m) (hm : 0 < m) (i : Nat) : l.getD i 0 < m := by
  rw [List.getD_eq_getElem?_getD]
  cases e : l[i]? with
  | none => exact hm
  | some v => exact h v (List.mem_of_getElem? e)
theorem w_readFact (hnp : np ≤ 7) (hlg : lg < 2) (hW : rw_W W) (h : enC I J T n lg W np) (k : match rdF T n np (W lg) with
    | .error p => ∀ I' J', rd_fr I J I' J' → Q (some (.int (nI p))) I' J'
    | .ok q => ∀ I' J', rd_fr I J I' J' → enC I' J' T n lg W np → rC_row I' 110 (q.2.2.1, 0, -5, []) → I' 104 2 = nI q.2.2.2 → Q (some (.int (-1))) I' J') : mm_call z (d + 3) 57 [.ref 108] I J Q := by
  simp only [ce_57, bk_57, mmE, mmE0, mmH, mT, mR, mRf, mAl, mAs, mAz, mAn, Int.reduceToNat, Int32.reduceOfInt, Int64.reduceOfInt, Int.reduceAdd, swE, Nat.reduceDiv, Nat.reduceMod, Nat.reduceAdd, Nat.reduceMul, Nat.reduceEqDiff, Nat.reduceLeDiff, Nat.zero_le, List.length_nil, List.length_cons, Nat.zero_add, true_or, or_true, false_or, or_false, true_and, and_true, and_self, mb_01, mb_t, mb_f]
  simp only [ce_90, bk_90, mmE, mmE0, mmH, mT, mR, mRf, mAl, mAs, mAz, mAn, Int.reduceToNat, Int32.reduceOfInt, Int64.reduceOfInt, Int.reduceAdd, swE, Nat.reduceDiv, Nat.reduceMod, Nat.reduceAdd, Nat.reduceMul, Nat.reduceEqDiff, Nat.reduceLeDiff, Nat.zero_le, List.length_nil, List.length_cons, Nat.zero_add, true_or, or_true, false_or, or_false, true_and, and_true, and_self, mb_01, mb_t, mb_f, List.nil_append, Option.toList_none]
  have m0 : rt_mv I J (mm_wI I 104 2 0) J := mv_at (by decide)
  have h0 := enC_fr h (rd_mv m0)
  refine w_nx (i := 0) h0 (by omega) (by rw [mWI, if_pos rfl, if_pos rfl]; rfl) (fun I1 J1 f1 f1' h1 t1 l1 => ?_)
  have f01 := rd_tr (rd_mv m0) f1
  simp only [bk_57.1, bk_57.2.1, bk_57.2.2.1, mmE, mmE0, mmH, mT, mR, mRf, mAl, mAs, mAz, mAn, Int.reduceToNat, Int32.reduceOfInt, Int64.reduceOfInt, Int.reduceAdd, swE, Nat.reduceDiv, Nat.reduceMod, Nat.reduceAdd, Nat.reduceMul, Nat.reduceEqDiff, Nat.reduceLeDiff, Nat.zero_le, List.length_nil, List.length_cons, Nat.zero_add, true_or, or_true, false_or, or_false, true_and, and_true, and_self, mb_01, mb_t, mb_f, List.nil_append, Option.toList_none, t1.2.1, c_word hlg hW h1 t1, Option.toList_some, List.cons_append]
  unfold rdF at k
  cases e0 : rdW T n (W lg) 0 with
  | none =>
    rw [e0] at k
    simp only [eI_none, show ((-1 : Int32) < 0) = True by decide, true_implies, not_true_eq_false, not_false_eq_true, false_implies, and_true, true_and]
    exact k I1 J1 f01
  | some kk =>
    rw [e0] at k
    have kk11 : kk < 11 := by
      unfold rdW at e0
      split at e0
      · exact (wh_lt e0).1
      · cases e0
    simp only [eI_some, nneg (show kk < 2 ^ 31 by omega), true_implies, not_true_eq_false, not_false_eq_true, false_implies, and_true, true_and]
    have c7 : (nI kk < 7) = (kk < 7) := lt_nI (b := 7) (by omega) (by omega)
    simp only [c7]
    by_cases q7 : kk < 7
    · simp only [q7, if_true] at k
      have k4 := kdN_le kk
      simp only [q7, v4L, c_pointsOf, pointsOf_n q7, true_implies, not_true_eq_false, not_false_eq_true, false_implies, and_true, true_and, bk_57.1, bk_57.2.1, bk_57.2.2.1, mmE, mmE0, mmH, mT, mR, mRf, mAl, mAs, mAz, mAn, Int.reduceToNat, Int32.reduceOfInt, Int64.reduceOfInt, Int.reduceAdd, swE, Nat.reduceDiv, Nat.reduceMod, Nat.reduceAdd, Nat.reduceMul, Nat.reduceEqDiff, Nat.reduceLeDiff, Nat.zero_le, List.length_nil, List.length_cons, Nat.zero_add, true_or, or_true, false_or, or_false, true_and, and_true, and_self, mb_01, mb_t, mb_f, Option.toList_some, List.cons_append, List.nil_append]
      have fw : rd_fr I1 J1 (mm_wI I1 109 3 0) J1 := rd_w (Or.inl rfl)
      refine w_rf_loop (z := z) (d := d) hnp k4 (kdN kk) 0 (tk_e T n 0) _ J1 (by omega) l1 (enC_fr h1 fw) ?_ ?_
      · rw [mWI, if_neg (by decide)]; exact t1.1
      · cases e1 : rdP T n np (kdN kk) (tk_e T n 0) with
        | error p =>
          rw [e1] at k
          exact fun I' J' f' => k I' J' (rd_tr f01 (rd_tr fw f'))
        | ok r =>
          rw [e1] at k
          dsimp only at k
          intro I' J' f' h' a' b' at'
          obtain ⟨r1, r2, r3⟩ := rdP_ok _ _ _ l1 e1
          have k3 : kdN kk = 3 ∨ kdN kk = 4 := by unfold kdN; split <;> simp
          have gl : ∀ x, x < 4 → I' 109 x = nI (r.1.getD x 0) := by
            intro x hx
            by_cases qx : x < kdN kk
            · have := b' x qx
              rw [Nat.zero_add] at this
              exact this
            · have x3 : x = 3 := by omega
              rw [a' x (by omega), mWI, if_pos rfl, if_pos x3, x3, List.getD_eq_getElem?_getD, List.getElem?_eq_none (by omega)]
              rfl
          have np0 : 0 < np := by
            have : r.1 ≠ [] := by
              intro q
              rw [q] at r1
              rcases k3 with q | q <;> rw [q] at r1 <;> cases r1
            obtain ⟨x, hx⟩ := List.exists_mem_of_ne_nil _ this
            have := r2 x hx
            omega
          have lt7 : ∀ x, r.1.getD x 0 < 7 := fun x => by have := getD_lt r2 np0 x; omega
          have nE := fa_number_n q7 (lt7 0) (lt7 1) (lt7 2) (lt7 3)
          simp only [bk_57.2.2.2.2.2.1, bk_57.2.2.2.2.2.2, mmE, mmE0, mmH, mT, mR, mRf, mAl, mAs, mAz, mAn, Int.reduceToNat, Int32.reduceOfInt, Int64.reduceOfInt, Int.reduceAdd, swE, Nat.reduceDiv, Nat.reduceMod, Nat.reduceAdd, Nat.reduceMul, Nat.reduceEqDiff, Nat.reduceLeDiff, Nat.zero_le, List.length_nil, List.length_cons, Nat.zero_add, true_or, or_true, false_or, or_false, true_and, and_true, and_self, mb_01, mb_t, mb_f, v4L, gl 0 (by omega), gl 1 (by omega), gl 2 (by omega), gl 3 (by omega), c_number, nE, Option.toList_some, List.cons_append, List.nil_append]
          cases e2 : n_number kk (r.1.getD 0 0) (r.1.getD 1 0) (r.1.getD 2 0) (r.1.getD 3 0) with
          | none =>
            rw [e2] at k
            simp only [eI_none, true_implies, not_true_eq_false, not_false_eq_true, false_implies, and_true, true_and]
            exact k I' J' (rd_tr f01 (rd_tr fw f'))
          | some g =>
            rw [e2] at k
            have g1 : g < 1180 := isF_lt (nn_kd q7 (lt7 0) (lt7 1) (lt7 2) (lt7 3) e2).2
            have gm : (nI g = -1) = False := eq_false (fun q => by
              have := congrArg Int32.toInt q
              rw [nI_toInt (by omega)] at this
              have e : (-1 : Int32).toInt = -1 := by decide
              omega)
            simp only [eI_some, gm, true_implies, not_true_eq_false, not_false_eq_true, false_implies, and_true, true_and]
            refine w_restart (fun I2 r2 f2 => ?_)
            have f2' : rd_fr I' J' I2 J' := ⟨fun c _ _ c1 _ => f2 c c1, fun j _ => by rw [f2 _ (by decide)], fun _ _ _ _ => rfl⟩
            simp only [bk_57.2.2.2.2.2.1, bk_57.2.2.2.2.2.2, mmE, mmE0, mmH, mT, mR, mRf, mAl, mAs, mAz, mAn, Int.reduceToNat, Int32.reduceOfInt, Int64.reduceOfInt, Int.reduceAdd, swE, Nat.reduceDiv, Nat.reduceMod, Nat.reduceAdd, Nat.reduceMul, Nat.reduceEqDiff, Nat.reduceLeDiff, Nat.zero_le, List.length_nil, List.length_cons, Nat.zero_add, true_or, or_true, false_or, or_false, true_and, and_true, and_self, mb_01, mb_t, mb_f, List.nil_append, Option.toList_none]
            refine k I2 J' (rd_tr f01 (rd_tr fw (rd_tr f' f2'))) (enC_fr h' f2') r2 ?_
            rw [f2 _ (by decide)]
            exact at'
    · simp only [q7, if_false] at k
      simp only [q7, true_implies, not_true_eq_false, not_false_eq_true, false_implies, and_true, true_and]
      exact k I1 J1 f01
end RR
