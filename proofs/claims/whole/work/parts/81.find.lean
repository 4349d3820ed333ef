/-! the search of the class: the first letters -/
def stL (m f : Nat) (kn : Nat → Bool) (l : List Nat) : Prop := ∀ q, q < l.length → psB m f kn (l.take (q + 1)) q = true
theorem rt_f_c {s s' : Nat → Nat} {t : rt_T} (h : ∀ j, j ≤ pw t → s j = s' j) : rt_f s t = rt_f s' t := by
  have a := @pc_le t
  have h1 : t.2.1 ≤ pw t := a (i := 1) (by omega) (by omega)
  have h2 : t.2.2.1 ≤ pw t := a (i := 2) (by omega) (by omega)
  have h3 : t.2.2.2.1 ≤ pw t := a (i := 3) (by omega) (by omega)
  have h4 : t.2.2.2.2 ≤ pw t := a (i := 4) (by omega) (by omega)
  unfold rt_f
  rw [h _ h1, h _ h2, h _ h3, h _ h4]
theorem ls_take {l : List Nat} {n j : Nat} (h : j < n) : ls_f (l.take n) j = ls_f l j := by
  unfold ls_f
  rw [List.getD_eq_getElem?_getD, List.getD_eq_getElem?_getD, List.getElem?_take_of_lt h]
theorem ls_app {l t : List Nat} {j : Nat} (h : j < l.length) : ls_f (l ++ t) j = ls_f l j := by
  unfold ls_f
  rw [List.getD_eq_getElem?_getD, List.getD_eq_getElem?_getD, List.getElem?_append_left h]
theorem ls_last {l : List Nat} {v : Nat} : ls_f (l ++ [v]) l.length = v := by
  unfold ls_f
  rw [List.getD_eq_getElem?_getD, List.getElem?_append_right (Nat.le_refl _), Nat.sub_self]
  rfl
theorem ls_7 {l : List Nat} {np : Nat} (hnp : np ≤ 7) (h : ∀ x ∈ l, x < np) (j : Nat) : ls_f l j < 7 := by
  unfold ls_f
  rw [List.getD_eq_getElem?_getD]
  cases e : l[j]? with
  | none => show 0 < 7; omega
  | some v =>
    have := h v (List.mem_of_getElem? e)
    show v < 7
    omega
theorem prt_mem {m p : Nat} (hm : m < 17) (h1 : fp m ≤ p) (h2 : p < fp (m + 1) - 1) : prt p ∈ (rul m).1 := by
  rw [← (tb_rul hm).1]
  exact List.mem_map.mpr ⟨p, List.mem_range'_1.mpr (by omega), rfl⟩
/-- good letters stand at every place -/
theorem good_st {m f : Nat} {kn : Nat → Bool} {l : List Nat} (hm : m < 17) (h : gG m f kn l = true) (place : Nat) : psB m f kn (l.take (place + 1)) place = true := by
  unfold gG at h
  rw [Bool.and_eq_true] at h
  obtain ⟨h1, h2⟩ := h
  obtain ⟨_, t2, t3, t4, _⟩ := tb_rul hm
  unfold psB
  rw [List.all_eq_true]
  intro p hp
  rw [List.mem_range'_1] at hp
  unfold psT
  by_cases q : pw (prt p) = place
  · rw [show (pw (prt p) == place) = true from beq_iff_eq.mpr q, Bool.not_true, Bool.false_or]
    have e : rt_f (ls_f (l.take (place + 1))) (prt p) = rt_f (ls_f l) (prt p) := rt_f_c (fun j hj => ls_take (by omega))
    rw [e]
    by_cases q2 : p = fp (m + 1) - 1
    · rw [if_pos q2, q2, t2]
      exact h2
    · rw [if_neg q2]
      exact List.all_eq_true.mp h1 _ (prt_mem hm hp.1 (by omega))
  · rw [show (pw (prt p) == place) = false from beq_eq_false_iff_ne.mpr q]
    rfl
/-- letters that stand at every place are good -/
theorem st_good {m f : Nat} {kn : Nat → Bool} {l : List Nat} (hm : m < 17) (hl : l.length = ltr m) (h : stL m f kn l) : gG m f kn l = true := by
  obtain ⟨t1, t2, t3, t4, t5, _⟩ := tb_rul hm
  have key : ∀ p, fp m ≤ p → p < fp (m + 1) → pw (prt p) < l.length → (if p = fp (m + 1) - 1 then rt_f (ls_f l) (prt p) == some f else gkn kn (rt_f (ls_f l) (prt p))) = true := by
    intro p h1 h2 h3
    have := List.all_eq_true.mp (h _ h3) p (List.mem_range'_1.mpr (by omega))
    unfold psT at this
    rw [show (pw (prt p) == pw (prt p)) = true from beq_self_eq_true _, Bool.not_true, Bool.false_or] at this
    have e : rt_f (ls_f (l.take (pw (prt p) + 1))) (prt p) = rt_f (ls_f l) (prt p) := rt_f_c (fun j hj => ls_take (by omega))
    rw [e] at this
    exact this
  have hL : ltr m = pw (rul m).2 + 1 := rfl
  unfold gG
  rw [Bool.and_eq_true]
  refine ⟨List.all_eq_true.mpr (fun t ht => ?_), ?_⟩
  · have ht' := ht
    rw [← t1] at ht'
    obtain ⟨p, hp, rfl⟩ := List.mem_map.mp ht'
    rw [List.mem_range'_1] at hp
    have := t5 _ ht
    have := key p hp.1 (by omega) (by omega)
    rw [if_neg (by omega)] at this
    exact this
  · have := key (fp (m + 1) - 1) (by omega) (by omega) (by rw [t2]; omega)
    rw [if_pos rfl, t2] at this
    exact this
theorem stL_app {m f v : Nat} {kn : Nat → Bool} {l : List Nat} (h : stL m f kn l) (hv : psB m f kn (l ++ [v]) l.length = true) : stL m f kn (l ++ [v]) := by
  intro q hq
  rw [List.length_append] at hq
  have hq : q < l.length + 1 := hq
  by_cases e : q = l.length
  · rw [e, List.take_of_length_le (by rw [List.length_append]; exact Nat.le_refl _)]
    exact hv
  · rw [List.take_append_of_le_length (by omega)]
    exact h q (by omega)
def dA : Nat → Nat
  | 0 => 1
  | w + 1 => 1 + (7 * dA w + 1)
def frL (I I' : mm_I) : Prop := ∀ k, k ≠ 123 → I' k = I k
theorem frL_s {I I' : mm_I} (h : frL I I') : sfr I I' := ⟨fun k _ b _ => h k b, fun j _ _ => by rw [h _ (by decide)]⟩
def dfS (z : mm_S) (d : Nat) (J : mm_J) (Q : Option Value → mm_I → mm_J → Prop) (np f bl : Nat) (S : al_S) (ls : List Nat) (m w : Nat) : Prop := ∀ (c : Nat) (l : List Nat) (v t : Nat) (I : mm_I), l.length + (w + 1) = ltr m → v + c = np → (∀ x ∈ l, x < np) → stL m f (skn bl S ls) l → t + (c * dA w + 1) ≤ 1000000 → srep I np f bl S ls → srul I m → (∀ j, j < 6 → I 125 j = alw m f j) → (∀ j, j < l.length → I 123 j = nI (ls_f l j)) → I 123 l.length = nI v - 1 → (match (List.range' v c).findSome? (fun u => ff np (gG m f (skn bl S ls)) w (l ++ [u])) with
    | some lf => ∀ I', frL I I' → (∀ j, j < ltr m → I' 123 j = nI (ls_f lf j)) → Q (some (.int 1)) I' J
    | none => ∀ I' t', frL I I' → (∀ j, j < l.length → I' 123 j = nI (ls_f l j)) → t' ≤ t + (c * dA w + 1) → mm_at z (mm_call z (d + 4)) (mm_code 71) Q 31 [some (.ref 122), some (.int (nI m)), some (.int (nI (ltr m - 1))), some (.int (nI l.length - 1)), some (.int (nI t'))] [] I' J) → mm_at z (mm_call z (d + 4)) (mm_code 71) Q 31 [some (.ref 122), some (.int (nI m)), some (.int (nI (ltr m - 1))), some (.int (nI l.length)), some (.int (nI t))] [] I J
theorem dfs_step {z : mm_S} {d : Nat} {J : mm_J} {Q : Option Value → mm_I → mm_J → Prop} {np f bl : Nat} {S : al_S} {ls : List Nat} {m w : Nat} (hm : m < 17) (ih : ∀ w', w = w' + 1 → dfS z d J Q np f bl S ls m w') : dfS z d J Q np f bl S ls m w := by
  intro c
  induction c with
  | zero =>
    intro l v t I hl hv hx hst ht h hr ha hL hp K
    obtain ⟨_, _, _, _, _, _, l6⟩ := tb_rul hm
    have hnp := h.2.2.1.2.2.1
    rw [hk_71_31]
    have c1 : (1000000 ≤ nI t) = False := by rw [show (1000000 : Int32) = nI 1000000 from rfl, le_nI (by omega) (by omega)]; exact eq_false (by omega)
    have c2 : (6 ≤ nI l.length) = False := by rw [show (6 : Int32) = nI 6 from rfl, le_nI (by omega) (by omega)]; exact eq_false (by omega)
    have c3 : nI v - 1 + 1 = nI v := by rw [Int32.sub_add_cancel]
    have c4 : (nI v < nI np) = False := by rw [lt_nI (by omega) (by omega)]; exact eq_false (by omega)
    have w1 : mm_wI I 123 l.length (nI v) 123 l.length = nI v := by rw [mWI, if_pos rfl, if_pos rfl]
    have w2 : ∀ j, mm_wI I 123 l.length (nI v) 122 j = I 122 j := fun j => by rw [mWI, if_neg (by decide)]
    simp only [bk_71.2.2.2.2.1, mmE, mmE0, mmH, mT, mR, mRf, mAl, mAs, mAz, mAn, Int.reduceToNat, Int32.reduceOfInt, Int64.reduceOfInt, Int.reduceAdd, swE, Nat.reduceDiv, Nat.reduceMod, Nat.reduceAdd, Nat.reduceMul, Nat.reduceEqDiff, Nat.reduceLeDiff, Nat.zero_le, List.length_nil, List.length_cons, Nat.zero_add, true_or, or_true, false_or, or_false, true_and, and_true, and_self, mb_01, mb_t, mb_f, c1, c2, nneg (show l.length < 2 ^ 31 by omega), ix6 (show l.length < 6 by omega), hp, c3, w1, w2, h.1.1, c4, pdm, true_implies, not_true_eq_false, not_false_eq_true, false_implies, and_true, true_and]
    rw [← nI_succ]
    refine K _ (t + 1) (fun k hk => ?_) (fun j hj => ?_) (by omega)
    · funext q
      rw [mWI, if_neg hk]
    · rw [mWI, if_pos rfl, if_neg (by omega)]
      exact hL j hj
  | succ c ihc =>
    intro l v t I hl hv hx hst ht h hr ha hL hp K
    obtain ⟨_, _, _, _, _, _, l6⟩ := tb_rul hm
    have hnp := h.2.2.1.2.2.1
    have hF := isP_F hnp h.2.2.2.2
    have eA : (c + 1) * dA w = c * dA w + dA w := Nat.succ_mul c (dA w)
    have A1 : 1 ≤ dA w := by
      cases w with
      | zero => exact Nat.le_refl 1
      | succ w => show 1 ≤ 1 + (7 * dA w + 1); omega
    rw [eA] at ht
    rw [hk_71_31]
    have c1 : (1000000 ≤ nI t) = False := by rw [show (1000000 : Int32) = nI 1000000 from rfl, le_nI (by omega) (by omega)]; exact eq_false (by omega)
    have c2 : (6 ≤ nI l.length) = False := by rw [show (6 : Int32) = nI 6 from rfl, le_nI (by omega) (by omega)]; exact eq_false (by omega)
    have c3 : nI v - 1 + 1 = nI v := by rw [Int32.sub_add_cancel]
    have c4 : (nI v < nI np) = True := by rw [lt_nI (by omega) (by omega)]; exact eq_true (by omega)
    have w1 : mm_wI I 123 l.length (nI v) 123 l.length = nI v := by rw [mWI, if_pos rfl, if_pos rfl]
    have w2 : ∀ j, mm_wI I 123 l.length (nI v) 122 j = I 122 j := fun j => by rw [mWI, if_neg (by decide)]
    have f1 : frL I (mm_wI I 123 l.length (nI v)) := fun k hk => by funext q; rw [mWI, if_neg hk]
    have wa : mm_wI I 123 l.length (nI v) 125 l.length = alw m f l.length := by rw [f1 _ (by decide)]; exact ha _ (by omega)
    have wl : ∀ j, j < l.length → mm_wI I 123 l.length (nI v) 123 j = nI (ls_f l j) := fun j hj => by rw [mWI, if_pos rfl, if_neg (by omega)]; exact hL j hj
    simp only [bk_71.2.2.1, mmE, mmE0, mmH, mT, mR, mRf, mAl, mAs, mAz, mAn, Int.reduceToNat, Int32.reduceOfInt, Int64.reduceOfInt, Int.reduceAdd, swE, Nat.reduceDiv, Nat.reduceMod, Nat.reduceAdd, Nat.reduceMul, Nat.reduceEqDiff, Nat.reduceLeDiff, Nat.zero_le, List.length_nil, List.length_cons, Nat.zero_add, true_or, or_true, false_or, or_false, true_and, and_true, and_self, mb_01, mb_t, mb_f, Option.toList_some, Option.toList_none, List.cons_append, List.nil_append, c1, c2, nneg (show l.length < 2 ^ 31 by omega), ix6 (show l.length < 6 by omega), hp, c3, w1, w2, h.1.1, c4, wa, true_implies, not_true_eq_false, not_false_eq_true, false_implies, and_true, true_and]
    have h1 := srep_fr h (frL_s f1)
    have hr1 : srul (mm_wI I 123 l.length (nI v)) m := ⟨by rw [w2]; exact hr.1, by rw [w2]; exact hr.2⟩
    have ha1 : ∀ j, j < 6 → mm_wI I 123 l.length (nI v) 125 j = alw m f j := fun j hj => by rw [f1 _ (by decide)]; exact ha j hj
    generalize mm_wI I 123 l.length (nI v) = I1 at w1 w2 f1 wa wl h1 hr1 ha1 ⊢
    rw [List.range'_succ, List.findSome?_cons] at K
    have hx1 : ∀ x ∈ l ++ [v], x < np := by
      intro x q
      rcases List.mem_append.mp q with q | q
      · exact hx x q
      · rw [List.mem_singleton.mp q]; omega
    have hlen : (l ++ [v]).length = l.length + 1 := by rw [List.length_append]; rfl
    -- on with the next value, when this one gives nothing
    have next : ff np (gG m f (skn bl S ls)) w (l ++ [v]) = none → ∀ (I' : mm_I) (t' : Nat), frL I I' → (∀ j, j < l.length → I' 123 j = nI (ls_f l j)) → I' 123 l.length = nI v → t' ≤ t + dA w → mm_at z (mm_call z (d + 4)) (mm_code 71) Q 31 [some (.ref 122), some (.int (nI m)), some (.int (nI (ltr m - 1))), some (.int (nI l.length)), some (.int (nI t'))] [] I' J := by
      intro e I' t' g1 g2 g3 g4
      rw [e] at K
      dsimp only at K
      refine ihc l (v + 1) t' I' hl (by omega) hx hst (by omega) (srep_fr h (frL_s g1)) ⟨by rw [g1 _ (by decide)]; exact hr.1, by rw [g1 _ (by decide)]; exact hr.2⟩ (fun j hj => by rw [g1 _ (by decide)]; exact ha j hj) g2 (by rw [pd1]; exact g3) ?_
      cases e2 : (List.range' (v + 1) c).findSome? (fun u => ff np (gG m f (skn bl S ls)) w (l ++ [u])) with
      | some lf =>
        rw [e2] at K
        exact fun I2 k1 k2 => K I2 (fun k hk => (k1 k hk).trans (g1 k hk)) k2
      | none =>
        rw [e2] at K
        exact fun I2 t2 k1 k2 k3 => K I2 t2 (fun k hk => (k1 k hk).trans (g1 k hk)) k2 (by rw [eA]; omega)
    have pruned : (psB m f (skn bl S ls) (l ++ [v]) l.length = false ∨ bt (alw m f l.length) v = false) → ff np (gG m f (skn bl S ls)) w (l ++ [v]) = none := by
      intro hh
      refine ff_none w _ (fun tl ht hxt => ?_)
      cases e : gG m f (skn bl S ls) (l ++ [v] ++ tl) with
      | false => rfl
      | true =>
        exfalso
        have hx2 : ∀ x ∈ l ++ [v] ++ tl, x < np := by
          intro x q
          rcases List.mem_append.mp q with q | q
          · exact hx1 x q
          · exact hxt x q
        rcases hh with hh | hh
        · have := good_st hm e l.length
          rw [List.take_append_of_le_length (by rw [hlen]; exact Nat.le_refl _), List.take_of_length_le (by rw [hlen]; exact Nat.le_refl _), hh] at this
          cases this
        · have e' := e
          unfold gG at e'
          rw [Bool.and_eq_true] at e'
          have := alw_ok hm hF (ls_7 hnp hx2) (beq_iff_eq.mp e'.2) l.length
          rw [ls_app (by rw [hlen]; omega), ls_last, hh] at this
          cases this
    have skip : ff np (gG m f (skn bl S ls)) w (l ++ [v]) = none → mm_at z (mm_call z (d + 4)) (mm_code 71) Q 127 [some (.ref 122), some (.int (nI m)), some (.int (nI (ltr m - 1))), some (.int (nI l.length)), some (.int (nI t))] [] I1 J := by
      intro e
      simp only [bk_71.2.2.2.2.1, mmE, mmE0, mmH, mT, mR, mRf, mAl, mAs, mAz, mAn, Int.reduceToNat, Int32.reduceOfInt, Int64.reduceOfInt, Int.reduceAdd, swE, Nat.reduceDiv, Nat.reduceMod, Nat.reduceAdd, Nat.reduceMul, Nat.reduceEqDiff, Nat.reduceLeDiff, Nat.zero_le, List.length_nil, List.length_cons, Nat.zero_add, true_or, or_true, false_or, or_false, true_and, and_true, and_self, mb_01, mb_t, mb_f]
      rw [← nI_succ]
      exact next e I1 (t + 1) f1 wl w1 (by omega)
    have be : (alw m f l.length >>> (nI v &&& 31) &&& 1 = 1) = (bt (alw m f l.length) v = true) := by
      unfold bt
      rw [beq_iff_eq]
    simp only [be]
    cases eb : bt (alw m f l.length) v with
    | false =>
      simp only [Bool.false_eq_true, true_implies, not_true_eq_false, not_false_eq_true, false_implies, and_true, true_and]
      exact skip (pruned (Or.inr eb))
    | true =>
      have hL1 : ∀ j, j < l.length + 1 → I1 123 j = nI (ls_f (l ++ [v]) j) := by
        intro j hj
        by_cases q : j = l.length
        · rw [q, ls_last]; exact w1
        · rw [ls_app (by omega)]; exact wl j (by omega)
      have cs := fun (Q : Option Value → mm_I → mm_J → Prop) => c_stand (z := z) (d := d) (J := J) hm (ls_7 hnp hx1) hL1 (show l.length < l.length + 1 by omega) (show l.length < 6 by omega) h1 hr1 Q
      simp only [cs, mb_0, mmE, mmE0, mmH, mT, mR, mRf, mAl, mAs, mAz, mAn, Int.reduceToNat, Int32.reduceOfInt, Int64.reduceOfInt, Int.reduceAdd, swE, Nat.reduceDiv, Nat.reduceMod, Nat.reduceAdd, Nat.reduceMul, Nat.reduceEqDiff, Nat.reduceLeDiff, Nat.zero_le, List.length_nil, List.length_cons, Nat.zero_add, true_or, or_true, false_or, or_false, true_and, and_true, and_self, mb_01, mb_t, mb_f, Option.toList_some, Option.toList_none, List.cons_append, List.nil_append, true_implies, not_true_eq_false, not_false_eq_true, false_implies, and_true, true_and]
      cases ep : psB m f (skn bl S ls) (l ++ [v]) l.length with
      | false =>
        simp only [true_implies, not_true_eq_false, not_false_eq_true, false_implies, and_true, true_and]
        exact skip (pruned (Or.inl ep))
      | true =>
        simp only [Bool.true_eq_false, true_implies, not_true_eq_false, not_false_eq_true, false_implies, and_true, true_and]
        have hst1 := stL_app hst ep
        have ce : (nI l.length = nI (ltr m - 1)) = (l.length = ltr m - 1) := eq_nI (by omega) (by omega)
        cases w with
        | zero =>
          have q : l.length = ltr m - 1 := by omega
          have G1 := st_good hm (by rw [hlen]; omega) hst1
          have e : ff np (gG m f (skn bl S ls)) 0 (l ++ [v]) = some (l ++ [v]) := by
            show (if gG m f (skn bl S ls) (l ++ [v]) = true then some (l ++ [v]) else none) = _
            rw [if_pos G1]
          rw [e] at K
          simp only [ce, eq_true q, z01, true_implies, not_true_eq_false, not_false_eq_true, false_implies, and_true, true_and]
          exact K I1 f1 (fun j hj => hL1 j (by omega))
        | succ w =>
          have q : ¬ l.length = ltr m - 1 := by omega
          have c5 : (6 ≤ nI (l.length + 1)) = False := by rw [show (6 : Int32) = nI 6 from rfl, le_nI (by omega) (by omega)]; exact eq_false (by omega)
          simp only [ce, q, true_implies, not_true_eq_false, not_false_eq_true, false_implies, and_true, true_and, bk_71.2.2.2.1, bk_71.2.2.2.2.1, mmE, mmE0, mmH, mT, mR, mRf, mAl, mAs, mAz, mAn, Int.reduceToNat, Int32.reduceOfInt, Int64.reduceOfInt, Int.reduceAdd, swE, Nat.reduceDiv, Nat.reduceMod, Nat.reduceAdd, Nat.reduceMul, Nat.reduceEqDiff, Nat.reduceLeDiff, Nat.zero_le, List.length_nil, List.length_cons, Nat.zero_add, true_or, or_true, false_or, or_false, true_and, and_true, and_self, mb_01, mb_t, mb_f, ← nI_succ, c5, ix6 (show l.length + 1 < 6 by omega)]
          have f2 : frL I1 (mm_wI I1 123 (l.length + 1) (-1)) := fun k hk => by funext x; rw [mWI, if_neg hk]
          have f02 : frL I (mm_wI I1 123 (l.length + 1) (-1)) := fun k hk => (f2 k hk).trans (f1 k hk)
          have A2 : dA (w + 1) = 1 + (7 * dA w + 1) := rfl
          have A3 : np * dA w ≤ 7 * dA w := Nat.mul_le_mul_right _ hnp
          have := ih w rfl np (l ++ [v]) 0 (t + 1) (mm_wI I1 123 (l.length + 1) (-1)) (by rw [hlen]; omega) (by omega) hx1 hst1 (by omega) (srep_fr h1 (frL_s f2)) ⟨by rw [f2 _ (by decide)]; exact hr1.1, by rw [f2 _ (by decide)]; exact hr1.2⟩ (fun j hj => by rw [f2 _ (by decide)]; exact ha1 j hj) (fun j hj => by rw [hlen] at hj; rw [mWI, if_pos rfl, if_neg (by omega)]; exact hL1 j hj) (by rw [hlen, mWI, if_pos rfl, if_pos rfl]; rfl)
          rw [hlen] at this
          refine this ?_
          have ef : (List.range' 0 np).findSome? (fun u => ff np (gG m f (skn bl S ls)) w (l ++ [v] ++ [u])) = ff np (gG m f (skn bl S ls)) (w + 1) (l ++ [v]) := by
            rw [ff_succ, List.range_eq_range']
          rw [ef]
          cases e : ff np (gG m f (skn bl S ls)) (w + 1) (l ++ [v]) with
          | some lf =>
            rw [e] at K
            exact fun I2 k1 k2 => K I2 (fun k hk => (k1 k hk).trans (f02 k hk)) k2
          | none =>
            intro I2 t2 k1 k2 k3
            rw [pd1]
            refine next e I2 t2 (fun k hk => (k1 k hk).trans (f02 k hk)) (fun j hj => ?_) ?_ (by omega)
            · rw [k2 j (by omega), ls_app hj]
            · rw [k2 l.length (by omega), ls_last]
theorem dfs_all {z : mm_S} {d : Nat} {J : mm_J} {Q : Option Value → mm_I → mm_J → Prop} {np f bl : Nat} {S : al_S} {ls : List Nat} {m : Nat} (hm : m < 17) : ∀ w, dfS z d J Q np f bl S ls m w
  | 0 => dfs_step hm (fun w' e => by omega)
  | w + 1 => dfs_step hm (fun w' e => by
    have : w' = w := by omega
    rw [this]
    exact dfs_all hm w)
