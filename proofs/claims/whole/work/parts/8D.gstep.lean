/-! the class's grading: a step -/
section GU
variable {z : mm_S} {d : Nat} {I : mm_I} {J : mm_J} {s : st_T} {G : Nat → gr_T} {S : al_S} {Q : Option Value → mm_I → mm_J → Prop}
theorem gX_t {s : st_T} {G : Nat → gr_T} {t r : Nat} : (gXS s G t r).1 = t := rfl
/-- the way is settled -/
theorem w_gs_end {r t : Nat} (h1 : 1 ≤ r) (h2 : r ≤ sNr s) (ht : t ≤ 40) (h0 : G r = gr0) (hv : va s) (I0 : mm_I) (hG0 : ∀ q, 1 ≤ q → q ≤ sNr s → q ≠ r → gC I0 (4 + 2 * q) (G q) ∧ (G q).1 ≤ 40 ∧ (G q).2.1 ≤ 2 ∧ (G q).2.2.1 ≤ 5 ∧ (G q).2.2.2.1 ≤ 5) (h : shC I0 s) (hg : gC I0 (4 + 2 * r) (t, 0, wyS s G r, 0, -5)) (hn : gnum I0 s (cnt (sNr s) fun r => (G r).2.1 == 1) (cnt (sNr s) fun r => (G r).2.2.1 == 3)) (hl : rl_rep I0 (sNp s) S) (ho : al_ok (sNp s) (S0 (sNr s) (sR s) G) S) (h5 : wyS s G r = 5 → S.1 (sR s r).1 = rt_lvl (sNp s) (S0 (sNr s) (sR s) G) (sR s r).1) (K : ∀ I', fG I0 I' → gst I' s (gup G r (gXS s G t r)) → mm_at z (mm_call z (d + 6)) (mm_code 9) Q 10 [some (.ref 112), some (.int (nI (t + 1))), some (.ref (4 + 2 * r))] [] I' J) : mm_at z (mm_call z (d + 6)) (mm_code 9) Q 125 [some (.ref 112), some (.int (nI t)), some (.ref (4 + 2 * r))] [] I0 J := by
  have v3 := hv.1.2.2.1
  have vP := (hv.2.2.2.1 r h1 h2).1
  have hw := @wyS_le s G r
  have c1 := @cnt_le (sNr s) (fun r => (G r).2.1 == 1)
  have c2 := @cnt_le (sNr s) (fun r => (G r).2.2.1 == 3)
  have gr0a : (G r).2.1 = 0 := by rw [h0]; rfl
  have gr0b : (G r).2.2.1 = 0 := by rw [h0]; rfl
  have gr0c : (G r).1 = 0 := by rw [h0]; rfl
  simp only [bk_9.2.2.2.1, mmE, mmE0, mmH, mT, mR, mRf, mAl, mAs, mAz, mAn, Int.reduceToNat, Int32.reduceOfInt, Int64.reduceOfInt, Int.reduceAdd, swE, Nat.reduceDiv, Nat.reduceMod, Nat.reduceAdd, Nat.reduceMul, Nat.reduceEqDiff, Nat.reduceLeDiff, Nat.zero_le, List.length_nil, List.length_cons, Nat.zero_add, true_or, or_true, false_or, or_false, true_and, and_true, and_self, mb_01, mb_t, mb_f]
  refine w_settle h1 h2 hv hw ⟨by omega, by omega⟩ h hg hn hl (fun I1 k1 k2 k3 k4 k5 => ?_)
  simp only [mmE, mmE0, mmH, mT, mR, mRf, mAl, mAs, mAz, mAn, Int.reduceToNat, Int32.reduceOfInt, Int64.reduceOfInt, Int.reduceAdd, swE, Nat.reduceDiv, Nat.reduceMod, Nat.reduceAdd, Nat.reduceMul, Nat.reduceEqDiff, Nat.reduceLeDiff, Nat.zero_le, List.length_nil, List.length_cons, Nat.zero_add, true_or, or_true, false_or, or_false, true_and, and_true, and_self, mb_01, mb_t, mb_f, Option.toList_some, Option.toList_none, List.cons_append, List.nil_append]
  rw [← nI_succ]
  have gE : ((t, if wyS s G r = 0 then (if agS s (sR s r).1 = none then 2 else 0) else 1, wyS s G r, if wyS s G r = 5 then S.1 (sR s r).1 else 0, if wyS s G r = 0 then wI (agS s (sR s r).1) else -5) : gr_T) = gXS s G t r := by
    show _ = ((t, if wyS s G r = 0 then (if agS s (sR s r).1 = none then 2 else 0) else 1, wyS s G r, if wyS s G r = 5 then rt_lvl (sNp s) (S0 (sNr s) (sR s) G) (sR s r).1 else 0, if wyS s G r = 0 then wI (agS s (sR s r).1) else -5) : gr_T)
    by_cases q : wyS s G r = 5
    · rw [h5 q]
    · rw [if_neg q, if_neg q]
  rw [gE] at k3
  have gv : (gXS s G t r).2.1 = if wyS s G r = 0 then (if agS s (sR s r).1 = none then 2 else 0) else 1 := rfl
  have gw' : (gXS s G t r).2.2.1 = wyS s G r := rfl
  have gg' : (gXS s G t r).2.2.2.1 = if wyS s G r = 5 then rt_lvl (sNp s) (S0 (sNr s) (sR s) G) (sR s r).1 else 0 := rfl
  have s6 := (hl.2.2.2.1 _ (isF_lt (isP_F hv.1.1 vP))).2
  have v1 : ((gXS s G t r).2.1 = 1) ↔ ¬ wyS s G r = 0 := by
    rw [gv]
    split
    · split <;> omega
    · omega
  have lv5 : wyS s G r = 5 → rt_lvl (sNp s) (S0 (sNr s) (sR s) G) (sR s r).1 ≤ 5 := by
    intro q
    rw [wyS_q] at q
    by_cases q1 : qwS s G r ≠ 0
    · rw [if_pos q1] at q
      have : qwS s G r ≤ 3 := by
        unfold qwS
        by_cases a1 : (sR s r).2.1 = 1
        · rw [if_pos a1]; omega
        rw [if_neg a1]
        by_cases a2 : S0 (sNr s) (sR s) G (sR s r).1
        · rw [cif_pos a2]; omega
        rw [cif_neg a2]
        split <;> omega
      omega
    · rw [if_neg q1] at q
      split at q
      · omega
      · by_cases q5 : rt_lv (sNp s) (S0 (sNr s) (sR s) G) 2 (sR s r).1
        · have := (@rt_lvl_le (sNp s) (S0 (sNr s) (sR s) G) (sR s r).1 2 (by omega)).mpr q5
          omega
        · rw [cif_neg q5] at q; omega
  refine K I1 k1 ⟨shC_G hv h k1, fun q a b => ?_, ⟨?_, ?_, k4.2.2.1, k4.2.2.2.1, k4.2.2.2.2.1, k4.2.2.2.2.2⟩, _, k5, ?_⟩
  · rw [gup_at]
    by_cases e : q = r
    · rw [if_pos e, e]
      refine ⟨k3, ?_, ?_, ?_, ?_⟩
      · rw [gX_t]; exact ht
      · rw [gv]
        split
        · split <;> omega
        · omega
      · rw [gw']; exact hw
      · rw [gg']
        split
        · rename_i q5; exact lv5 q5
        · omega
    · rw [if_neg e]
      obtain ⟨x1, x2⟩ := hG0 q a b e
      refine ⟨?_, x2⟩
      unfold gC
      rw [k2 q a (by omega) e]
      exact x1
  · have := cnt_up (n := sNr s) (r := r) (p := fun r => (G r).2.1 == 1) (p' := fun q => (gup G r (gXS s G t r) q).2.1 == 1) h1 h2 (by show ((G r).2.1 == 1) = false; rw [gr0a]; rfl) (fun x hx => by show ((gup G r (gXS s G t r) x).2.1 == 1) = _; rw [gup_at, if_neg hx])
    rw [this, k4.1]
    congr 2
    show _ = if ((gup G r (gXS s G t r) r).2.1 == 1) = true then 1 else 0
    rw [gup_at, if_pos rfl]
    by_cases q : wyS s G r = 0
    · rw [if_pos q, if_neg (fun w => v1.mp (beq_iff_eq.mp w) q)]
    · rw [if_neg q, if_pos (beq_iff_eq.mpr (v1.mpr q))]
  · have := cnt_up (n := sNr s) (r := r) (p := fun r => (G r).2.2.1 == 3) (p' := fun q => (gup G r (gXS s G t r) q).2.2.1 == 3) h1 h2 (by show ((G r).2.2.1 == 3) = false; rw [gr0b]; rfl) (fun x hx => by show ((gup G r (gXS s G t r) x).2.2.1 == 3) = _; rw [gup_at, if_neg hx])
    rw [this, k4.2.1]
    congr 2
    show _ = if ((gup G r (gXS s G t r) r).2.2.1 == 3) = true then 1 else 0
    rw [gup_at, if_pos rfl, gw']
    by_cases q : wyS s G r = 3
    · rw [if_pos q, if_pos (beq_iff_eq.mpr q)]
    · rw [if_neg q, if_neg (fun w => q (beq_iff_eq.mp w))]
  · rw [S0_up h1 h2 gr0a]
    by_cases q : wyS s G r = 0
    · rw [if_pos q, if_neg (fun w => v1.mp w q)]
      exact ho
    · rw [if_neg q, if_pos (v1.mpr q)]
      exact ok_assume vP ho
end GU
