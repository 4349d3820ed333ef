/-! what is so of a state stays so -/
def ivt (s : st_T) : Prop := inv s ∧ (sR s 0).2.2.2 = []
section IV
variable {s : st_T}
/-- the state is no longer graded -/
theorem iv_0 {s' : st_T} (h : va s') (h0 : (sR s' 0).2.2.2 = []) (hg : sGd s' = false) : ivt s' := ⟨⟨h, fun q => by rw [hg] at q; cases q⟩, h0⟩
theorem iv_points {x : Int32} (h : ivt s) : ivt (o_points s x).2 := by
  unfold o_points
  cases e : inI 2 7 x with
  | false => rw [if_neg (by decide)]; exact h
  | true =>
    rw [if_pos rfl]
    by_cases q : 0 < sNr s ∨ sHg s = true ∨ 0 < sNf s
    · rw [if_pos q]; exact h
    · rw [if_neg q]
      obtain ⟨⟨v1, v2, v3, v4⟩, vF, vW, vR, vG⟩ := h.1.1
      have hb := inI_t e
      refine iv_0 ⟨⟨?_, v2, v3, v4⟩, vF, vW, fun r r1 r2 => ?_, fun w => ?_⟩ h.2 rfl
      · show x.toInt.toNat ≤ 7
        omega
      · have : r ≤ sNr s := r2
        omega
      · exact absurd (Or.inr (Or.inl w)) q
theorem iv_figure (h : ivt s) : ivt (o_figure s).2 := by
  unfold o_figure
  obtain ⟨⟨v1, v2, v3, v4⟩, vF, vW, vR, vG⟩ := h.1.1
  by_cases q : sNp s = 0
  · rw [if_pos q]; exact h
  rw [if_neg q]
  by_cases q6 : sNf s = 6
  · rw [if_pos q6]; exact h
  rw [if_neg q6]
  refine iv_0 ⟨⟨v1, ?_, v3, v4⟩, vF, vW, vR, vG⟩ h.2 rfl
  show sNf s + 1 ≤ 6
  omega
theorem iv_place {f p x y : Int32} (h : ivt s) : ivt (o_place s f p x y).2 := by
  unfold o_place
  obtain ⟨⟨v1, v2, v3, v4⟩, vF, vW, vR, vG⟩ := h.1.1
  cases e : inN (sNf s) f && inN (sNp s) p with
  | false => rw [if_neg (by decide)]; exact h
  | true =>
    rw [if_pos rfl]
    cases e2 : inI (-1000) 1000 x && inI (-1000) 1000 y with
    | false => rw [if_neg (by decide)]; exact h
    | true =>
      rw [if_pos rfl]
      rw [Bool.and_eq_true] at e e2
      obtain ⟨f, hf, rfl⟩ := inN_t e.1
      obtain ⟨p, hp, rfl⟩ := inN_t e.2
      rw [nI_clamp (show f < 2 ^ 31 by omega), nI_clamp (show p < 2 ^ 31 by omega)]
      refine iv_0 ⟨⟨v1, v2, v3, v4⟩, fun i hi => ?_, vW, vR, vG⟩ h.2 rfl
      show fgB (gup (sF s) f (fg_put (sF s f) p x y) i) ∧ (gup (sF s) f (fg_put (sF s f) p x y) i).2.2 < 128
      rw [gup_at]
      by_cases q : i = f
      · rw [if_pos q]
        obtain ⟨b1, b2⟩ := vF f (by omega)
        refine ⟨fun j hj => ⟨?_, ?_⟩, ?_⟩
        · show bd (if j = p then x else (sF s f).1 j)
          split
          · exact inI_t e2.1
          · exact (b1 j hj).1
        · show bd (if j = p then y else (sF s f).2.1 j)
          split
          · exact inI_t e2.2
          · exact (b1 j hj).2
        · show (sF s f).2.2 ||| 2 ^ p < 128
          exact Nat.or_lt_two_pow (n := 7) b2 (Nat.pow_lt_pow_right (by omega) (by omega))
      · rw [if_neg q]
        exact vF i hi
theorem iv_N {n : Nat} (h : ivt s) : ivt (uN s n) := h
theorem iv_feed {w : Int64} {x : Int32} (h : ivt s) : ivt (o_feed s w x).2 := by
  unfold o_feed
  split
  · split
    · exact h
    · exact h
  · exact h
theorem iv_wipe (h : ivt s) : ivt (o_wipe s).2 := h
theorem iv_language {x : Int32} (h : ivt s) : ivt (o_language s x).2 := by
  unfold o_language
  cases e : inN 2 x with
  | false => rw [if_neg (by decide)]; exact h
  | true =>
    rw [if_pos rfl]
    obtain ⟨l, hl, rfl⟩ := inN_t e
    rw [nI_clamp (show l < 2 ^ 31 by omega)]
    obtain ⟨⟨⟨v1, v2, v3, v4⟩, v⟩, hg⟩ := h.1
    exact ⟨⟨⟨⟨v1, v2, v3, hl⟩, v⟩, hg⟩, h.2⟩
theorem iv_W {W : Nat → Nat → List Nat} (h : ivt s) (hW : rw_W W) : ivt (uW s W) := by
  obtain ⟨⟨v, vF, _, vR, vG⟩, hg⟩ := h.1
  exact ⟨⟨⟨v, vF, hW, vR, vG⟩, hg⟩, h.2⟩
theorem rw_up {W : Nat → Nat → List Nat} {l w : Nat} {c : List Nat} (hl : l < 2) (hw : w < 11) (h : rw_W W) (hc : isW c) (hn : ∀ k, k < 11 → W l k = c → k = w) : rw_W (wup W l w c) := by
  refine ⟨fun a b ha hb => ?_, fun a b b' ha hb hb' e => ?_⟩
  · unfold wup
    split
    · exact hc
    · exact h.1 a b ha hb
  · unfold wup at e
    by_cases q1 : a = l ∧ b = w
    · by_cases q2 : a = l ∧ b' = w
      · omega
      · rw [if_pos q1, if_neg q2, q1.1] at e
        have := hn b' hb' e.symm
        omega
    · by_cases q2 : a = l ∧ b' = w
      · rw [if_neg q1, if_pos q2, q2.1] at e
        have := hn b hb e
        omega
      · rw [if_neg q1, if_neg q2] at e
        exact h.2 a b b' ha hb hb' e
theorem iv_word {l w : Int32} (h : ivt s) : ivt (o_word s l w).2 := by
  unfold o_word
  have hW := h.1.1.2.2.1
  cases el : inN 2 l with
  | false => rw [if_neg (by decide)]; exact h
  | true =>
    rw [if_pos rfl]
    cases ew : inN 11 w with
    | false => rw [if_neg (by decide)]; exact h
    | true =>
      rw [if_pos rfl]
      obtain ⟨l, hl, rfl⟩ := inN_t el
      obtain ⟨w, hw, rfl⟩ := inN_t ew
      rw [nI_clamp (show l < 2 ^ 31 by omega), nI_clamp (show w < 2 ^ 31 by omega)]
      by_cases q1 : tk_s (tk_c (sT s) (sN s) 0) = 1
      · rw [if_pos q1]
        by_cases q2 : tk_s (tk_c (sT s) (sN s) (tk_e (sT s) (sN s) 0)) = 0
        · rw [if_pos q2]
          have hc := tk_s1.mp q1
          cases e : wh (sW s l) (tk_c (sT s) (sN s) 0) with
          | none =>
            exact iv_W (s := uN s 0) h (rw_up hl hw hW hc (fun k hk q => absurd q (wh_none e k hk)))
          | some k =>
            dsimp only
            by_cases q3 : k = w
            · rw [if_pos q3]
              obtain ⟨k1, k2⟩ := wh_lt e
              refine iv_W (s := uN s 0) h (rw_up hl hw hW hc (fun k' hk' q => ?_))
              rw [← q3]
              exact hW.2 l k' k hl hk' k1 (q.trans k2.symm)
            · rw [if_neg q3]; exact h
        · rw [if_neg q2]; exact h
      · rw [if_neg q1]; exact h
theorem iv_row (h : ivt s) : ivt (o_row s).2 := by
  unfold o_row
  obtain ⟨⟨v1, v2, v3, v4⟩, vF, vW, vR, vG⟩ := h.1.1
  by_cases q : sNp s = 0
  · rw [if_pos q]; exact h
  rw [if_neg q]
  cases e : rdF (sT s) (sN s) (sNp s) (sW s (sLg s)) with
  | error p => exact h
  | ok q =>
    dsimp only
    cases e2 : rdR (sT s) (sN s) (sW s (sLg s)) q.2.2.2 with
    | error p => exact h
    | ok x =>
      dsimp only
      by_cases q4 : sNr s = 40
      · rw [if_pos q4]; exact h
      · rw [if_neg q4]
        have hP := (rdF_ok v1 e).2.2.2.2.2
        have hR := rdR_ok e2
        refine iv_0 ⟨⟨v1, v2, ?_, v4⟩, vF, vW, fun r r1 r2 => ?_, fun w => ?_⟩ ?_ rfl
        · show sNr s + 1 ≤ 40
          omega
        · have r2 : r ≤ sNr s + 1 := r2
          show vr (sNp s) (gup (sR s) (sNr s + 1) (q.2.2.1, x) r)
          rw [gup_at]
          by_cases qr : r = sNr s + 1
          · rw [if_pos qr]
            exact ⟨hP, hR⟩
          · rw [if_neg qr]
            exact vR r r1 (by omega)
        · show isP (sNp s) (gup (sR s) (sNr s + 1) (q.2.2.1, x) 0).1 ∧ _
          rw [gup_at, if_neg (by omega)]
          exact vG w
        · show (gup (sR s) (sNr s + 1) (q.2.2.1, x) 0).2.2.2 = []
          rw [gup_at, if_neg (by omega)]
          exact h.2
theorem iv_back (h : ivt s) : ivt (o_back s).2 := by
  unfold o_back
  obtain ⟨⟨v1, v2, v3, v4⟩, vF, vW, vR, vG⟩ := h.1.1
  by_cases q : sNr s = 0
  · rw [if_pos q]; exact h
  rw [if_neg q]
  refine iv_0 ⟨⟨v1, v2, ?_, v4⟩, vF, vW, fun r r1 r2 => ?_, vG⟩ h.2 rfl
  · show sNr s - 1 ≤ 40
    omega
  · have : r ≤ sNr s - 1 := r2
    exact vR r r1 (by omega)
/-- grades do not hang on the goal -/
theorem grs_c {nr : Nat} {os : Nat → List Nat} {X X' : (Nat → gr_T) → Nat → Nat → gr_T} (h : ∀ G t r, 1 ≤ r → r ≤ nr → X G t r = X' G t r) : ∀ n, grs nr os X n = grs nr os X' n
  | 0 => rfl
  | n + 1 => by
    cases e : gnx nr os (grs nr os X n) with
    | none =>
      rw [grs_none e, grs_none (by rw [← grs_c h n]; exact e)]
      exact grs_c h n
    | some r =>
      rw [grs_some e, grs_some (r := r) (by rw [← grs_c h n]; exact e), ← grs_c h n]
      obtain ⟨r1, r2, _⟩ := gnx_some e
      rw [h _ _ r r1 r2]
theorem gX_c {np nf nr : Nat} {F : Nat → fg_T} {R R' : Nat → rw_T} {G : Nat → gr_T} {t r : Nat} (h : ∀ q, 1 ≤ q → R q = R' q) (hr : 1 ≤ r) (ho : ∀ o ∈ (R r).2.2.2, 1 ≤ o) : gX np nf nr F R G t r = gX np nf nr F R' G t r := by
  have e0 := h r hr
  have eg : gf np nr F R = gf np nr F R' := by
    funext i
    unfold gf
    congr 1
    rw [Bool.eq_iff_iff, List.all_eq_true, List.all_eq_true]
    constructor
    · intro w q hq
      have := w q hq
      rw [List.mem_range'_1] at hq
      rw [h q (by omega)] at this
      exact this
    · intro w q hq
      have := w q hq
      rw [List.mem_range'_1] at hq
      rw [← h q (by omega)] at this
      exact this
  have ea : agn np nf nr F R = agn np nf nr F R' := by
    funext f
    unfold agn
    rw [eg]
  have es : S0 nr R G = S0 nr R' G := by
    funext f
    exact propext ⟨fun ⟨q, a, b, c, e⟩ => ⟨q, a, b, c, by rw [← h q a]; exact e⟩, fun ⟨q, a, b, c, e⟩ => ⟨q, a, b, c, by rw [h q a]; exact e⟩⟩
  have er : rgt nr R G (R r).2.2.2 = rgt nr R' G (R r).2.2.2 := by
    unfold rgt
    refine List.map_congr_left (fun o ho' => ?_)
    rw [h o (ho o (List.mem_filter.mp ho').1)]
  have ew : wyF np nf nr F R G r = wyF np nf nr F R' G r := by
    unfold wyF
    rw [er, eg, ea, es, e0]
  unfold gX
  rw [ew, ea, es, e0]
theorem iv_goal (h : ivt s) : ivt (o_goal s).2 := by
  unfold o_goal
  obtain ⟨⟨v1, v2, v3, v4⟩, vF, vW, vR, vG⟩ := h.1.1
  by_cases q : sNp s = 0
  · rw [if_pos q]; exact h
  rw [if_neg q]
  cases e : rdF (sT s) (sN s) (sNp s) (sW s (sLg s)) with
  | error p => exact h
  | ok q =>
    dsimp only
    by_cases q4 : tk_s (tk_c (sT s) (sN s) q.2.2.2) = 0
    · rw [if_pos q4]
      have hP := (rdF_ok v1 e).2.2.2.2.2
      have hu : ∀ r, 1 ≤ r → gup (sR s) 0 (q.2.2.1, 0, -5, []) r = sR s r := fun r hr => by rw [gup_at, if_neg (by omega)]
      have hva : va (uHg (uN (uR s (gup (sR s) 0 (q.2.2.1, 0, -5, []))) 0) true) := by
        refine ⟨⟨v1, v2, v3, v4⟩, vF, vW, fun r r1 r2 => ?_, fun _ => ⟨hP, rfl⟩⟩
        show vr (sNp s) (gup (sR s) 0 (q.2.2.1, 0, -5, []) r)
        rw [hu r r1]
        exact vR r r1 r2
      refine ⟨⟨hva, fun hg => ?_⟩, rfl⟩
      obtain ⟨g1, g2, g3⟩ := h.1.2 hg
      have eo : osS (uHg (uN (uR s (gup (sR s) 0 (q.2.2.1, 0, -5, []))) 0) true) = osS s := by
        funext r
        show (gup (sR s) 0 (q.2.2.1, 0, -5, []) r).2.2.2 = (sR s r).2.2.2
        rw [gup_at]
        by_cases qr : r = 0
        · rw [if_pos qr, qr, h.2]
        · rw [if_neg qr]
      have eG : GF (uHg (uN (uR s (gup (sR s) 0 (q.2.2.1, 0, -5, []))) 0) true) = GF s := by
        show grs (sNr s) (osS (uHg (uN (uR s (gup (sR s) 0 (q.2.2.1, 0, -5, []))) 0) true)) (gX (sNp s) (sNf s) (sNr s) (sF s) (gup (sR s) 0 (q.2.2.1, 0, -5, []))) (sNr s) = grs (sNr s) (osS s) (gX (sNp s) (sNf s) (sNr s) (sF s) (sR s)) (sNr s)
        rw [eo]
        refine (grs_c (fun G t r r1 r2 => ?_) _).symm
        exact gX_c (fun q hq => (hu q hq).symm) r1 (fun o ho => ((vR r r1 r2).2.2.2.2 o ho).1)
      have en : ∀ G, nxc (uHg (uN (uR s (gup (sR s) 0 (q.2.2.1, 0, -5, []))) 0) true) G = nxc s G := by
        intro G
        funext r
        show ((osS (uHg (uN (uR s (gup (sR s) 0 (q.2.2.1, 0, -5, []))) 0) true) r).find? fun o => decide (o ≤ sNr s) && gw G o).getD r = ((osS s r).find? fun o => decide (o ≤ sNr s) && gw G o).getD r
        rw [eo]
      have ec : ∀ G, ciS (uHg (uN (uR s (gup (sR s) 0 (q.2.2.1, 0, -5, []))) 0) true) G = ciS s G := by
        intro G
        unfold ciS
        rw [en]
        rfl
      refine ⟨g1, ?_, ?_⟩
      · rw [eG]; exact g2
      · rw [eG, ec]; exact g3
    · rw [if_neg q4]; exact h
theorem GF_ok (hv : va s) : ∀ n r, n ≤ 40 → vg (gsS s n r)
  | 0, r, _ => ⟨by show 0 ≤ 40; omega, by show 0 ≤ 2; omega, by show 0 ≤ 5; omega, by show 0 ≤ 5; omega, fun _ => rfl⟩
  | n + 1, r, hn => by
    have ih := GF_ok hv n r (by omega)
    cases e : gnx (sNr s) (osS s) (gsS s n) with
    | none =>
      have : gsS s (n + 1) = gsS s n := grs_none e
      rw [this]
      exact ih
    | some q =>
      have : gsS s (n + 1) = gup (gsS s n) q (gXS s (gsS s n) (n + 1) q) := grs_some e
      rw [this, gup_at]
      by_cases qr : r = q
      · rw [if_pos qr]
        have lv5 : wyS s (gsS s n) q = 5 → rt_lvl (sNp s) (S0 (sNr s) (sR s) (gsS s n)) (sR s q).1 ≤ 5 := by
          intro w
          refine (rt_lvl_le (Nat.le_refl 5)).mpr (rt_lv_mono (k := 2) (by omega) ?_)
          refine Classical.byContradiction (fun hno => ?_)
          rw [wyS_q] at w
          by_cases q1 : qwS s (gsS s n) q ≠ 0
          · rw [if_pos q1] at w
            have : qwS s (gsS s n) q ≤ 3 := by
              unfold qwS
              by_cases a1 : (sR s q).2.1 = 1
              · rw [if_pos a1]; omega
              rw [if_neg a1]
              by_cases a2 : S0 (sNr s) (sR s) (gsS s n) (sR s q).1
              · rw [cif_pos a2]; omega
              rw [cif_neg a2]
              split <;> omega
            omega
          · rw [if_neg q1, cif_neg hno] at w
            split at w <;> omega
        refine ⟨hn, (gX_b (s := s) (G := gsS s n) (r := q) (t := n + 1) hn (by omega)).2.1, wyS_le, ?_, fun w => absurd w (Nat.succ_ne_zero n)⟩
        show (if wyS s (gsS s n) q = 5 then rt_lvl (sNp s) (S0 (sNr s) (sR s) (gsS s n)) (sR s q).1 else 0) ≤ 5
        by_cases w : wyS s (gsS s n) q = 5
        · rw [if_pos w]; exact lv5 w
        · rw [if_neg w]; omega
      · rw [if_neg qr]
        exact ih
theorem ciS_ok (hv : va s) : (ciS s (GF s)).length ≤ 40 ∧ ∀ c ∈ ciS s (GF s), c ≤ 40 := by
  have v3 := hv.1.2.2.1
  have hn : gnx (sNr s) (osS s) (GF s) = none := grs_end (fun _ _ _ => rfl)
  cases e : st0 s (GF s) with
  | none =>
    have : ciS s (GF s) = [] := by unfold ciS; rw [e]
    rw [this]
    exact ⟨Nat.zero_le _, fun c hc => by cases hc⟩
  | some r =>
    have hp := ph_ok hv hn e
    obtain ⟨U, c, hU, hc⟩ := cy_ex (x := ph (nxc s (GF s)) r) (nr := sNr s) (fun i => ⟨(hp i).1, (hp i).2.1⟩)
    obtain ⟨m1, m2⟩ := cyM_is hc (by omega)
    have ec : ciS s (GF s) = (List.range' c (U - c)).map (ph (nxc s (GF s)) r) := by unfold ciS; rw [e]; dsimp only; rw [m1, m2]
    rw [ec]
    refine ⟨by rw [List.length_map, List.length_range']; omega, fun q hq => ?_⟩
    obtain ⟨i, _, rfl⟩ := List.mem_map.mp hq
    have := hp i
    omega
theorem iv_grade (h : ivt s) : ivt (o_grade s).2 := by
  unfold o_grade
  cases eg : sGd s with
  | true => rw [if_pos rfl]; exact h
  | false =>
    rw [if_neg (by decide)]
    have c := ciS_ok h.1.1
    refine ⟨⟨h.1.1, fun _ => ⟨⟨fun r _ _ => GF_ok h.1.1 (sNr s) r h.1.1.1.2.2.1, c.1, c.2⟩, rfl, rfl⟩⟩, h.2⟩
end IV
