theorem mm_i1_m {st : List Value} {K K' : Int32 → List Value → Prop} (h : ∀ a0 a1, K a0 a1 → K' a0 a1) (q : mm_i1 st K) : mm_i1 st K' := by
  unfold mm_i1 at q ⊢
  split at q
  all_goals first | exact h _ _ q | exact q.elim
theorem mm_i2_m {st : List Value} {K K' : Int32 → Int32 → List Value → Prop} (h : ∀ a0 a1 a2, K a0 a1 a2 → K' a0 a1 a2) (q : mm_i2 st K) : mm_i2 st K' := by
  unfold mm_i2 at q ⊢
  split at q
  all_goals first | exact h _ _ _ q | exact q.elim
theorem mm_l1_m {st : List Value} {K K' : Int64 → List Value → Prop} (h : ∀ a0 a1, K a0 a1 → K' a0 a1) (q : mm_l1 st K) : mm_l1 st K' := by
  unfold mm_l1 at q ⊢
  split at q
  all_goals first | exact h _ _ q | exact q.elim
theorem mm_l2_m {st : List Value} {K K' : Int64 → Int64 → List Value → Prop} (h : ∀ a0 a1 a2, K a0 a1 a2 → K' a0 a1 a2) (q : mm_l2 st K) : mm_l2 st K' := by
  unfold mm_l2 at q ⊢
  split at q
  all_goals first | exact h _ _ _ q | exact q.elim
theorem mm_li_m {st : List Value} {K K' : Int64 → Int32 → List Value → Prop} (h : ∀ a0 a1 a2, K a0 a1 a2 → K' a0 a1 a2) (q : mm_li st K) : mm_li st K' := by
  unfold mm_li at q ⊢
  split at q
  all_goals first | exact h _ _ _ q | exact q.elim
theorem mm_r1_m {st : List Value} {K K' : Nat → List Value → Prop} (h : ∀ a0 a1, K a0 a1 → K' a0 a1) (q : mm_r1 st K) : mm_r1 st K' := by
  unfold mm_r1 at q ⊢
  split at q
  all_goals first | exact h _ _ q | exact q.elim
theorem mm_ri_m {st : List Value} {K K' : Nat → Int32 → List Value → Prop} (h : ∀ a0 a1 a2, K a0 a1 a2 → K' a0 a1 a2) (q : mm_ri st K) : mm_ri st K' := by
  unfold mm_ri at q ⊢
  split at q
  all_goals first | exact h _ _ _ q | exact q.elim
theorem mm_rl_m {st : List Value} {K K' : Nat → Int64 → List Value → Prop} (h : ∀ a0 a1 a2, K a0 a1 a2 → K' a0 a1 a2) (q : mm_rl st K) : mm_rl st K' := by
  unfold mm_rl at q ⊢
  split at q
  all_goals first | exact h _ _ _ q | exact q.elim
theorem mm_rii_m {st : List Value} {K K' : Nat → Int32 → Int32 → List Value → Prop} (h : ∀ a0 a1 a2 a3, K a0 a1 a2 a3 → K' a0 a1 a2 a3) (q : mm_rii st K) : mm_rii st K' := by
  unfold mm_rii at q ⊢
  split at q
  all_goals first | exact h _ _ _ _ q | exact q.elim
theorem mm_ril_m {st : List Value} {K K' : Nat → Int32 → Int64 → List Value → Prop} (h : ∀ a0 a1 a2 a3, K a0 a1 a2 a3 → K' a0 a1 a2 a3) (q : mm_ril st K) : mm_ril st K' := by
  unfold mm_ril at q ⊢
  split at q
  all_goals first | exact h _ _ _ _ q | exact q.elim
theorem mm_dup_m {st : List Value} {K K' : Value → List Value → Prop} (h : ∀ a0 a1, K a0 a1 → K' a0 a1) (q : mm_dup st K) : mm_dup st K' := by
  unfold mm_dup at q ⊢
  split at q
  all_goals first | exact h _ _ q | exact q.elim
theorem mm_cy_m {st : List Value} {K K' : Nat → Int32 → Nat → Int32 → Int32 → List Value → Prop} (h : ∀ a0 a1 a2 a3 a4 a5, K a0 a1 a2 a3 a4 a5 → K' a0 a1 a2 a3 a4 a5) (q : mm_cy st K) : mm_cy st K' := by
  unfold mm_cy at q ⊢
  split at q
  all_goals first | exact h _ _ _ _ _ _ q | exact q.elim
theorem mm_xi_m {x : Option Value} {K K' : Int32 → Prop} (h : ∀ a, K a → K' a) (q : mm_xi x K) : mm_xi x K' := by
  unfold mm_xi at q ⊢
  split at q
  all_goals first | exact h _ q | exact q.elim
theorem mm_xl_m {x : Option Value} {K K' : Int64 → Prop} (h : ∀ a, K a → K' a) (q : mm_xl x K) : mm_xl x K' := by
  unfold mm_xl at q ⊢
  split at q
  all_goals first | exact h _ q | exact q.elim
theorem mm_xr_m {x : Option Value} {K K' : Value → Prop} (h : ∀ a, K a → K' a) (q : mm_xr x K) : mm_xr x K' := by
  unfold mm_xr at q ⊢
  split at q
  all_goals first | exact h _ q | exact q.elim
theorem mm_nn_m {st : List Value} {A A' B B' : List Value → Prop} (h : ∀ r, A r → A' r) (h' : ∀ r, B r → B' r) (q : mm_nn st A B) : mm_nn st A' B' := by
  unfold mm_nn at q ⊢
  split at q
  all_goals first | exact h _ q | exact h' _ q | exact q.elim
theorem mm_pn_m {K K' : List Value → List Value → Prop} (h : ∀ a b, K a b → K' a b) : ∀ (n : Nat) (st as : List Value), mm_pn n st as K → mm_pn n st as K'
  | 0, _, _, q => h _ _ q
  | _ + 1, [], _, q => q.elim
  | n + 1, v :: st, as, q => mm_pn_m h n st (v :: as) q
theorem mm_br_m {c : Jvm.ClassFile.Cond} {x y : Int32} {A A' B B' : Prop} (h : A → A') (h' : B → B') (q : mm_br c x y A B) : mm_br c x y A' B' := by
  cases c <;> exact ⟨fun z => h (q.1 z), fun z => h' (q.2 z)⟩
theorem mm_sw_m {x : Int32} {K K' : Nat → Prop} {d : Nat} (h : ∀ t, K t → K' t) : ∀ (lo : Int) (ts : List Int), mm_sw x K d lo ts → mm_sw x K' d lo ts
  | _, [], q => h _ q
  | lo, t :: ts, q => ⟨fun z => h _ (q.1 z), fun z => mm_sw_m h (lo + 1) ts (q.2 z)⟩
theorem mm_al_m {z : mm_S} {t : Nat × Nat} {k : Nat} {i : Int32} {I : mm_I} {K K' : Int32 → Prop} (h : ∀ v, K v → K' v) (q : mm_al z t k i I K) : mm_al z t k i I K' := by
  unfold mm_al at q ⊢
  split
  · rename_i h1
    rw [if_pos h1] at q
    exact ⟨q.1, h _ q.2⟩
  · rename_i h1
    rw [if_neg h1] at q
    split
    · rename_i h2
      rw [if_pos h2] at q
      exact ⟨q.1, h _ q.2⟩
    · rename_i h2
      rw [if_neg h2] at q
      split
      · rename_i h3
        rw [if_pos h3] at q
        exact ⟨q.1, h _ q.2⟩
      · rename_i h3
        rw [if_neg h3] at q
        exact q
theorem mm_an_m {z : mm_S} {t : Nat × Nat} {K K' : Int32 → Prop} (h : ∀ v, K v → K' v) (q : mm_an z t K) : mm_an z t K' := by
  unfold mm_an at q ⊢
  split
  · rename_i h1
    rw [if_pos h1] at q
    exact h _ q
  · rename_i h1
    rw [if_neg h1] at q
    exact ⟨q.1, h _ q.2⟩
abbrev mm_C : Type := Nat → List Value → mm_I → mm_J → (Option Value → mm_I → mm_J → Prop) → Prop
def mm_Cm (C C' : mm_C) : Prop := ∀ g as I J Q Q', (∀ v I J, Q v I J → Q' v I J) → C g as I J Q → C' g as I J Q'
set_option maxHeartbeats 4000000 in
theorem mm_run_m {z : mm_S} {C C' : mm_C} {rt rt' : Option Value → mm_I → mm_J → Prop} {ex ex' : Nat → mm_L → List Value → mm_I → mm_J → Prop} {e : Nat} (hC : mm_Cm C C') (hr : ∀ v I J, rt v I J → rt' v I J) (hx : ∀ pc ls st I J, ex pc ls st I J → ex' pc ls st I J) : ∀ (is : List Instr) (ls : mm_L) (st : List Value) (I : mm_I) (J : mm_J), mm_run z C rt ex e is ls st I J → mm_run z C' rt' ex' e is ls st I J
  | [], ls, st, I, J, h => hx _ _ _ _ _ h
  | i :: is, ls, st, I, J, h => by
    have ih := mm_run_m (z := z) (e := e) hC hr hx is
    cases i
    case iconst v => exact ih _ _ _ _ h
    case sipush v => exact ih _ _ _ _ h
    case aconst_null => exact ih _ _ _ _ h
    case iload k => exact mm_xi_m (fun _ => ih _ _ _ _) h
    case lload k => exact mm_xl_m (fun _ => ih _ _ _ _) h
    case aload k =>
      have h2 : mm_xr (mm_gt ls k) (fun v => mm_run z C rt ex e is ls (v :: st) I J) := h
      exact mm_xr_m (K' := fun v => mm_run z C' rt' ex' e is ls (v :: st) I J) (fun _ => ih _ _ _ _) h2
    case istore k => exact mm_i1_m (fun _ _ => ih _ _ _ _) h
    case lstore k => exact mm_l1_m (fun _ _ => ih _ _ _ _) h
    case astore k => exact mm_nn_m (fun _ => ih _ _ _ _) (fun _ => mm_r1_m (fun _ _ => ih _ _ _ _)) h
    case iinc k n => exact mm_xi_m (fun _ => ih _ _ _ _) h
    case pop =>
      have h2 : mm_dup st (fun _ r => mm_run z C rt ex e is ls r I J) := h
      exact mm_dup_m (K' := fun _ r => mm_run z C' rt' ex' e is ls r I J) (fun _ _ => ih _ _ _ _) h2
    case dup =>
      have h2 : mm_dup st (fun v r => mm_run z C rt ex e is ls (v :: v :: r) I J) := h
      exact mm_dup_m (K' := fun v r => mm_run z C' rt' ex' e is ls (v :: v :: r) I J) (fun _ _ => ih _ _ _ _) h2
    case dup2 => exact mm_ri_m (fun _ _ _ => ih _ _ _ _) h
    case iadd => exact mm_i2_m (fun _ _ _ => ih _ _ _ _) h
    case isub => exact mm_i2_m (fun _ _ _ => ih _ _ _ _) h
    case imul => exact mm_i2_m (fun _ _ _ => ih _ _ _ _) h
    case idiv => exact mm_i2_m (fun _ _ _ q => ⟨q.1, ih _ _ _ _ q.2⟩) h
    case irem => exact mm_i2_m (fun _ _ _ q => ⟨q.1, ih _ _ _ _ q.2⟩) h
    case ineg => exact mm_i1_m (fun _ _ => ih _ _ _ _) h
    case iand => exact mm_i2_m (fun _ _ _ => ih _ _ _ _) h
    case ior => exact mm_i2_m (fun _ _ _ => ih _ _ _ _) h
    case ixor => exact mm_i2_m (fun _ _ _ => ih _ _ _ _) h
    case ishl => exact mm_i2_m (fun _ _ _ => ih _ _ _ _) h
    case ishr => exact mm_i2_m (fun _ _ _ => ih _ _ _ _) h
    case iushr => exact mm_i2_m (fun _ _ _ => ih _ _ _ _) h
    case ladd => exact mm_l2_m (fun _ _ _ => ih _ _ _ _) h
    case lsub => exact mm_l2_m (fun _ _ _ => ih _ _ _ _) h
    case lmul => exact mm_l2_m (fun _ _ _ => ih _ _ _ _) h
    case land => exact mm_l2_m (fun _ _ _ => ih _ _ _ _) h
    case lor => exact mm_l2_m (fun _ _ _ => ih _ _ _ _) h
    case lshl => exact mm_li_m (fun _ _ _ => ih _ _ _ _) h
    case lshr => exact mm_li_m (fun _ _ _ => ih _ _ _ _) h
    case lushr => exact mm_li_m (fun _ _ _ => ih _ _ _ _) h
    case lcmp => exact mm_l2_m (fun _ _ _ => ih _ _ _ _) h
    case i2l => exact mm_i1_m (fun _ _ => ih _ _ _ _) h
    case l2i => exact mm_l1_m (fun _ _ => ih _ _ _ _) h
    case if_icmp c t => exact mm_i2_m (fun _ _ _ => mm_br_m (hx _ _ _ _ _) (ih _ _ _ _)) h
    case ifCond c t => exact mm_i1_m (fun _ _ => mm_br_m (hx _ _ _ _ _) (ih _ _ _ _)) h
    case ifnull t => exact mm_nn_m (fun _ => hx _ _ _ _ _) (fun _ => ih _ _ _ _) h
    case ifnonnull t => exact mm_nn_m (fun _ => ih _ _ _ _) (fun _ => hx _ _ _ _ _) h
    case goto t => exact hx _ _ _ _ _ h
    case tableswitch d lo hi ts => exact mm_i1_m (fun _ _ q => mm_sw_m (fun _ => hx _ _ _ _ _) _ _ q) h
    case getfield n => exact mm_r1_m (fun _ _ q => ⟨q.1, ih _ _ _ _ q.2⟩) h
    case getstatic n => exact mm_r1_m (fun _ _ q => ⟨q.1, ih _ _ _ _ q.2⟩) h
    case instanceof n => exact mm_r1_m (fun _ _ q => ⟨q.1, ih _ _ _ _ q.2⟩) h
    case putfield n => exact mm_ri_m (fun _ _ _ q => ⟨q.1, ih _ _ _ _ q.2⟩) h
    case putstatic n => exact mm_ri_m (fun _ _ _ q => ⟨q.1, q.2.1, ih _ _ _ _ q.2.2⟩) h
    case checkcast n => exact mm_rl_m (fun _ _ _ q => ⟨q.1, ih _ _ _ _ q.2⟩) h
    case anewarray n => exact ih _ _ _ _ h
    case iaload => exact mm_ri_m (fun _ _ _ => mm_al_m (fun _ => ih _ _ _ _)) h
    case laload => exact mm_ri_m (fun _ _ _ q => ⟨q.1, q.2.1, ih _ _ _ _ q.2.2⟩) h
    case baload => exact mm_ri_m (fun _ _ _ q => ⟨q.1, q.2.1, ih _ _ _ _ q.2.2⟩) h
    case aaload => exact mm_ri_m (fun _ _ _ q => ⟨q.1, q.2.1, ih _ _ _ _ q.2.2⟩) h
    case iastore => exact mm_rii_m (fun _ _ _ _ q => ⟨q.1, q.2.1, ih _ _ _ _ q.2.2⟩) h
    case bastore => exact mm_rii_m (fun _ _ _ _ q => ⟨q.1, q.2.1, q.2.2.1, ih _ _ _ _ q.2.2.2⟩) h
    case lastore => exact mm_ril_m (fun _ _ _ _ q => ⟨q.1, q.2.1, ih _ _ _ _ q.2.2⟩) h
    case arraylength => exact mm_r1_m (fun _ _ => mm_an_m (fun _ => ih _ _ _ _)) h
    case monitorenter => exact mm_cy_m (fun _ _ _ _ _ _ q => ⟨q.1, q.2.1, q.2.2.1, q.2.2.2.1, q.2.2.2.2.1, q.2.2.2.2.2.1, q.2.2.2.2.2.2.1, q.2.2.2.2.2.2.2.1, ih _ _ _ _ q.2.2.2.2.2.2.2.2⟩) h
    case invokeinterface g n => exact mm_pn_m (fun _ _ q => ⟨q.1, hC _ _ _ _ _ _ (fun _ _ _ => ih _ _ _ _) q.2⟩) _ _ _ h
    case multianewarray g n => exact mm_pn_m (fun _ _ q => ⟨q.1, q.2.1, hC _ _ _ _ _ _ (fun _ _ _ => ih _ _ _ _) q.2.2⟩) _ _ _ h
    case ireturn => exact mm_i1_m (fun _ _ q => ⟨q.1, hr _ _ _ q.2⟩) h
    case freturn => exact mm_i1_m (fun _ _ q => ⟨q.1, q.2.1, hr _ _ _ q.2.2⟩) h
    case lreturn => exact mm_l1_m (fun _ _ q => ⟨q.1, hr _ _ _ q.2⟩) h
    case areturn => exact mm_nn_m (fun _ q => ⟨q.1, hr _ _ _ q.2⟩) (fun _ => mm_r1_m (fun _ _ q => ⟨q.1, hr _ _ _ q.2⟩)) h
    case return_ => exact ⟨h.1, hr _ _ _ h.2⟩
    all_goals exact False.elim h
theorem mm_at_m {z : mm_S} {C C' : mm_C} {bs : List mm_B} {rt rt' : Option Value → mm_I → mm_J → Prop} (hC : mm_Cm C C') (hr : ∀ v I J, rt v I J → rt' v I J) {pc : Nat} {ls : mm_L} {st : List Value} {I : mm_I} {J : mm_J} (h : mm_at z C bs rt pc ls st I J) : mm_at z C' bs rt' pc ls st I J := by
  intro P hP
  exact h P (fun pc ls st I J e is hb hq => hP pc ls st I J e is hb (mm_run_m hC hr (fun _ _ _ _ _ q => q) is ls st I J hq))
theorem mm_call_m {z : mm_S} : ∀ d : Nat, mm_Cm (mm_call z d) (mm_call z d)
  | 0 => fun _ _ _ _ _ _ _ h => h
  | d + 1 => fun _ _ _ _ _ _ hq h => ⟨h.1, mm_at_m (mm_call_m d) hq h.2⟩
theorem mm_call_d {z : mm_S} : ∀ d : Nat, mm_Cm (mm_call z d) (mm_call z (d + 1))
  | 0 => fun _ _ _ _ _ _ _ h => h.elim
  | d + 1 => fun _ _ _ _ _ _ hq h => ⟨h.1, mm_at_m (mm_call_d d) hq h.2⟩
theorem mm_call_le {z : mm_S} {d : Nat} : ∀ {d' : Nat}, d ≤ d' → mm_Cm (mm_call z d) (mm_call z d') := by
  intro d' h
  induction h with
  | refl => exact mm_call_m d
  | step _ ih => exact fun g as I J Q Q' hq h => mm_call_d _ g as I J Q' Q' (fun _ _ _ q => q) (ih g as I J Q Q' hq h)
/-- a block of a method -/
theorem mm_at_i {z : mm_S} {d : Nat} {bs : List mm_B} {rt : Option Value → mm_I → mm_J → Prop} {pc : Nat} {ls : mm_L} {st : List Value} {I : mm_I} {J : mm_J} {e : Nat} {is : List Instr} (hb : mm_bk bs pc = some (e, is)) (h : mm_run z (mm_call z d) rt (mm_at z (mm_call z d) bs rt) e is ls st I J) : mm_at z (mm_call z d) bs rt pc ls st I J := by
  intro P hP
  exact hP pc ls st I J e is hb (mm_run_m (mm_call_m d) (fun _ _ _ q => q) (fun _ _ _ _ _ q => q P hP) is ls st I J h)
theorem mm_call_i {z : mm_S} {d g : Nat} {as : List Value} {I : mm_I} {J : mm_J} {Q : Option Value → mm_I → mm_J → Prop} (hl : Nat.ble (mm_en as).length (mm_ml g) = true) (h : mm_at z (mm_call z d) (mm_code g) Q 0 (mm_entry as (mm_ml g)) [] I J) : mm_call z (d + 1) g as I J Q := ⟨Nat.le_of_ble_eq_true hl, h⟩
