/-! five arrays of 910 ints in an array -/
def mu_f (b : Nat) : Nat → Nat → Value
  | 0 => fun _ => .null
  | i + 1 => updV (mu_f b i) i (.ref (b + 1 + i))
def mu_T (T : State) (cA cI : ClassId) : Nat → State
  | 0 => T.pushCell (arrV cA 5 (mu_f T.heap.size 0))
  | i + 1 => ((mu_T T cA cI i).pushCell (arrV cI 910 (fun _ => .int 0))).setCell T.heap.size (arrV cA 5 (mu_f T.heap.size (i + 1)))
theorem mu_sz {T : State} {cA cI : ClassId} : ∀ i, (mu_T T cA cI i).heap.size = T.heap.size + 1 + i
  | 0 => by show (T.pushCell _).heap.size = _; rw [State.heap_size_pushCell]
  | i + 1 => by
    show (((mu_T T cA cI i).pushCell _).setCell _ _).heap.size = _
    rw [State.heap_setCell, Array.size_setIfInBounds, State.heap_size_pushCell, mu_sz i]
    omega
theorem mu_vm {T : State} {cA cI : ClassId} : ∀ i, (mu_T T cA cI i).vm = T.vm
  | 0 => rfl
  | i + 1 => (show (((mu_T T cA cI i).pushCell _).setCell _ _).vm = _ from mu_vm i)
theorem mu_us {T : State} {cA cI : ClassId} : ∀ i, (mu_T T cA cI i).slotsUsed = T.slotsUsed + 5 + i * 910
  | 0 => by
    show T.slotsUsed + (arrV cA 5 _).slots.size = _
    rw [arrV_size]
  | i + 1 => by
    show (mu_T T cA cI i).slotsUsed + (arrV cI 910 _).slots.size = _
    rw [arrV_size, mu_us i]
    omega
theorem mu_at {T : State} {cA cI : ClassId} : ∀ i, (mu_T T cA cI i).heap[T.heap.size]? = some (arrV cA 5 (mu_f T.heap.size i))
  | 0 => State.heap_pushCell_size _ _
  | i + 1 => by
    have hs := mu_sz (T := T) (cA := cA) (cI := cI) i
    show (((mu_T T cA cI i).pushCell _).setCell _ _).heap[_]? = _
    exact State.heap_setCell_self (c := arrV cA 5 (mu_f T.heap.size i)) (by rw [State.heap_pushCell_of_lt _ _ (show T.heap.size < (mu_T T cA cI i).heap.size by omega)]; exact mu_at i)
theorem mu_old {T : State} {cA cI : ClassId} {a : Nat} (ha : a < T.heap.size) : ∀ i, (mu_T T cA cI i).heap[a]? = T.heap[a]?
  | 0 => State.heap_pushCell_of_lt _ _ ha
  | i + 1 => by
    have hs := mu_sz (T := T) (cA := cA) (cI := cI) i
    show (((mu_T T cA cI i).pushCell _).setCell _ _).heap[_]? = _
    rw [State.heap_setCell_other (show T.heap.size ≠ a by omega), State.heap_pushCell_of_lt _ _ (show a < (mu_T T cA cI i).heap.size by omega)]
    exact mu_old ha i
theorem mu_in {T : State} {cA cI : ClassId} : ∀ i j, j < i → (mu_T T cA cI i).heap[T.heap.size + 1 + j]? = some (arrV cI 910 (fun _ => .int 0))
  | 0, j, h => absurd h (Nat.not_lt_zero j)
  | i + 1, j, h => by
    have hs := mu_sz (T := T) (cA := cA) (cI := cI) i
    show (((mu_T T cA cI i).pushCell _).setCell _ _).heap[_]? = _
    rw [State.heap_setCell_other (show T.heap.size ≠ T.heap.size + 1 + j by omega)]
    by_cases q : j = i
    · subst q
      rw [← hs]
      exact State.heap_pushCell_size _ _
    · rw [State.heap_pushCell_of_lt _ _ (show T.heap.size + 1 + j < (mu_T T cA cI i).heap.size by omega)]
      exact mu_in i j (by omega)
theorem mu_top {T : State} {f : JFrame} {cA cI : ClassId} : ∀ i, mu_T (T.setTop f) cA cI i = (mu_T T cA cI i).setTop f
  | 0 => rfl
  | i + 1 => by
    show ((mu_T (T.setTop f) cA cI i).pushCell _).setCell _ _ = _
    rw [mu_top i]
    rfl
section MU
variable {p : Program} {l : Launch} {e : Env} {R : Room} {s : State} {m : MethodId} {args : Array Value} {below : List Frame} {meth : Method} {c : Code} {cells slots : Nat} {QQ : State → Prop}
theorem mu_st {T : State} {locs : List Loc} {cA cI : ClassId} (Xs : Stand p l e R s m args below meth c T locs cells slots) : ∀ i, ∃ L : List Loc, (∀ q ∈ L, q.base = T.heap.size) ∧ Stand p l e R s m args below meth c (mu_T T cA cI i) (locs ++ L) (cells + 1 + i) (slots + 5 + i * 910)
  | 0 => by
    have h := Xs.pushed (arrV cA 5 (mu_f T.heap.size 0))
    rw [arrV_size] at h
    refine ⟨[], (fun q hq => absurd hq List.not_mem_nil), ?_⟩
    rw [List.append_nil, Nat.zero_mul]
    exact h
  | i + 1 => by
    obtain ⟨L, hL, Y⟩ := mu_st (cA := cA) (cI := cI) Xs i
    have hs := mu_sz (T := T) (cA := cA) (cI := cI) i
    have h := (Y.pushed (arrV cI 910 (fun _ => .int 0))).stored (a := T.heap.size) (cell := arrV cA 5 (mu_f T.heap.size i)) (by rw [State.heap_pushCell_of_lt _ _ (show T.heap.size < (mu_T T cA cI i).heap.size by omega)]; exact mu_at i) i (.ref (T.heap.size + 1 + i))
    rw [arrV_size, arrV_store] at h
    refine ⟨L ++ [⟨T.heap.size, i⟩], fun q hq => ?_, ?_⟩
    · rcases List.mem_append.mp hq with h | h
      · exact hL q h
      · rw [List.mem_singleton.mp h]
    · rw [← List.append_assoc, show slots + 5 + (i + 1) * 910 = slots + 5 + i * 910 + 910 by omega]
      exact h
end MU
section MW
variable {E : CtlPost} {e : Env} {d : Bool} {acts : List Action} {s : State}
theorem mu_na {cl comp : ClassId} {k : Class} {ty : FieldType} {n : Nat} {v : Value} (hk : s.vm.classes[cl]? = some k) (hkind : k.kind = .array comp ty) (h1 : ¬ n > e.platform.arrayLengthLimit) (h2 : ¬ n * componentBytes ty > e.platform.maxHeapBytes) (hfit : fits ty v = true) (hdef : v.isDefault = true) {Q : Addr → Pre} (hc : s.heap.size < e.platform.maxCells) (hs : s.slotsUsed + n ≤ e.platform.maxSlots) (hq : Q s.heap.size d acts (s.pushCell (arrV cl n (fun _ => v)))) : wp (Jvm.newArray cl n v) Q E e d acts s := by
  have a1 : ∀ i x, (Array.replicate n v)[i]? = some x → s.fitsSlot cl .none i x = true := by
    intro i x hx
    rw [Array.getElem?_replicate] at hx
    split at hx
    · cases hx
      simp [State.fitsSlot, State.slotType?, hk, hkind, hfit]
    · cases hx
  have a2 : allocActs (Array.replicate n v) s.heap.size acts = acts := by
    unfold allocActs
    rw [if_pos]
    rw [Array.all_replicate]
    split <;> simp [hdef]
  rw [← arrV_new] at hq
  simp only [Jvm.newArray, Jvm.arrayFits, wp_bind', W.ask, W.ite, h1, if_false, wp_pure', W.theClass, hk, hkind, h2, W.alloc, W.stop, Option.some.injEq, exists_eq_left', Array.size_replicate, a2]
  rw [if_neg (by omega)]
  exact ⟨hc, hs, a1, hq⟩
theorem mu_mk {cA cI c0 : ClassId} {kA kI : Class} (hA : s.vm.classes[cA]? = some kA) (hA2 : kA.kind = .array cI (.array .int)) (hI : s.vm.classes[cI]? = some kI) (hI2 : kI.kind = .array c0 .int) (h1 : ¬ 910 > e.platform.arrayLengthLimit) (h2 : ¬ 3640 > e.platform.maxHeapBytes) (hc : s.heap.size + 6 ≤ e.platform.maxCells) (hs : s.slotsUsed + 4555 ≤ e.platform.maxSlots) {Q : Addr → Pre} (hq : ∀ d' acts', Q s.heap.size d' acts' (mu_T s cA cI 5)) : wp (multianewarray.make cA [5, 910]) Q E e d acts s := by
  have n5 : ¬ (5 : Int32) < 0 := by decide
  have n9 : ¬ (910 : Int32) < 0 := by decide
  have t5 : (5 : Int32).toNatClampNeg = 5 := by decide
  have t9 : (910 : Int32).toNatClampNeg = 910 := by decide
  rw [multianewarray.make]
  simp only [wp_bind', W.ite, n5, if_false, wp_pure', W.theClass, hA, hA2, Option.some.injEq, exists_eq_left', t5]
  refine mu_na hA hA2 (by omega) (by show ¬ 20 > _; omega) rfl rfl (by omega) (by omega) ?_
  have hf : ([910].find? fun x : Int32 => decide (x < 0)) = none := by decide
  simp only [hf]
  rw [ite_self, wp_bind', Std.Legacy.Range.forIn_eq_forIn_range']
  show wp (forIn (List.range' 0 5 1) PUnit.unit _) _ E e d acts _
  refine wp_forIn_inv (fun rest s' => ∃ i, i ≤ 5 ∧ rest = List.range' i (5 - i) ∧ s' = mu_T s cA cI i) _ _ ⟨0, by omega, rfl, rfl⟩ ?_ ?_
  · rintro x rest s' d' acts' Q' ⟨i, hi, hl, rfl⟩ hnext
    have i5 : i < 5 := by
      refine Nat.lt_of_le_of_ne hi (fun q => ?_)
      rw [q] at hl
      cases hl
    rw [show 5 - i = (5 - (i + 1)) + 1 by omega, List.range'_succ] at hl
    injection hl with hx hr
    subst hx
    have z := mu_sz (T := s) (cA := cA) (cI := cI) x
    have u := mu_us (T := s) (cA := cA) (cI := cI) x
    have v := mu_vm (T := s) (cA := cA) (cI := cI) x
    simp only [wp_bind']
    rw [multianewarray.make]
    simp only [wp_bind', W.ite, n9, if_false, wp_pure', W.theClass, v, hI, hI2, Option.some.injEq, exists_eq_left', t9]
    refine mu_na (by rw [v]; exact hI) hI2 h1 (by show ¬ 3640 > _; exact h2) rfl rfl (by omega) (by omega) ?_
    simp only [wp_bind', W.writeLoc, wp_pure']
    refine ⟨arrV cA 5 (mu_f s.heap.size x), by rw [State.heap_pushCell_of_lt _ _ (show s.heap.size < (mu_T s cA cI x).heap.size by omega)]; exact mu_at x, (fun q => by cases q), by rw [arrV_size]; exact i5, ?_, hnext _ _ _ ⟨x + 1, i5, hr, ?_⟩⟩
    · show State.fitsSlot _ cA .none x _ = true
      simp [State.fitsSlot, State.slotType?, v, hA, hA2]
      rfl
    · rw [z, arrV_store]
      rfl
  · rintro s' d' acts' ⟨i, hi, hl, rfl⟩
    have i5 : i = 5 := by
      refine Nat.le_antisymm hi (Nat.le_of_not_lt (fun q => ?_))
      rw [show 5 - i = (5 - (i + 1)) + 1 by omega, List.range'_succ] at hl
      cases hl
    subst i5
    simp only [wp_pure']
    exact hq _ _
end MW
section MX
variable {p : Program} {l : Launch} {e : Env} {R : Room} {s : State} {m : MethodId} {args : Array Value} {below : List Frame} {meth : Method} {c : Code} {cells slots : Nat} {QQ : State → Prop}
theorem mu_W {H : Heap} {locs : List Loc} {b : ByteArray} {own : String} {index pc : Nat} {lsA : Array Slot} {rest : List Value} {cA cI : ClassId} {kA kI : Class} {c0 : ClassId} (hx : p.tables.exec = Jvm.exec) (hb : c.code = b) (hown : s.vm.findClass own = some m.cls) (hlink : (Cond.classLink own index "[[I").before args s = true) (hnm : s.vm.findClass "[[I" = some cA) (hA : s.vm.classes[cA]? = some kA) (hA2 : kA.kind = .array cI (.array .int)) (hI : s.vm.classes[cI]? = some kI) (hI2 : kI.kind = .array c0 .int) (hcells : cells + 6 ≤ R.cells) (hslots : slots + 4555 ≤ R.slots) (hd : decode b pc = .ok (.multianewarray index 2, 4))
    (kk : ∀ (H1 : Heap) (L : List Loc), (∀ q ∈ L, q.base = H.size) → H1.size = H.size + 6 → H1[H.size]? = some (arrV cA 5 (mu_f H.size 5)) → (∀ j, j < 5 → H1[H.size + 1 + j]? = some (arrV cI 910 (fun _ => .int 0))) → (∀ a, a < H.size → H1[a]? = H[a]?) → W p l e R s m args below meth c H1 (locs ++ L) (cells + 6) (slots + 4555) QQ (F0 m (pc + 4) lsA (.ref H.size :: rest))) : W p l e R s m args below meth c H locs cells slots QQ (F0 m pc lsA (.int 910 :: .int 5 :: rest)) := by
  intro T hT Xs
  subst hT
  subst hb
  have hpl : e.platform.magicAccessors = ({} : Platform).magicAccessors := by rw [Xs.admits.platform]
  obtain ⟨c1, hf1, hcl⟩ := Cond.classLink_spec hown hlink e.platform hpl
  cases hnm.symm.trans hf1
  obtain ⟨hg1, hw1, hr1⟩ := State.classEntry (e := e) Xs.warmed hcl
  generalize T.vm.noted m.cls index (.cls cA) = vm1 at hg1 hw1 hr1
  have hal : s.vm.Alike vm1 := hw1.alike
  obtain ⟨kA1, hA1, eA⟩ := hal.2.2 _ _ hA
  obtain ⟨kI1, hI1, eI1⟩ := hal.2.2 _ _ hI
  have Y := Xs.noted hw1
  obtain ⟨L, hL, Z⟩ := mu_st (cA := cA) (cI := cI) Y 5
  obtain ⟨t', a1, b1⟩ := kk (mu_T (T.setVm vm1) cA cI 5).heap L hL (mu_sz (T := T.setVm vm1) 5) (mu_at (T := T.setVm vm1) 5) (fun j hj => mu_in (T := T.setVm vm1) 5 j hj) (fun a ha => mu_old (T := T.setVm vm1) ha 5) (mu_T (T.setVm vm1) cA cI 5) rfl Z
  refine ⟨t', ?_, b1⟩
  obtain ⟨r1, r2⟩ := Xs.roomAbove hcells hslots
  jvm_step Xs.here [hx, hd]
  simp only [multianewarray.sem, wp_bind', W.resolveClassAt_links (State.method?_setTop (F0 m pc lsA (.int 910 :: .int 5 :: rest)) Xs.here.top) hg1]
  rw [W.popN, if_neg (by decide)]
  refine ⟨F0 m pc lsA (.int 910 :: .int 5 :: rest), State.topJava?_setTop' (s := T.setVm vm1) (F0 m pc lsA (.int 910 :: .int 5 :: rest)) Xs.here.top, [.int 5, .int 910], rest, rfl, rfl, ?_⟩
  simp only [List.mapM_cons, List.mapM_nil, wp_bind', wp_pure']
  refine mu_mk (kA := kA1) (kI := kI1) (c0 := c0) hA1 (by rw [eA]; exact hA2) hI1 (by rw [eI1]; exact hI2) (by rw [Launch.admits_arrayLengthLimit Xs.admits]; omega) (by rw [Launch.admits_maxHeapBytes Xs.admits]; omega) (by show T.heap.size + 6 ≤ _; omega) (by show T.slotsUsed + 4555 ≤ _; omega) (fun d' acts' => ?_)
  have eS : ((T.setTop (F0 m pc lsA (.int 910 :: .int 5 :: rest))).setVm vm1).setTop { F0 m pc lsA (.int 910 :: .int 5 :: rest) with stack := rest } = (T.setVm vm1).setTop { F0 m pc lsA (.int 910 :: .int 5 :: rest) with stack := rest } := by
    show ((T.setVm vm1).setTop _).setTop _ = _
    rw [State.setTop_setTop]
  rw [eS, mu_top]
  simp only [wp_bind', W.mark, W.pushRef, State.topJava?_setTop' _ Z.here.top, Option.some.injEq, exists_eq_left', State.setTop_setTop, State.heap_setTop]
  intro acts
  simp [jvm, Z.here.top]
  exact a1
end MX
