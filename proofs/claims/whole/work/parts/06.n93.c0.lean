set_option maxRecDepth 100000 in
theorem mk_c_0 : mk_meth (mt_ms_0.getD 0 (⟨"", "", ""⟩, code, 0, none, 0, false, 0, [])) mc_0 = true := by decide +kernel
set_option maxRecDepth 100000 in
theorem mk_c_1 : mk_meth (mt_ms_0.getD 1 (⟨"", "", ""⟩, code, 0, none, 0, false, 0, [])) mc_1 = true := by decide +kernel
set_option maxRecDepth 100000 in
theorem mk_c_2 : mk_meth (mt_ms_0.getD 2 (⟨"", "", ""⟩, code, 0, none, 0, false, 0, [])) mc_2 = true := by decide +kernel
set_option maxRecDepth 100000 in
theorem mk_c_3 : mk_meth (mt_ms_0.getD 3 (⟨"", "", ""⟩, code, 0, none, 0, false, 0, [])) mc_3 = true := by decide +kernel
set_option maxRecDepth 100000 in
theorem mk_c_4 : mk_meth (mt_ms_0.getD 4 (⟨"", "", ""⟩, code, 0, none, 0, false, 0, [])) mc_4 = true := by decide +kernel
set_option maxRecDepth 100000 in
theorem mk_c_5 : mk_meth (mt_ms_0.getD 5 (⟨"", "", ""⟩, code, 0, none, 0, false, 0, [])) mc_5 = true := by decide +kernel
set_option maxRecDepth 100000 in
theorem mk_c_6 : mk_meth (mt_ms_0.getD 6 (⟨"", "", ""⟩, code, 0, none, 0, false, 0, [])) mc_6 = true := by decide +kernel
set_option maxRecDepth 100000 in
theorem mk_c_7 : mk_meth (mt_ms_0.getD 7 (⟨"", "", ""⟩, code, 0, none, 0, false, 0, [])) mc_7 = true := by decide +kernel
set_option maxRecDepth 100000 in
theorem mk_c_8 : mk_meth (mt_ms_0.getD 8 (⟨"", "", ""⟩, code, 0, none, 0, false, 0, [])) mc_8 = true := by decide +kernel
set_option maxRecDepth 100000 in
theorem mk_c_9 : mk_meth (mt_ms_0.getD 9 (⟨"", "", ""⟩, code, 0, none, 0, false, 0, [])) mc_9 = true := by decide +kernel
set_option maxRecDepth 100000 in
theorem mk_c_10 : mk_meth (mt_ms_0.getD 10 (⟨"", "", ""⟩, code, 0, none, 0, false, 0, [])) mc_10 = true := by decide +kernel
set_option maxRecDepth 100000 in
theorem mk_c_11 : mk_meth (mt_ms_0.getD 11 (⟨"", "", ""⟩, code, 0, none, 0, false, 0, [])) mc_11 = true := by decide +kernel
set_option maxRecDepth 100000 in
theorem mk_c_12 : mk_meth (mt_ms_0.getD 12 (⟨"", "", ""⟩, code, 0, none, 0, false, 0, [])) mc_12 = true := by decide +kernel
set_option maxRecDepth 100000 in
theorem mk_c_13 : mk_meth (mt_ms_0.getD 13 (⟨"", "", ""⟩, code, 0, none, 0, false, 0, [])) mc_13 = true := by decide +kernel
set_option maxRecDepth 100000 in
theorem mk_c_14 : mk_meth (mt_ms_0.getD 14 (⟨"", "", ""⟩, code, 0, none, 0, false, 0, [])) mc_14 = true := by decide +kernel
set_option maxRecDepth 100000 in
theorem mk_c_15 : mk_meth (mt_ms_0.getD 15 (⟨"", "", ""⟩, code, 0, none, 0, false, 0, [])) mc_15 = true := by decide +kernel
set_option maxRecDepth 100000 in
theorem mk_c_16 : mk_meth (mt_ms_0.getD 16 (⟨"", "", ""⟩, code, 0, none, 0, false, 0, [])) mc_16 = true := by decide +kernel
set_option maxRecDepth 100000 in
theorem mk_c_17 : mk_meth (mt_ms_0.getD 17 (⟨"", "", ""⟩, code, 0, none, 0, false, 0, [])) mc_17 = true := by decide +kernel
set_option maxRecDepth 100000 in
theorem mk_c_18 : mk_meth (mt_ms_0.getD 18 (⟨"", "", ""⟩, code, 0, none, 0, false, 0, [])) mc_18 = true := by decide +kernel
set_option maxRecDepth 100000 in
theorem mk_c_19 : mk_meth (mt_ms_0.getD 19 (⟨"", "", ""⟩, code, 0, none, 0, false, 0, [])) mc_19 = true := by decide +kernel
set_option maxRecDepth 100000 in
theorem mk_c_20 : mk_meth (mt_ms_0.getD 20 (⟨"", "", ""⟩, code, 0, none, 0, false, 0, [])) mc_20 = true := by decide +kernel
set_option maxRecDepth 100000 in
theorem mk_c_21 : mk_meth (mt_ms_0.getD 21 (⟨"", "", ""⟩, code, 0, none, 0, false, 0, [])) mc_21 = true := by decide +kernel
set_option maxRecDepth 100000 in
theorem mk_c_22 : mk_meth (mt_ms_0.getD 22 (⟨"", "", ""⟩, code, 0, none, 0, false, 0, [])) mc_22 = true := by decide +kernel
set_option maxRecDepth 100000 in
theorem mk_c_23 : mk_meth (mt_ms_0.getD 23 (⟨"", "", ""⟩, code, 0, none, 0, false, 0, [])) mc_23 = true := by decide +kernel
set_option maxRecDepth 100000 in
theorem mk_c_24 : mk_meth (mt_ms_0.getD 24 (⟨"", "", ""⟩, code, 0, none, 0, false, 0, [])) mc_24 = true := by decide +kernel
set_option maxRecDepth 100000 in
theorem mk_c_25 : mk_meth (mt_ms_0.getD 25 (⟨"", "", ""⟩, code, 0, none, 0, false, 0, [])) mc_25 = true := by decide +kernel
set_option maxRecDepth 100000 in
theorem mk_c_26 : mk_meth (mt_ms_0.getD 26 (⟨"", "", ""⟩, code, 0, none, 0, false, 0, [])) mc_26 = true := by decide +kernel
set_option maxRecDepth 100000 in
theorem mk_c_27 : mk_meth (mt_ms_0.getD 27 (⟨"", "", ""⟩, code, 0, none, 0, false, 0, [])) mc_27 = true := by decide +kernel
set_option maxRecDepth 100000 in
theorem mk_c_28 : mk_meth (mt_ms_0.getD 28 (⟨"", "", ""⟩, code, 0, none, 0, false, 0, [])) mc_28 = true := by decide +kernel
set_option maxRecDepth 100000 in
theorem mk_c_29 : mk_meth (mt_ms_0.getD 29 (⟨"", "", ""⟩, code, 0, none, 0, false, 0, [])) mc_29 = true := by decide +kernel
set_option maxRecDepth 100000 in
theorem mk_c_30 : mk_meth (mt_ms_0.getD 30 (⟨"", "", ""⟩, code, 0, none, 0, false, 0, [])) mc_30 = true := by decide +kernel
set_option maxRecDepth 100000 in
theorem mk_c_31 : mk_meth (mt_ms_0.getD 31 (⟨"", "", ""⟩, code, 0, none, 0, false, 0, [])) mc_31 = true := by decide +kernel
set_option maxRecDepth 100000 in
theorem mk_c_32 : mk_meth (mt_ms_0.getD 32 (⟨"", "", ""⟩, code, 0, none, 0, false, 0, [])) mc_32 = true := by decide +kernel
set_option maxRecDepth 100000 in
theorem mk_c_33 : mk_meth (mt_ms_0.getD 33 (⟨"", "", ""⟩, code, 0, none, 0, false, 0, [])) mc_33 = true := by decide +kernel
set_option maxRecDepth 100000 in
theorem mk_c_34 : mk_meth (mt_ms_0.getD 34 (⟨"", "", ""⟩, code, 0, none, 0, false, 0, [])) mc_34 = true := by decide +kernel
set_option maxRecDepth 100000 in
theorem mk_c_35 : mk_meth (mt_ms_0.getD 35 (⟨"", "", ""⟩, code, 0, none, 0, false, 0, [])) mc_35 = true := by decide +kernel
set_option maxRecDepth 100000 in
theorem mk_c_36 : mk_meth (mt_ms_0.getD 36 (⟨"", "", ""⟩, code, 0, none, 0, false, 0, [])) mc_36 = true := by decide +kernel
set_option maxRecDepth 100000 in
theorem mk_c_37 : mk_meth (mt_ms_0.getD 37 (⟨"", "", ""⟩, code, 0, none, 0, false, 0, [])) mc_37 = true := by decide +kernel
set_option maxRecDepth 100000 in
theorem mk_c_38 : mk_meth (mt_ms_0.getD 38 (⟨"", "", ""⟩, code, 0, none, 0, false, 0, [])) mc_38 = true := by decide +kernel
set_option maxRecDepth 100000 in
theorem mk_c_39 : mk_meth (mt_ms_0.getD 39 (⟨"", "", ""⟩, code, 0, none, 0, false, 0, [])) mc_39 = true := by decide +kernel
theorem mk_code_0 : ∀ q ∈ mt_ms_0.zip mc_l0, mk_meth q.1 q.2 = true := List.forall_mem_cons.mpr ⟨mk_c_0, List.forall_mem_cons.mpr ⟨mk_c_1, List.forall_mem_cons.mpr ⟨mk_c_2, List.forall_mem_cons.mpr ⟨mk_c_3, List.forall_mem_cons.mpr ⟨mk_c_4, List.forall_mem_cons.mpr ⟨mk_c_5, List.forall_mem_cons.mpr ⟨mk_c_6, List.forall_mem_cons.mpr ⟨mk_c_7, List.forall_mem_cons.mpr ⟨mk_c_8, List.forall_mem_cons.mpr ⟨mk_c_9, List.forall_mem_cons.mpr ⟨mk_c_10, List.forall_mem_cons.mpr ⟨mk_c_11, List.forall_mem_cons.mpr ⟨mk_c_12, List.forall_mem_cons.mpr ⟨mk_c_13, List.forall_mem_cons.mpr ⟨mk_c_14, List.forall_mem_cons.mpr ⟨mk_c_15, List.forall_mem_cons.mpr ⟨mk_c_16, List.forall_mem_cons.mpr ⟨mk_c_17, List.forall_mem_cons.mpr ⟨mk_c_18, List.forall_mem_cons.mpr ⟨mk_c_19, List.forall_mem_cons.mpr ⟨mk_c_20, List.forall_mem_cons.mpr ⟨mk_c_21, List.forall_mem_cons.mpr ⟨mk_c_22, List.forall_mem_cons.mpr ⟨mk_c_23, List.forall_mem_cons.mpr ⟨mk_c_24, List.forall_mem_cons.mpr ⟨mk_c_25, List.forall_mem_cons.mpr ⟨mk_c_26, List.forall_mem_cons.mpr ⟨mk_c_27, List.forall_mem_cons.mpr ⟨mk_c_28, List.forall_mem_cons.mpr ⟨mk_c_29, List.forall_mem_cons.mpr ⟨mk_c_30, List.forall_mem_cons.mpr ⟨mk_c_31, List.forall_mem_cons.mpr ⟨mk_c_32, List.forall_mem_cons.mpr ⟨mk_c_33, List.forall_mem_cons.mpr ⟨mk_c_34, List.forall_mem_cons.mpr ⟨mk_c_35, List.forall_mem_cons.mpr ⟨mk_c_36, List.forall_mem_cons.mpr ⟨mk_c_37, List.forall_mem_cons.mpr ⟨mk_c_38, List.forall_mem_cons.mpr ⟨mk_c_39, fun _ h => absurd h List.not_mem_nil⟩⟩⟩⟩⟩⟩⟩⟩⟩⟩⟩⟩⟩⟩⟩⟩⟩⟩⟩⟩⟩⟩⟩⟩⟩⟩⟩⟩⟩⟩⟩⟩⟩⟩⟩⟩⟩⟩⟩⟩
