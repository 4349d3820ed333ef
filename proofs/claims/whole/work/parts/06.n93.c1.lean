set_option maxRecDepth 100000 in
theorem mk_c_40 : mk_meth (mt_ms_1.getD 0 (⟨"", "", ""⟩, code, 0, none, 0, false, 0, [])) mc_40 = true := by decide +kernel
set_option maxRecDepth 100000 in
theorem mk_c_41 : mk_meth (mt_ms_1.getD 1 (⟨"", "", ""⟩, code, 0, none, 0, false, 0, [])) mc_41 = true := by decide +kernel
set_option maxRecDepth 100000 in
theorem mk_c_42 : mk_meth (mt_ms_1.getD 2 (⟨"", "", ""⟩, code, 0, none, 0, false, 0, [])) mc_42 = true := by decide +kernel
set_option maxRecDepth 100000 in
theorem mk_c_43 : mk_meth (mt_ms_1.getD 3 (⟨"", "", ""⟩, code, 0, none, 0, false, 0, [])) mc_43 = true := by decide +kernel
set_option maxRecDepth 100000 in
theorem mk_c_44 : mk_meth (mt_ms_1.getD 4 (⟨"", "", ""⟩, code, 0, none, 0, false, 0, [])) mc_44 = true := by decide +kernel
set_option maxRecDepth 100000 in
theorem mk_c_45 : mk_meth (mt_ms_1.getD 5 (⟨"", "", ""⟩, code, 0, none, 0, false, 0, [])) mc_45 = true := by decide +kernel
set_option maxRecDepth 100000 in
theorem mk_c_46 : mk_meth (mt_ms_1.getD 6 (⟨"", "", ""⟩, code, 0, none, 0, false, 0, [])) mc_46 = true := by decide +kernel
set_option maxRecDepth 100000 in
theorem mk_c_47 : mk_meth (mt_ms_1.getD 7 (⟨"", "", ""⟩, code, 0, none, 0, false, 0, [])) mc_47 = true := by decide +kernel
set_option maxRecDepth 100000 in
theorem mk_c_48 : mk_meth (mt_ms_1.getD 8 (⟨"", "", ""⟩, code, 0, none, 0, false, 0, [])) mc_48 = true := by decide +kernel
set_option maxRecDepth 100000 in
theorem mk_c_49 : mk_meth (mt_ms_1.getD 9 (⟨"", "", ""⟩, code, 0, none, 0, false, 0, [])) mc_49 = true := by decide +kernel
set_option maxRecDepth 100000 in
theorem mk_c_50 : mk_meth (mt_ms_1.getD 10 (⟨"", "", ""⟩, code, 0, none, 0, false, 0, [])) mc_50 = true := by decide +kernel
set_option maxRecDepth 100000 in
theorem mk_c_51 : mk_meth (mt_ms_1.getD 11 (⟨"", "", ""⟩, code, 0, none, 0, false, 0, [])) mc_51 = true := by decide +kernel
set_option maxRecDepth 100000 in
theorem mk_c_52 : mk_meth (mt_ms_1.getD 12 (⟨"", "", ""⟩, code, 0, none, 0, false, 0, [])) mc_52 = true := by decide +kernel
set_option maxRecDepth 100000 in
theorem mk_c_53 : mk_meth (mt_ms_1.getD 13 (⟨"", "", ""⟩, code, 0, none, 0, false, 0, [])) mc_53 = true := by decide +kernel
set_option maxRecDepth 100000 in
theorem mk_c_54 : mk_meth (mt_ms_1.getD 14 (⟨"", "", ""⟩, code, 0, none, 0, false, 0, [])) mc_54 = true := by decide +kernel
set_option maxRecDepth 100000 in
theorem mk_c_55 : mk_meth (mt_ms_1.getD 15 (⟨"", "", ""⟩, code, 0, none, 0, false, 0, [])) mc_55 = true := by decide +kernel
set_option maxRecDepth 100000 in
theorem mk_c_56 : mk_meth (mt_ms_1.getD 16 (⟨"", "", ""⟩, code, 0, none, 0, false, 0, [])) mc_56 = true := by decide +kernel
set_option maxRecDepth 100000 in
theorem mk_c_57 : mk_meth (mt_ms_1.getD 17 (⟨"", "", ""⟩, code, 0, none, 0, false, 0, [])) mc_57 = true := by decide +kernel
set_option maxRecDepth 100000 in
theorem mk_c_58 : mk_meth (mt_ms_1.getD 18 (⟨"", "", ""⟩, code, 0, none, 0, false, 0, [])) mc_58 = true := by decide +kernel
set_option maxRecDepth 100000 in
theorem mk_c_59 : mk_meth (mt_ms_1.getD 19 (⟨"", "", ""⟩, code, 0, none, 0, false, 0, [])) mc_59 = true := by decide +kernel
set_option maxRecDepth 100000 in
theorem mk_c_60 : mk_meth (mt_ms_1.getD 20 (⟨"", "", ""⟩, code, 0, none, 0, false, 0, [])) mc_60 = true := by decide +kernel
set_option maxRecDepth 100000 in
theorem mk_c_61 : mk_meth (mt_ms_1.getD 21 (⟨"", "", ""⟩, code, 0, none, 0, false, 0, [])) mc_61 = true := by decide +kernel
set_option maxRecDepth 100000 in
theorem mk_c_62 : mk_meth (mt_ms_1.getD 22 (⟨"", "", ""⟩, code, 0, none, 0, false, 0, [])) mc_62 = true := by decide +kernel
set_option maxRecDepth 100000 in
theorem mk_c_63 : mk_meth (mt_ms_1.getD 23 (⟨"", "", ""⟩, code, 0, none, 0, false, 0, [])) mc_63 = true := by decide +kernel
set_option maxRecDepth 100000 in
theorem mk_c_64 : mk_meth (mt_ms_1.getD 24 (⟨"", "", ""⟩, code, 0, none, 0, false, 0, [])) mc_64 = true := by decide +kernel
set_option maxRecDepth 100000 in
theorem mk_c_65 : mk_meth (mt_ms_1.getD 25 (⟨"", "", ""⟩, code, 0, none, 0, false, 0, [])) mc_65 = true := by decide +kernel
set_option maxRecDepth 100000 in
theorem mk_c_66 : mk_meth (mt_ms_1.getD 26 (⟨"", "", ""⟩, code, 0, none, 0, false, 0, [])) mc_66 = true := by decide +kernel
set_option maxRecDepth 100000 in
theorem mk_c_67 : mk_meth (mt_ms_1.getD 27 (⟨"", "", ""⟩, code, 0, none, 0, false, 0, [])) mc_67 = true := by decide +kernel
set_option maxRecDepth 100000 in
theorem mk_c_68 : mk_meth (mt_ms_1.getD 28 (⟨"", "", ""⟩, code, 0, none, 0, false, 0, [])) mc_68 = true := by decide +kernel
set_option maxRecDepth 100000 in
theorem mk_c_69 : mk_meth (mt_ms_1.getD 29 (⟨"", "", ""⟩, code, 0, none, 0, false, 0, [])) mc_69 = true := by decide +kernel
set_option maxRecDepth 100000 in
theorem mk_c_70 : mk_meth (mt_ms_1.getD 30 (⟨"", "", ""⟩, code, 0, none, 0, false, 0, [])) mc_70 = true := by decide +kernel
set_option maxRecDepth 100000 in
theorem mk_c_71 : mk_meth (mt_ms_1.getD 31 (⟨"", "", ""⟩, code, 0, none, 0, false, 0, [])) mc_71 = true := by decide +kernel
set_option maxRecDepth 100000 in
theorem mk_c_72 : mk_meth (mt_ms_1.getD 32 (⟨"", "", ""⟩, code, 0, none, 0, false, 0, [])) mc_72 = true := by decide +kernel
set_option maxRecDepth 100000 in
theorem mk_c_73 : mk_meth (mt_ms_1.getD 33 (⟨"", "", ""⟩, code, 0, none, 0, false, 0, [])) mc_73 = true := by decide +kernel
set_option maxRecDepth 100000 in
theorem mk_c_74 : mk_meth (mt_ms_1.getD 34 (⟨"", "", ""⟩, code, 0, none, 0, false, 0, [])) mc_74 = true := by decide +kernel
set_option maxRecDepth 100000 in
theorem mk_c_75 : mk_meth (mt_ms_1.getD 35 (⟨"", "", ""⟩, code, 0, none, 0, false, 0, [])) mc_75 = true := by decide +kernel
set_option maxRecDepth 100000 in
theorem mk_c_76 : mk_meth (mt_ms_1.getD 36 (⟨"", "", ""⟩, code, 0, none, 0, false, 0, [])) mc_76 = true := by decide +kernel
set_option maxRecDepth 100000 in
theorem mk_c_77 : mk_meth (mt_ms_1.getD 37 (⟨"", "", ""⟩, code, 0, none, 0, false, 0, [])) mc_77 = true := by decide +kernel
set_option maxRecDepth 100000 in
theorem mk_c_78 : mk_meth (mt_ms_1.getD 38 (⟨"", "", ""⟩, code, 0, none, 0, false, 0, [])) mc_78 = true := by decide +kernel
set_option maxRecDepth 100000 in
theorem mk_c_79 : mk_meth (mt_ms_1.getD 39 (⟨"", "", ""⟩, code, 0, none, 0, false, 0, [])) mc_79 = true := by decide +kernel
theorem mk_code_1 : ∀ q ∈ mt_ms_1.zip mc_l1, mk_meth q.1 q.2 = true := List.forall_mem_cons.mpr ⟨mk_c_40, List.forall_mem_cons.mpr ⟨mk_c_41, List.forall_mem_cons.mpr ⟨mk_c_42, List.forall_mem_cons.mpr ⟨mk_c_43, List.forall_mem_cons.mpr ⟨mk_c_44, List.forall_mem_cons.mpr ⟨mk_c_45, List.forall_mem_cons.mpr ⟨mk_c_46, List.forall_mem_cons.mpr ⟨mk_c_47, List.forall_mem_cons.mpr ⟨mk_c_48, List.forall_mem_cons.mpr ⟨mk_c_49, List.forall_mem_cons.mpr ⟨mk_c_50, List.forall_mem_cons.mpr ⟨mk_c_51, List.forall_mem_cons.mpr ⟨mk_c_52, List.forall_mem_cons.mpr ⟨mk_c_53, List.forall_mem_cons.mpr ⟨mk_c_54, List.forall_mem_cons.mpr ⟨mk_c_55, List.forall_mem_cons.mpr ⟨mk_c_56, List.forall_mem_cons.mpr ⟨mk_c_57, List.forall_mem_cons.mpr ⟨mk_c_58, List.forall_mem_cons.mpr ⟨mk_c_59, List.forall_mem_cons.mpr ⟨mk_c_60, List.forall_mem_cons.mpr ⟨mk_c_61, List.forall_mem_cons.mpr ⟨mk_c_62, List.forall_mem_cons.mpr ⟨mk_c_63, List.forall_mem_cons.mpr ⟨mk_c_64, List.forall_mem_cons.mpr ⟨mk_c_65, List.forall_mem_cons.mpr ⟨mk_c_66, List.forall_mem_cons.mpr ⟨mk_c_67, List.forall_mem_cons.mpr ⟨mk_c_68, List.forall_mem_cons.mpr ⟨mk_c_69, List.forall_mem_cons.mpr ⟨mk_c_70, List.forall_mem_cons.mpr ⟨mk_c_71, List.forall_mem_cons.mpr ⟨mk_c_72, List.forall_mem_cons.mpr ⟨mk_c_73, List.forall_mem_cons.mpr ⟨mk_c_74, List.forall_mem_cons.mpr ⟨mk_c_75, List.forall_mem_cons.mpr ⟨mk_c_76, List.forall_mem_cons.mpr ⟨mk_c_77, List.forall_mem_cons.mpr ⟨mk_c_78, List.forall_mem_cons.mpr ⟨mk_c_79, fun _ h => absurd h List.not_mem_nil⟩⟩⟩⟩⟩⟩⟩⟩⟩⟩⟩⟩⟩⟩⟩⟩⟩⟩⟩⟩⟩⟩⟩⟩⟩⟩⟩⟩⟩⟩⟩⟩⟩⟩⟩⟩⟩⟩⟩⟩
