set_option maxRecDepth 100000 in
theorem mk_c_80 : mk_meth (mt_ms_2.getD 0 (⟨"", "", ""⟩, code, 0, none, 0, false, 0, [])) mc_80 = true := by decide +kernel
set_option maxRecDepth 100000 in
theorem mk_c_81 : mk_meth (mt_ms_2.getD 1 (⟨"", "", ""⟩, code, 0, none, 0, false, 0, [])) mc_81 = true := by decide +kernel
set_option maxRecDepth 100000 in
theorem mk_c_82 : mk_meth (mt_ms_2.getD 2 (⟨"", "", ""⟩, code, 0, none, 0, false, 0, [])) mc_82 = true := by decide +kernel
set_option maxRecDepth 100000 in
theorem mk_c_83 : mk_meth (mt_ms_2.getD 3 (⟨"", "", ""⟩, code, 0, none, 0, false, 0, [])) mc_83 = true := by decide +kernel
set_option maxRecDepth 100000 in
theorem mk_c_84 : mk_meth (mt_ms_2.getD 4 (⟨"", "", ""⟩, code, 0, none, 0, false, 0, [])) mc_84 = true := by decide +kernel
set_option maxRecDepth 100000 in
theorem mk_c_85 : mk_meth (mt_ms_2.getD 5 (⟨"", "", ""⟩, code, 0, none, 0, false, 0, [])) mc_85 = true := by decide +kernel
set_option maxRecDepth 100000 in
theorem mk_c_86 : mk_meth (mt_ms_2.getD 6 (⟨"", "", ""⟩, code, 0, none, 0, false, 0, [])) mc_86 = true := by decide +kernel
set_option maxRecDepth 100000 in
theorem mk_c_87 : mk_meth (mt_ms_2.getD 7 (⟨"", "", ""⟩, code, 0, none, 0, false, 0, [])) mc_87 = true := by decide +kernel
set_option maxRecDepth 100000 in
theorem mk_c_88 : mk_meth (mt_ms_2.getD 8 (⟨"", "", ""⟩, code, 0, none, 0, false, 0, [])) mc_88 = true := by decide +kernel
set_option maxRecDepth 100000 in
theorem mk_c_89 : mk_meth (mt_ms_2.getD 9 (⟨"", "", ""⟩, code, 0, none, 0, false, 0, [])) mc_89 = true := by decide +kernel
set_option maxRecDepth 100000 in
theorem mk_c_90 : mk_meth (mt_ms_2.getD 10 (⟨"", "", ""⟩, code, 0, none, 0, false, 0, [])) mc_90 = true := by decide +kernel
set_option maxRecDepth 100000 in
theorem mk_c_91 : mk_meth (mt_ms_2.getD 11 (⟨"", "", ""⟩, code, 0, none, 0, false, 0, [])) mc_91 = true := by decide +kernel
set_option maxRecDepth 100000 in
theorem mk_c_92 : mk_meth (mt_ms_2.getD 12 (⟨"", "", ""⟩, code, 0, none, 0, false, 0, [])) mc_92 = true := by decide +kernel
set_option maxRecDepth 100000 in
theorem mk_c_93 : mk_meth (mt_ms_2.getD 13 (⟨"", "", ""⟩, code, 0, none, 0, false, 0, [])) mc_93 = true := by decide +kernel
set_option maxRecDepth 100000 in
theorem mk_c_94 : mk_meth (mt_ms_2.getD 14 (⟨"", "", ""⟩, code, 0, none, 0, false, 0, [])) mc_94 = true := by decide +kernel
set_option maxRecDepth 100000 in
theorem mk_c_95 : mk_meth (mt_ms_2.getD 15 (⟨"", "", ""⟩, code, 0, none, 0, false, 0, [])) mc_95 = true := by decide +kernel
set_option maxRecDepth 100000 in
theorem mk_c_96 : mk_meth (mt_ms_2.getD 16 (⟨"", "", ""⟩, code, 0, none, 0, false, 0, [])) mc_96 = true := by decide +kernel
set_option maxRecDepth 100000 in
theorem mk_c_97 : mk_meth (mt_ms_2.getD 17 (⟨"", "", ""⟩, code, 0, none, 0, false, 0, [])) mc_97 = true := by decide +kernel
set_option maxRecDepth 100000 in
theorem mk_c_98 : mk_meth (mt_ms_2.getD 18 (⟨"", "", ""⟩, code, 0, none, 0, false, 0, [])) mc_98 = true := by decide +kernel
set_option maxRecDepth 100000 in
theorem mk_c_99 : mk_meth (mt_ms_2.getD 19 (⟨"", "", ""⟩, code, 0, none, 0, false, 0, [])) mc_99 = true := by decide +kernel
set_option maxRecDepth 100000 in
theorem mk_c_100 : mk_meth (mt_ms_2.getD 20 (⟨"", "", ""⟩, code, 0, none, 0, false, 0, [])) mc_100 = true := by decide +kernel
set_option maxRecDepth 100000 in
theorem mk_c_101 : mk_meth (mt_ms_2.getD 21 (⟨"", "", ""⟩, code, 0, none, 0, false, 0, [])) mc_101 = true := by decide +kernel
set_option maxRecDepth 100000 in
theorem mk_c_102 : mk_meth (mt_ms_2.getD 22 (⟨"", "", ""⟩, code, 0, none, 0, false, 0, [])) mc_102 = true := by decide +kernel
set_option maxRecDepth 100000 in
theorem mk_c_103 : mk_meth (mt_ms_2.getD 23 (⟨"", "", ""⟩, code, 0, none, 0, false, 0, [])) mc_103 = true := by decide +kernel
set_option maxRecDepth 100000 in
theorem mk_c_104 : mk_meth (mt_ms_2.getD 24 (⟨"", "", ""⟩, code, 0, none, 0, false, 0, [])) mc_104 = true := by decide +kernel
set_option maxRecDepth 100000 in
theorem mk_c_105 : mk_meth (mt_ms_2.getD 25 (⟨"", "", ""⟩, code, 0, none, 0, false, 0, [])) mc_105 = true := by decide +kernel
set_option maxRecDepth 100000 in
theorem mk_c_106 : mk_meth (mt_ms_2.getD 26 (⟨"", "", ""⟩, code, 0, none, 0, false, 0, [])) mc_106 = true := by decide +kernel
set_option maxRecDepth 100000 in
theorem mk_c_107 : mk_meth (mt_ms_2.getD 27 (⟨"", "", ""⟩, code, 0, none, 0, false, 0, [])) mc_107 = true := by decide +kernel
set_option maxRecDepth 100000 in
theorem mk_c_108 : mk_meth (mt_ms_2.getD 28 (⟨"", "", ""⟩, code, 0, none, 0, false, 0, [])) mc_108 = true := by decide +kernel
set_option maxRecDepth 100000 in
theorem mk_c_109 : mk_meth (mt_ms_2.getD 29 (⟨"", "", ""⟩, code, 0, none, 0, false, 0, [])) mc_109 = true := by decide +kernel
set_option maxRecDepth 100000 in
theorem mk_c_110 : mk_meth (mt_ms_2.getD 30 (⟨"", "", ""⟩, code, 0, none, 0, false, 0, [])) mc_110 = true := by decide +kernel
set_option maxRecDepth 100000 in
theorem mk_c_111 : mk_meth (mt_ms_2.getD 31 (⟨"", "", ""⟩, code, 0, none, 0, false, 0, [])) mc_111 = true := by decide +kernel
set_option maxRecDepth 100000 in
theorem mk_c_112 : mk_meth (mt_ms_2.getD 32 (⟨"", "", ""⟩, code, 0, none, 0, false, 0, [])) mc_112 = true := by decide +kernel
set_option maxRecDepth 100000 in
theorem mk_c_113 : mk_meth (mt_ms_2.getD 33 (⟨"", "", ""⟩, code, 0, none, 0, false, 0, [])) mc_113 = true := by decide +kernel
set_option maxRecDepth 100000 in
theorem mk_c_114 : mk_meth (mt_ms_2.getD 34 (⟨"", "", ""⟩, code, 0, none, 0, false, 0, [])) mc_114 = true := by decide +kernel
set_option maxRecDepth 100000 in
theorem mk_c_115 : mk_meth (mt_ms_2.getD 35 (⟨"", "", ""⟩, code, 0, none, 0, false, 0, [])) mc_115 = true := by decide +kernel
set_option maxRecDepth 100000 in
theorem mk_c_116 : mk_meth (mt_ms_2.getD 36 (⟨"", "", ""⟩, code, 0, none, 0, false, 0, [])) mc_116 = true := by decide +kernel
set_option maxRecDepth 100000 in
theorem mk_c_117 : mk_meth (mt_ms_2.getD 37 (⟨"", "", ""⟩, code, 0, none, 0, false, 0, [])) mc_117 = true := by decide +kernel
set_option maxRecDepth 100000 in
theorem mk_c_118 : mk_meth (mt_ms_2.getD 38 (⟨"", "", ""⟩, code, 0, none, 0, false, 0, [])) mc_118 = true := by decide +kernel
set_option maxRecDepth 100000 in
theorem mk_c_119 : mk_meth (mt_ms_2.getD 39 (⟨"", "", ""⟩, code, 0, none, 0, false, 0, [])) mc_119 = true := by decide +kernel
theorem mk_code_2 : ∀ q ∈ mt_ms_2.zip mc_l2, mk_meth q.1 q.2 = true := List.forall_mem_cons.mpr ⟨mk_c_80, List.forall_mem_cons.mpr ⟨mk_c_81, List.forall_mem_cons.mpr ⟨mk_c_82, List.forall_mem_cons.mpr ⟨mk_c_83, List.forall_mem_cons.mpr ⟨mk_c_84, List.forall_mem_cons.mpr ⟨mk_c_85, List.forall_mem_cons.mpr ⟨mk_c_86, List.forall_mem_cons.mpr ⟨mk_c_87, List.forall_mem_cons.mpr ⟨mk_c_88, List.forall_mem_cons.mpr ⟨mk_c_89, List.forall_mem_cons.mpr ⟨mk_c_90, List.forall_mem_cons.mpr ⟨mk_c_91, List.forall_mem_cons.mpr ⟨mk_c_92, List.forall_mem_cons.mpr ⟨mk_c_93, List.forall_mem_cons.mpr ⟨mk_c_94, List.forall_mem_cons.mpr ⟨mk_c_95, List.forall_mem_cons.mpr ⟨mk_c_96, List.forall_mem_cons.mpr ⟨mk_c_97, List.forall_mem_cons.mpr ⟨mk_c_98, List.forall_mem_cons.mpr ⟨mk_c_99, List.forall_mem_cons.mpr ⟨mk_c_100, List.forall_mem_cons.mpr ⟨mk_c_101, List.forall_mem_cons.mpr ⟨mk_c_102, List.forall_mem_cons.mpr ⟨mk_c_103, List.forall_mem_cons.mpr ⟨mk_c_104, List.forall_mem_cons.mpr ⟨mk_c_105, List.forall_mem_cons.mpr ⟨mk_c_106, List.forall_mem_cons.mpr ⟨mk_c_107, List.forall_mem_cons.mpr ⟨mk_c_108, List.forall_mem_cons.mpr ⟨mk_c_109, List.forall_mem_cons.mpr ⟨mk_c_110, List.forall_mem_cons.mpr ⟨mk_c_111, List.forall_mem_cons.mpr ⟨mk_c_112, List.forall_mem_cons.mpr ⟨mk_c_113, List.forall_mem_cons.mpr ⟨mk_c_114, List.forall_mem_cons.mpr ⟨mk_c_115, List.forall_mem_cons.mpr ⟨mk_c_116, List.forall_mem_cons.mpr ⟨mk_c_117, List.forall_mem_cons.mpr ⟨mk_c_118, List.forall_mem_cons.mpr ⟨mk_c_119, fun _ h => absurd h List.not_mem_nil⟩⟩⟩⟩⟩⟩⟩⟩⟩⟩⟩⟩⟩⟩⟩⟩⟩⟩⟩⟩⟩⟩⟩⟩⟩⟩⟩⟩⟩⟩⟩⟩⟩⟩⟩⟩⟩⟩⟩⟩
