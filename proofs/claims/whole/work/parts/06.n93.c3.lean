set_option maxRecDepth 100000 in
theorem mk_c_120 : mk_meth (mt_ms_3.getD 0 (⟨"", "", ""⟩, code, 0, none, 0, false, 0, [])) mc_120 = true := by decide +kernel
set_option maxRecDepth 100000 in
theorem mk_c_121 : mk_meth (mt_ms_3.getD 1 (⟨"", "", ""⟩, code, 0, none, 0, false, 0, [])) mc_121 = true := by decide +kernel
set_option maxRecDepth 100000 in
theorem mk_c_122 : mk_meth (mt_ms_3.getD 2 (⟨"", "", ""⟩, code, 0, none, 0, false, 0, [])) mc_122 = true := by decide +kernel
set_option maxRecDepth 100000 in
theorem mk_c_123 : mk_meth (mt_ms_3.getD 3 (⟨"", "", ""⟩, code, 0, none, 0, false, 0, [])) mc_123 = true := by decide +kernel
set_option maxRecDepth 100000 in
theorem mk_c_124 : mk_meth (mt_ms_3.getD 4 (⟨"", "", ""⟩, code, 0, none, 0, false, 0, [])) mc_124 = true := by decide +kernel
set_option maxRecDepth 100000 in
theorem mk_c_125 : mk_meth (mt_ms_3.getD 5 (⟨"", "", ""⟩, code, 0, none, 0, false, 0, [])) mc_125 = true := by decide +kernel
set_option maxRecDepth 100000 in
theorem mk_c_126 : mk_meth (mt_ms_3.getD 6 (⟨"", "", ""⟩, code, 0, none, 0, false, 0, [])) mc_126 = true := by decide +kernel
set_option maxRecDepth 100000 in
theorem mk_c_127 : mk_meth (mt_ms_3.getD 7 (⟨"", "", ""⟩, code, 0, none, 0, false, 0, [])) mc_127 = true := by decide +kernel
set_option maxRecDepth 100000 in
theorem mk_c_128 : mk_meth (mt_ms_3.getD 8 (⟨"", "", ""⟩, code, 0, none, 0, false, 0, [])) mc_128 = true := by decide +kernel
set_option maxRecDepth 100000 in
theorem mk_c_129 : mk_meth (mt_ms_3.getD 9 (⟨"", "", ""⟩, code, 0, none, 0, false, 0, [])) mc_129 = true := by decide +kernel
set_option maxRecDepth 100000 in
theorem mk_c_130 : mk_meth (mt_ms_3.getD 10 (⟨"", "", ""⟩, code, 0, none, 0, false, 0, [])) mc_130 = true := by decide +kernel
set_option maxRecDepth 100000 in
theorem mk_c_131 : mk_meth (mt_ms_3.getD 11 (⟨"", "", ""⟩, code, 0, none, 0, false, 0, [])) mc_131 = true := by decide +kernel
set_option maxRecDepth 100000 in
theorem mk_c_132 : mk_meth (mt_ms_3.getD 12 (⟨"", "", ""⟩, code, 0, none, 0, false, 0, [])) mc_132 = true := by decide +kernel
set_option maxRecDepth 100000 in
theorem mk_c_133 : mk_meth (mt_ms_3.getD 13 (⟨"", "", ""⟩, code, 0, none, 0, false, 0, [])) mc_133 = true := by decide +kernel
set_option maxRecDepth 100000 in
theorem mk_c_134 : mk_meth (mt_ms_3.getD 14 (⟨"", "", ""⟩, code, 0, none, 0, false, 0, [])) mc_134 = true := by decide +kernel
set_option maxRecDepth 100000 in
theorem mk_c_135 : mk_meth (mt_ms_3.getD 15 (⟨"", "", ""⟩, code, 0, none, 0, false, 0, [])) mc_135 = true := by decide +kernel
set_option maxRecDepth 100000 in
theorem mk_c_136 : mk_meth (mt_ms_3.getD 16 (⟨"", "", ""⟩, code, 0, none, 0, false, 0, [])) mc_136 = true := by decide +kernel
set_option maxRecDepth 100000 in
theorem mk_c_137 : mk_meth (mt_ms_3.getD 17 (⟨"", "", ""⟩, code, 0, none, 0, false, 0, [])) mc_137 = true := by decide +kernel
set_option maxRecDepth 100000 in
theorem mk_c_138 : mk_meth (mt_ms_3.getD 18 (⟨"", "", ""⟩, code, 0, none, 0, false, 0, [])) mc_138 = true := by decide +kernel
set_option maxRecDepth 100000 in
theorem mk_c_139 : mk_meth (mt_ms_3.getD 19 (⟨"", "", ""⟩, code, 0, none, 0, false, 0, [])) mc_139 = true := by decide +kernel
set_option maxRecDepth 100000 in
theorem mk_c_140 : mk_meth (mt_ms_3.getD 20 (⟨"", "", ""⟩, code, 0, none, 0, false, 0, [])) mc_140 = true := by decide +kernel
set_option maxRecDepth 100000 in
theorem mk_c_141 : mk_meth (mt_ms_3.getD 21 (⟨"", "", ""⟩, code, 0, none, 0, false, 0, [])) mc_141 = true := by decide +kernel
set_option maxRecDepth 100000 in
theorem mk_c_142 : mk_meth (mt_ms_3.getD 22 (⟨"", "", ""⟩, code, 0, none, 0, false, 0, [])) mc_142 = true := by decide +kernel
set_option maxRecDepth 100000 in
theorem mk_c_143 : mk_meth (mt_ms_3.getD 23 (⟨"", "", ""⟩, code, 0, none, 0, false, 0, [])) mc_143 = true := by decide +kernel
set_option maxRecDepth 100000 in
theorem mk_c_144 : mk_meth (mt_ms_3.getD 24 (⟨"", "", ""⟩, code, 0, none, 0, false, 0, [])) mc_144 = true := by decide +kernel
set_option maxRecDepth 100000 in
theorem mk_c_145 : mk_meth (mt_ms_3.getD 25 (⟨"", "", ""⟩, code, 0, none, 0, false, 0, [])) mc_145 = true := by decide +kernel
set_option maxRecDepth 100000 in
theorem mk_c_146 : mk_meth (mt_ms_3.getD 26 (⟨"", "", ""⟩, code, 0, none, 0, false, 0, [])) mc_146 = true := by decide +kernel
set_option maxRecDepth 100000 in
theorem mk_c_147 : mk_meth (mt_ms_3.getD 27 (⟨"", "", ""⟩, code, 0, none, 0, false, 0, [])) mc_147 = true := by decide +kernel
set_option maxRecDepth 100000 in
theorem mk_c_148 : mk_meth (mt_ms_3.getD 28 (⟨"", "", ""⟩, code, 0, none, 0, false, 0, [])) mc_148 = true := by decide +kernel
set_option maxRecDepth 100000 in
theorem mk_c_149 : mk_meth (mt_ms_3.getD 29 (⟨"", "", ""⟩, code, 0, none, 0, false, 0, [])) mc_149 = true := by decide +kernel
set_option maxRecDepth 100000 in
theorem mk_c_150 : mk_meth (mt_ms_3.getD 30 (⟨"", "", ""⟩, code, 0, none, 0, false, 0, [])) mc_150 = true := by decide +kernel
set_option maxRecDepth 100000 in
theorem mk_c_151 : mk_meth (mt_ms_3.getD 31 (⟨"", "", ""⟩, code, 0, none, 0, false, 0, [])) mc_151 = true := by decide +kernel
set_option maxRecDepth 100000 in
theorem mk_c_152 : mk_meth (mt_ms_3.getD 32 (⟨"", "", ""⟩, code, 0, none, 0, false, 0, [])) mc_152 = true := by decide +kernel
set_option maxRecDepth 100000 in
theorem mk_c_153 : mk_meth (mt_ms_3.getD 33 (⟨"", "", ""⟩, code, 0, none, 0, false, 0, [])) mc_153 = true := by decide +kernel
set_option maxRecDepth 100000 in
theorem mk_c_154 : mk_meth (mt_ms_3.getD 34 (⟨"", "", ""⟩, code, 0, none, 0, false, 0, [])) mc_154 = true := by decide +kernel
set_option maxRecDepth 100000 in
theorem mk_c_155 : mk_meth (mt_ms_3.getD 35 (⟨"", "", ""⟩, code, 0, none, 0, false, 0, [])) mc_155 = true := by decide +kernel
set_option maxRecDepth 100000 in
theorem mk_c_156 : mk_meth (mt_ms_3.getD 36 (⟨"", "", ""⟩, code, 0, none, 0, false, 0, [])) mc_156 = true := by decide +kernel
set_option maxRecDepth 100000 in
theorem mk_c_157 : mk_meth (mt_ms_3.getD 37 (⟨"", "", ""⟩, code, 0, none, 0, false, 0, [])) mc_157 = true := by decide +kernel
set_option maxRecDepth 100000 in
theorem mk_c_158 : mk_meth (mt_ms_3.getD 38 (⟨"", "", ""⟩, code, 0, none, 0, false, 0, [])) mc_158 = true := by decide +kernel
set_option maxRecDepth 100000 in
theorem mk_c_159 : mk_meth (mt_ms_3.getD 39 (⟨"", "", ""⟩, code, 0, none, 0, false, 0, [])) mc_159 = true := by decide +kernel
theorem mk_code_3 : ∀ q ∈ mt_ms_3.zip mc_l3, mk_meth q.1 q.2 = true := List.forall_mem_cons.mpr ⟨mk_c_120, List.forall_mem_cons.mpr ⟨mk_c_121, List.forall_mem_cons.mpr ⟨mk_c_122, List.forall_mem_cons.mpr ⟨mk_c_123, List.forall_mem_cons.mpr ⟨mk_c_124, List.forall_mem_cons.mpr ⟨mk_c_125, List.forall_mem_cons.mpr ⟨mk_c_126, List.forall_mem_cons.mpr ⟨mk_c_127, List.forall_mem_cons.mpr ⟨mk_c_128, List.forall_mem_cons.mpr ⟨mk_c_129, List.forall_mem_cons.mpr ⟨mk_c_130, List.forall_mem_cons.mpr ⟨mk_c_131, List.forall_mem_cons.mpr ⟨mk_c_132, List.forall_mem_cons.mpr ⟨mk_c_133, List.forall_mem_cons.mpr ⟨mk_c_134, List.forall_mem_cons.mpr ⟨mk_c_135, List.forall_mem_cons.mpr ⟨mk_c_136, List.forall_mem_cons.mpr ⟨mk_c_137, List.forall_mem_cons.mpr ⟨mk_c_138, List.forall_mem_cons.mpr ⟨mk_c_139, List.forall_mem_cons.mpr ⟨mk_c_140, List.forall_mem_cons.mpr ⟨mk_c_141, List.forall_mem_cons.mpr ⟨mk_c_142, List.forall_mem_cons.mpr ⟨mk_c_143, List.forall_mem_cons.mpr ⟨mk_c_144, List.forall_mem_cons.mpr ⟨mk_c_145, List.forall_mem_cons.mpr ⟨mk_c_146, List.forall_mem_cons.mpr ⟨mk_c_147, List.forall_mem_cons.mpr ⟨mk_c_148, List.forall_mem_cons.mpr ⟨mk_c_149, List.forall_mem_cons.mpr ⟨mk_c_150, List.forall_mem_cons.mpr ⟨mk_c_151, List.forall_mem_cons.mpr ⟨mk_c_152, List.forall_mem_cons.mpr ⟨mk_c_153, List.forall_mem_cons.mpr ⟨mk_c_154, List.forall_mem_cons.mpr ⟨mk_c_155, List.forall_mem_cons.mpr ⟨mk_c_156, List.forall_mem_cons.mpr ⟨mk_c_157, List.forall_mem_cons.mpr ⟨mk_c_158, List.forall_mem_cons.mpr ⟨mk_c_159, fun _ h => absurd h List.not_mem_nil⟩⟩⟩⟩⟩⟩⟩⟩⟩⟩⟩⟩⟩⟩⟩⟩⟩⟩⟩⟩⟩⟩⟩⟩⟩⟩⟩⟩⟩⟩⟩⟩⟩⟩⟩⟩⟩⟩⟩⟩
