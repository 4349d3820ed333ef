set_option maxRecDepth 100000 in
theorem mk_c_160 : mk_meth (mt_ms_4.getD 0 (⟨"", "", ""⟩, code, 0, none, 0, false, 0, [])) mc_160 = true := by decide +kernel
set_option maxRecDepth 100000 in
theorem mk_c_161 : mk_meth (mt_ms_4.getD 1 (⟨"", "", ""⟩, code, 0, none, 0, false, 0, [])) mc_161 = true := by decide +kernel
set_option maxRecDepth 100000 in
theorem mk_c_162 : mk_meth (mt_ms_4.getD 2 (⟨"", "", ""⟩, code, 0, none, 0, false, 0, [])) mc_162 = true := by decide +kernel
set_option maxRecDepth 100000 in
theorem mk_c_163 : mk_meth (mt_ms_4.getD 3 (⟨"", "", ""⟩, code, 0, none, 0, false, 0, [])) mc_163 = true := by decide +kernel
set_option maxRecDepth 100000 in
theorem mk_c_164 : mk_meth (mt_ms_4.getD 4 (⟨"", "", ""⟩, code, 0, none, 0, false, 0, [])) mc_164 = true := by decide +kernel
set_option maxRecDepth 100000 in
theorem mk_c_165 : mk_meth (mt_ms_4.getD 5 (⟨"", "", ""⟩, code, 0, none, 0, false, 0, [])) mc_165 = true := by decide +kernel
set_option maxRecDepth 100000 in
theorem mk_c_166 : mk_meth (mt_ms_4.getD 6 (⟨"", "", ""⟩, code, 0, none, 0, false, 0, [])) mc_166 = true := by decide +kernel
set_option maxRecDepth 100000 in
theorem mk_c_167 : mk_meth (mt_ms_4.getD 7 (⟨"", "", ""⟩, code, 0, none, 0, false, 0, [])) mc_167 = true := by decide +kernel
set_option maxRecDepth 100000 in
theorem mk_c_168 : mk_meth (mt_ms_4.getD 8 (⟨"", "", ""⟩, code, 0, none, 0, false, 0, [])) mc_168 = true := by decide +kernel
set_option maxRecDepth 100000 in
theorem mk_c_169 : mk_meth (mt_ms_4.getD 9 (⟨"", "", ""⟩, code, 0, none, 0, false, 0, [])) mc_169 = true := by decide +kernel
set_option maxRecDepth 100000 in
theorem mk_c_170 : mk_meth (mt_ms_4.getD 10 (⟨"", "", ""⟩, code, 0, none, 0, false, 0, [])) mc_170 = true := by decide +kernel
set_option maxRecDepth 100000 in
theorem mk_c_171 : mk_meth (mt_ms_4.getD 11 (⟨"", "", ""⟩, code, 0, none, 0, false, 0, [])) mc_171 = true := by decide +kernel
set_option maxRecDepth 100000 in
theorem mk_c_172 : mk_meth (mt_ms_4.getD 12 (⟨"", "", ""⟩, code, 0, none, 0, false, 0, [])) mc_172 = true := by decide +kernel
set_option maxRecDepth 100000 in
theorem mk_c_173 : mk_meth (mt_ms_4.getD 13 (⟨"", "", ""⟩, code, 0, none, 0, false, 0, [])) mc_173 = true := by decide +kernel
set_option maxRecDepth 100000 in
theorem mk_c_174 : mk_meth (mt_ms_4.getD 14 (⟨"", "", ""⟩, code, 0, none, 0, false, 0, [])) mc_174 = true := by decide +kernel
set_option maxRecDepth 100000 in
theorem mk_c_175 : mk_meth (mt_ms_4.getD 15 (⟨"", "", ""⟩, code, 0, none, 0, false, 0, [])) mc_175 = true := by decide +kernel
set_option maxRecDepth 100000 in
theorem mk_c_176 : mk_meth (mt_ms_4.getD 16 (⟨"", "", ""⟩, code, 0, none, 0, false, 0, [])) mc_176 = true := by decide +kernel
set_option maxRecDepth 100000 in
theorem mk_c_177 : mk_meth (mt_ms_4.getD 17 (⟨"", "", ""⟩, code, 0, none, 0, false, 0, [])) mc_177 = true := by decide +kernel
set_option maxRecDepth 100000 in
theorem mk_c_178 : mk_meth (mt_ms_4.getD 18 (⟨"", "", ""⟩, code, 0, none, 0, false, 0, [])) mc_178 = true := by decide +kernel
set_option maxRecDepth 100000 in
theorem mk_c_179 : mk_meth (mt_ms_4.getD 19 (⟨"", "", ""⟩, code, 0, none, 0, false, 0, [])) mc_179 = true := by decide +kernel
set_option maxRecDepth 100000 in
theorem mk_c_180 : mk_meth (mt_ms_4.getD 20 (⟨"", "", ""⟩, code, 0, none, 0, false, 0, [])) mc_180 = true := by decide +kernel
set_option maxRecDepth 100000 in
theorem mk_c_181 : mk_meth (mt_ms_4.getD 21 (⟨"", "", ""⟩, code, 0, none, 0, false, 0, [])) mc_181 = true := by decide +kernel
set_option maxRecDepth 100000 in
theorem mk_c_182 : mk_meth (mt_ms_4.getD 22 (⟨"", "", ""⟩, code, 0, none, 0, false, 0, [])) mc_182 = true := by decide +kernel
set_option maxRecDepth 100000 in
theorem mk_c_183 : mk_meth (mt_ms_4.getD 23 (⟨"", "", ""⟩, code, 0, none, 0, false, 0, [])) mc_183 = true := by decide +kernel
set_option maxRecDepth 100000 in
theorem mk_c_184 : mk_meth (mt_ms_4.getD 24 (⟨"", "", ""⟩, code, 0, none, 0, false, 0, [])) mc_184 = true := by decide +kernel
set_option maxRecDepth 100000 in
theorem mk_c_185 : mk_meth (mt_ms_4.getD 25 (⟨"", "", ""⟩, code, 0, none, 0, false, 0, [])) mc_185 = true := by decide +kernel
set_option maxRecDepth 100000 in
theorem mk_c_186 : mk_meth (mt_ms_4.getD 26 (⟨"", "", ""⟩, code, 0, none, 0, false, 0, [])) mc_186 = true := by decide +kernel
set_option maxRecDepth 100000 in
theorem mk_c_187 : mk_meth (mt_ms_4.getD 27 (⟨"", "", ""⟩, code, 0, none, 0, false, 0, [])) mc_187 = true := by decide +kernel
set_option maxRecDepth 100000 in
theorem mk_c_188 : mk_meth (mt_ms_4.getD 28 (⟨"", "", ""⟩, code, 0, none, 0, false, 0, [])) mc_188 = true := by decide +kernel
set_option maxRecDepth 100000 in
theorem mk_c_189 : mk_meth (mt_ms_4.getD 29 (⟨"", "", ""⟩, code, 0, none, 0, false, 0, [])) mc_189 = true := by decide +kernel
set_option maxRecDepth 100000 in
theorem mk_c_190 : mk_meth (mt_ms_4.getD 30 (⟨"", "", ""⟩, code, 0, none, 0, false, 0, [])) mc_190 = true := by decide +kernel
set_option maxRecDepth 100000 in
theorem mk_c_191 : mk_meth (mt_ms_4.getD 31 (⟨"", "", ""⟩, code, 0, none, 0, false, 0, [])) mc_191 = true := by decide +kernel
set_option maxRecDepth 100000 in
theorem mk_c_192 : mk_meth (mt_ms_4.getD 32 (⟨"", "", ""⟩, code, 0, none, 0, false, 0, [])) mc_192 = true := by decide +kernel
set_option maxRecDepth 100000 in
theorem mk_c_193 : mk_meth (mt_ms_4.getD 33 (⟨"", "", ""⟩, code, 0, none, 0, false, 0, [])) mc_193 = true := by decide +kernel
set_option maxRecDepth 100000 in
theorem mk_c_194 : mk_meth (mt_ms_4.getD 34 (⟨"", "", ""⟩, code, 0, none, 0, false, 0, [])) mc_194 = true := by decide +kernel
set_option maxRecDepth 100000 in
theorem mk_c_195 : mk_meth (mt_ms_4.getD 35 (⟨"", "", ""⟩, code, 0, none, 0, false, 0, [])) mc_195 = true := by decide +kernel
set_option maxRecDepth 100000 in
theorem mk_c_196 : mk_meth (mt_ms_4.getD 36 (⟨"", "", ""⟩, code, 0, none, 0, false, 0, [])) mc_196 = true := by decide +kernel
set_option maxRecDepth 100000 in
theorem mk_c_197 : mk_meth (mt_ms_4.getD 37 (⟨"", "", ""⟩, code, 0, none, 0, false, 0, [])) mc_197 = true := by decide +kernel
set_option maxRecDepth 100000 in
theorem mk_c_198 : mk_meth (mt_ms_4.getD 38 (⟨"", "", ""⟩, code, 0, none, 0, false, 0, [])) mc_198 = true := by decide +kernel
set_option maxRecDepth 100000 in
theorem mk_c_199 : mk_meth (mt_ms_4.getD 39 (⟨"", "", ""⟩, code, 0, none, 0, false, 0, [])) mc_199 = true := by decide +kernel
theorem mk_code_4 : ∀ q ∈ mt_ms_4.zip mc_l4, mk_meth q.1 q.2 = true := List.forall_mem_cons.mpr ⟨mk_c_160, List.forall_mem_cons.mpr ⟨mk_c_161, List.forall_mem_cons.mpr ⟨mk_c_162, List.forall_mem_cons.mpr ⟨mk_c_163, List.forall_mem_cons.mpr ⟨mk_c_164, List.forall_mem_cons.mpr ⟨mk_c_165, List.forall_mem_cons.mpr ⟨mk_c_166, List.forall_mem_cons.mpr ⟨mk_c_167, List.forall_mem_cons.mpr ⟨mk_c_168, List.forall_mem_cons.mpr ⟨mk_c_169, List.forall_mem_cons.mpr ⟨mk_c_170, List.forall_mem_cons.mpr ⟨mk_c_171, List.forall_mem_cons.mpr ⟨mk_c_172, List.forall_mem_cons.mpr ⟨mk_c_173, List.forall_mem_cons.mpr ⟨mk_c_174, List.forall_mem_cons.mpr ⟨mk_c_175, List.forall_mem_cons.mpr ⟨mk_c_176, List.forall_mem_cons.mpr ⟨mk_c_177, List.forall_mem_cons.mpr ⟨mk_c_178, List.forall_mem_cons.mpr ⟨mk_c_179, List.forall_mem_cons.mpr ⟨mk_c_180, List.forall_mem_cons.mpr ⟨mk_c_181, List.forall_mem_cons.mpr ⟨mk_c_182, List.forall_mem_cons.mpr ⟨mk_c_183, List.forall_mem_cons.mpr ⟨mk_c_184, List.forall_mem_cons.mpr ⟨mk_c_185, List.forall_mem_cons.mpr ⟨mk_c_186, List.forall_mem_cons.mpr ⟨mk_c_187, List.forall_mem_cons.mpr ⟨mk_c_188, List.forall_mem_cons.mpr ⟨mk_c_189, List.forall_mem_cons.mpr ⟨mk_c_190, List.forall_mem_cons.mpr ⟨mk_c_191, List.forall_mem_cons.mpr ⟨mk_c_192, List.forall_mem_cons.mpr ⟨mk_c_193, List.forall_mem_cons.mpr ⟨mk_c_194, List.forall_mem_cons.mpr ⟨mk_c_195, List.forall_mem_cons.mpr ⟨mk_c_196, List.forall_mem_cons.mpr ⟨mk_c_197, List.forall_mem_cons.mpr ⟨mk_c_198, List.forall_mem_cons.mpr ⟨mk_c_199, fun _ h => absurd h List.not_mem_nil⟩⟩⟩⟩⟩⟩⟩⟩⟩⟩⟩⟩⟩⟩⟩⟩⟩⟩⟩⟩⟩⟩⟩⟩⟩⟩⟩⟩⟩⟩⟩⟩⟩⟩⟩⟩⟩⟩⟩⟩
