set_option maxRecDepth 100000 in
theorem mk_c_200 : mk_meth (mt_ms_5.getD 0 (⟨"", "", ""⟩, code, 0, none, 0, false, 0, [])) mc_200 = true := by decide +kernel
set_option maxRecDepth 100000 in
theorem mk_c_201 : mk_meth (mt_ms_5.getD 1 (⟨"", "", ""⟩, code, 0, none, 0, false, 0, [])) mc_201 = true := by decide +kernel
set_option maxRecDepth 100000 in
theorem mk_c_202 : mk_meth (mt_ms_5.getD 2 (⟨"", "", ""⟩, code, 0, none, 0, false, 0, [])) mc_202 = true := by decide +kernel
set_option maxRecDepth 100000 in
theorem mk_c_203 : mk_meth (mt_ms_5.getD 3 (⟨"", "", ""⟩, code, 0, none, 0, false, 0, [])) mc_203 = true := by decide +kernel
set_option maxRecDepth 100000 in
theorem mk_c_204 : mk_meth (mt_ms_5.getD 4 (⟨"", "", ""⟩, code, 0, none, 0, false, 0, [])) mc_204 = true := by decide +kernel
set_option maxRecDepth 100000 in
theorem mk_c_205 : mk_meth (mt_ms_5.getD 5 (⟨"", "", ""⟩, code, 0, none, 0, false, 0, [])) mc_205 = true := by decide +kernel
set_option maxRecDepth 100000 in
theorem mk_c_206 : mk_meth (mt_ms_5.getD 6 (⟨"", "", ""⟩, code, 0, none, 0, false, 0, [])) mc_206 = true := by decide +kernel
set_option maxRecDepth 100000 in
theorem mk_c_207 : mk_meth (mt_ms_5.getD 7 (⟨"", "", ""⟩, code, 0, none, 0, false, 0, [])) mc_207 = true := by decide +kernel
set_option maxRecDepth 100000 in
theorem mk_c_208 : mk_meth (mt_ms_5.getD 8 (⟨"", "", ""⟩, code, 0, none, 0, false, 0, [])) mc_208 = true := by decide +kernel
set_option maxRecDepth 100000 in
theorem mk_c_209 : mk_meth (mt_ms_5.getD 9 (⟨"", "", ""⟩, code, 0, none, 0, false, 0, [])) mc_209 = true := by decide +kernel
set_option maxRecDepth 100000 in
theorem mk_c_210 : mk_meth (mt_ms_5.getD 10 (⟨"", "", ""⟩, code, 0, none, 0, false, 0, [])) mc_210 = true := by decide +kernel
set_option maxRecDepth 100000 in
theorem mk_c_211 : mk_meth (mt_ms_5.getD 11 (⟨"", "", ""⟩, code, 0, none, 0, false, 0, [])) mc_211 = true := by decide +kernel
set_option maxRecDepth 100000 in
theorem mk_c_212 : mk_meth (mt_ms_5.getD 12 (⟨"", "", ""⟩, code, 0, none, 0, false, 0, [])) mc_212 = true := by decide +kernel
set_option maxRecDepth 100000 in
theorem mk_c_213 : mk_meth (mt_ms_5.getD 13 (⟨"", "", ""⟩, code, 0, none, 0, false, 0, [])) mc_213 = true := by decide +kernel
set_option maxRecDepth 100000 in
theorem mk_c_214 : mk_meth (mt_ms_5.getD 14 (⟨"", "", ""⟩, code, 0, none, 0, false, 0, [])) mc_214 = true := by decide +kernel
set_option maxRecDepth 100000 in
theorem mk_c_215 : mk_meth (mt_ms_5.getD 15 (⟨"", "", ""⟩, code, 0, none, 0, false, 0, [])) mc_215 = true := by decide +kernel
set_option maxRecDepth 100000 in
theorem mk_c_216 : mk_meth (mt_ms_5.getD 16 (⟨"", "", ""⟩, code, 0, none, 0, false, 0, [])) mc_216 = true := by decide +kernel
set_option maxRecDepth 100000 in
theorem mk_c_217 : mk_meth (mt_ms_5.getD 17 (⟨"", "", ""⟩, code, 0, none, 0, false, 0, [])) mc_217 = true := by decide +kernel
set_option maxRecDepth 100000 in
theorem mk_c_218 : mk_meth (mt_ms_5.getD 18 (⟨"", "", ""⟩, code, 0, none, 0, false, 0, [])) mc_218 = true := by decide +kernel
set_option maxRecDepth 100000 in
theorem mk_c_219 : mk_meth (mt_ms_5.getD 19 (⟨"", "", ""⟩, code, 0, none, 0, false, 0, [])) mc_219 = true := by decide +kernel
set_option maxRecDepth 100000 in
theorem mk_c_220 : mk_meth (mt_ms_5.getD 20 (⟨"", "", ""⟩, code, 0, none, 0, false, 0, [])) mc_220 = true := by decide +kernel
set_option maxRecDepth 100000 in
theorem mk_c_221_0 : mk_bks code 13 4 3 mc_221_0 = true := by decide +kernel
set_option maxRecDepth 100000 in
theorem mk_c_221_1 : mk_bks code 13 4 3 mc_221_1 = true := by decide +kernel
set_option maxRecDepth 100000 in
theorem mk_c_221_2 : mk_bks code 13 4 3 mc_221_2 = true := by decide +kernel
set_option maxRecDepth 100000 in
theorem mk_c_221_3 : mk_bks code 13 4 3 mc_221_3 = true := by decide +kernel
theorem mk_c_221 : mk_meth (mt_ms_5.getD 21 (⟨"", "", ""⟩, code, 0, none, 0, false, 0, [])) mc_221 = true := mk_bks_app (mk_bks_app (mk_bks_app (mk_c_221_0) mk_c_221_1) mk_c_221_2) mk_c_221_3
theorem mk_code_5 : ∀ q ∈ mt_ms_5.zip mc_l5, mk_meth q.1 q.2 = true := List.forall_mem_cons.mpr ⟨mk_c_200, List.forall_mem_cons.mpr ⟨mk_c_201, List.forall_mem_cons.mpr ⟨mk_c_202, List.forall_mem_cons.mpr ⟨mk_c_203, List.forall_mem_cons.mpr ⟨mk_c_204, List.forall_mem_cons.mpr ⟨mk_c_205, List.forall_mem_cons.mpr ⟨mk_c_206, List.forall_mem_cons.mpr ⟨mk_c_207, List.forall_mem_cons.mpr ⟨mk_c_208, List.forall_mem_cons.mpr ⟨mk_c_209, List.forall_mem_cons.mpr ⟨mk_c_210, List.forall_mem_cons.mpr ⟨mk_c_211, List.forall_mem_cons.mpr ⟨mk_c_212, List.forall_mem_cons.mpr ⟨mk_c_213, List.forall_mem_cons.mpr ⟨mk_c_214, List.forall_mem_cons.mpr ⟨mk_c_215, List.forall_mem_cons.mpr ⟨mk_c_216, List.forall_mem_cons.mpr ⟨mk_c_217, List.forall_mem_cons.mpr ⟨mk_c_218, List.forall_mem_cons.mpr ⟨mk_c_219, List.forall_mem_cons.mpr ⟨mk_c_220, List.forall_mem_cons.mpr ⟨mk_c_221, fun _ h => absurd h List.not_mem_nil⟩⟩⟩⟩⟩⟩⟩⟩⟩⟩⟩⟩⟩⟩⟩⟩⟩⟩⟩⟩⟩⟩
