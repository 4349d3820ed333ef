def mk_uT (c : String × List (String × String × Bool)) : u_T := fun k => match c.2[k]? with
  | some f => (c.1, f.1, f.2.1, f.2.2)
  | none => ("", "", "", false)
def mk_lpw (ci : Nat) : Bool := match mt_cls[ci]? with
  | some c => (List.range c.2.length).all fun k => mk_w (93 + (mt_lp.getD ci []).getD k 0) (u_lay c.1 (mk_uT c) k)
  | none => false
set_option maxRecDepth 100000 in
theorem mk_lpw_ok : (List.range 11).all mk_lpw = true := by decide +kernel
/-- an object's size is its class's -/
def mk_sz (k : Nat) : Bool := match mt_cls[(mm_T k).1]? with
  | some c => decide ((mm_T k).2 = c.2.length)
  | none => true
set_option maxRecDepth 100000 in
theorem mk_sz_ok : (List.range mm_N).all mk_sz = true := by decide +kernel
/-- fields of a class have names of their own, and descriptors that can be read -/
def mk_nm (c : String × List (String × String × Bool)) : Bool := (List.range c.2.length).all fun a => (List.range c.2.length).all fun b => decide (a = b) || decide ((mk_uT c a).2.1 ≠ (mk_uT c b).2.1)
set_option maxRecDepth 100000 in
theorem mk_nm_ok : mt_cls.all mk_nm = true := by decide +kernel
def mk_dsc (c : String × List (String × String × Bool)) : Bool := (List.range c.2.length).all fun a => (parseFieldDescriptor (mk_uT c a).2.2.1).isSome
set_option maxRecDepth 100000 in
theorem mk_dsc_ok : mt_cls.all mk_dsc = true := by decide +kernel
set_option maxRecDepth 100000 in
theorem mk_flw_ok : mt_fl.all mk_flw = true := by decide +kernel
set_option maxRecDepth 100000 in
theorem mk_sfw_ok : mt_sf.all mk_sfw = true := by decide +kernel
set_option maxRecDepth 100000 in
theorem mk_ciw_ok : mt_ci.all mk_ciw = true := by decide +kernel
set_option maxRecDepth 100000 in
theorem mk_clw_ok : mt_cl.all mk_clw = true := by decide +kernel
set_option maxRecDepth 100000 in
theorem mk_mlw_ok : mt_ml.all mk_mlw = true := by decide +kernel
set_option maxRecDepth 100000 in
theorem mk_words_0 : mt_ms_0.all mk_words = true := by decide +kernel
set_option maxRecDepth 100000 in
theorem mk_words_1 : mt_ms_1.all mk_words = true := by decide +kernel
set_option maxRecDepth 100000 in
theorem mk_words_2 : mt_ms_2.all mk_words = true := by decide +kernel
set_option maxRecDepth 100000 in
theorem mk_words_3 : mt_ms_3.all mk_words = true := by decide +kernel
set_option maxRecDepth 100000 in
theorem mk_words_4 : mt_ms_4.all mk_words = true := by decide +kernel
set_option maxRecDepth 100000 in
theorem mk_words_5 : (mt_ms_5.take 21).all mk_words = true := by decide +kernel
