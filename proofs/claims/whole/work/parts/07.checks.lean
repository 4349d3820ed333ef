set_option maxRecDepth 100000 in
theorem mk_words_0 : mt_ms_0.all mk_words = true := by decide +kernel
set_option maxRecDepth 100000 in
theorem mk_words_1 : mt_ms_1.all mk_words = true := by decide +kernel
set_option maxRecDepth 100000 in
theorem mk_words_2 : mt_ms_2.all mk_words = true := by decide +kernel
set_option maxRecDepth 100000 in
theorem mk_words_3 : mt_ms_3.all mk_words = true := by decide +kernel
set_option maxRecDepth 100000 in
theorem mk_words_4 : mt_ms_4.all mk_words = true := by decide +kernel
set_option maxRecDepth 100000 in
theorem mk_words_5 : (mt_ms_5.take 21).all mk_words = true := by decide +kernel
