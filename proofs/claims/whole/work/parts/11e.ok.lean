set_option maxRecDepth 100000 in
theorem ok_309_0 : (t_L_main_0.all fun r => r.all fun q => okE 309 q.1 q.2) = true := by decide +kernel
set_option maxRecDepth 100000 in
theorem ok_309_1 : (t_L_main_1.all fun r => r.all fun q => okE 309 q.1 q.2) = true := by decide +kernel
set_option maxRecDepth 100000 in
theorem ok_309_2 : (t_L_main_2.all fun r => r.all fun q => okE 309 q.1 q.2) = true := by decide +kernel
set_option maxRecDepth 100000 in
theorem ok_309_3 : (t_L_main_3.all fun r => r.all fun q => okE 309 q.1 q.2) = true := by decide +kernel
set_option maxRecDepth 100000 in
theorem ok_309_4 : (t_L_main_4.all fun r => r.all fun q => okE 309 q.1 q.2) = true := by decide +kernel
set_option maxRecDepth 100000 in
theorem ok_309_5 : (t_L_main_5.all fun r => r.all fun q => okE 309 q.1 q.2) = true := by decide +kernel
set_option maxRecDepth 100000 in
theorem ok_309_6 : (t_L_main_6.all fun r => r.all fun q => okE 309 q.1 q.2) = true := by decide +kernel
set_option maxRecDepth 100000 in
theorem ok_309_7 : (t_L_main_7.all fun r => r.all fun q => okE 309 q.1 q.2) = true := by decide +kernel
set_option maxRecDepth 100000 in
theorem ok_309_8 : (t_L_main_8.all fun r => r.all fun q => okE 309 q.1 q.2) = true := by decide +kernel
set_option maxRecDepth 100000 in
theorem ok_309_9 : (t_L_main_9.all fun r => r.all fun q => okE 309 q.1 q.2) = true := by decide +kernel
set_option maxRecDepth 100000 in
theorem ok_309_10 : (t_L_main_10.all fun r => r.all fun q => okE 309 q.1 q.2) = true := by decide +kernel
theorem ok_309 : okM 309 = true := by
  show (t_L_main.all fun r => r.all fun q => okE 309 q.1 q.2) = true
  unfold t_L_main
  simp only [List.all_append, ok_309_0, ok_309_1, ok_309_2, ok_309_3, ok_309_4, ok_309_5, ok_309_6, ok_309_7, ok_309_8, ok_309_9, ok_309_10, Bool.and_self]
