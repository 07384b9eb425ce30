set_option maxRecDepth 100000 in
theorem ok_309_0 : (t_L_main_0.all fun r => r.all fun q => okE 309 q.1 q.2) = true := by decide +kernel
set_option maxRecDepth 100000 in
theorem ok_309_1 : (t_L_main_1.all fun r => r.all fun q => okE 309 q.1 q.2) = true := by decide +kernel
