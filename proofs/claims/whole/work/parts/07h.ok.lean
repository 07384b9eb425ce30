set_option maxRecDepth 100000 in
theorem ok_309_6 : (t_L_main_6.all fun r => r.all fun q => okE 309 q.1 q.2) = true := by decide +kernel
set_option maxRecDepth 100000 in
theorem ok_309_7 : (t_L_main_7.all fun r => r.all fun q => okE 309 q.1 q.2) = true := by decide +kernel
