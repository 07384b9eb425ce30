set_option maxRecDepth 100000 in
theorem ok_309_4 : (t_L_main_4.all fun r => r.all fun q => okE 309 q.1 q.2) = true := by decide +kernel
set_option maxRecDepth 100000 in
theorem ok_309_5 : (t_L_main_5.all fun r => r.all fun q => okE 309 q.1 q.2) = true := by decide +kernel
