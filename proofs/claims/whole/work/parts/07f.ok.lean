set_option maxRecDepth 100000 in
theorem ok_309_2 : (t_L_main_2.all fun r => r.all fun q => okE 309 q.1 q.2) = true := by decide +kernel
set_option maxRecDepth 100000 in
theorem ok_309_3 : (t_L_main_3.all fun r => r.all fun q => okE 309 q.1 q.2) = true := by decide +kernel
