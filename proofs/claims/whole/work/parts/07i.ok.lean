set_option maxRecDepth 100000 in
theorem ok_309_8 : (t_L_main_8.all fun r => r.all fun q => okE 309 q.1 q.2) = true := by decide +kernel
set_option maxRecDepth 100000 in
theorem ok_309_9 : (t_L_main_9.all fun r => r.all fun q => okE 309 q.1 q.2) = true := by decide +kernel
