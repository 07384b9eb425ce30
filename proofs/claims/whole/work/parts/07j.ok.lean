set_option maxRecDepth 100000 in
theorem ok_309_10 : (t_L_main_10.all fun r => r.all fun q => okE 309 q.1 q.2) = true := by decide +kernel
theorem ok_309 : okM 309 = true := by
  show (t_L_main.all fun r => r.all fun q => okE 309 q.1 q.2) = true
  unfold t_L_main
  simp only [List.all_append, ok_309_0, ok_309_1, ok_309_2, ok_309_3, ok_309_4, ok_309_5, ok_309_6, ok_309_7, ok_309_8, ok_309_9, ok_309_10, Bool.and_self]
