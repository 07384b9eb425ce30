set_option maxRecDepth 100000 in
theorem ok_309_6_0 : ((t_L_main_6.getD 0 []).all fun q => okE 309 q.1 q.2) = true := by decide +kernel
set_option maxRecDepth 100000 in
theorem ok_309_6_1 : ((t_L_main_6.getD 1 []).all fun q => okE 309 q.1 q.2) = true := by decide +kernel
set_option maxRecDepth 100000 in
theorem ok_309_6_2 : ((t_L_main_6.getD 2 []).all fun q => okE 309 q.1 q.2) = true := by decide +kernel
set_option maxRecDepth 100000 in
theorem ok_309_6_3 : ((t_L_main_6.getD 3 []).all fun q => okE 309 q.1 q.2) = true := by decide +kernel
set_option maxRecDepth 100000 in
theorem ok_309_6_4 : ((t_L_main_6.getD 4 []).all fun q => okE 309 q.1 q.2) = true := by decide +kernel
set_option maxRecDepth 100000 in
theorem ok_309_6_5 : ((t_L_main_6.getD 5 []).all fun q => okE 309 q.1 q.2) = true := by decide +kernel
set_option maxRecDepth 100000 in
theorem ok_309_6_6 : ((t_L_main_6.getD 6 []).all fun q => okE 309 q.1 q.2) = true := by decide +kernel
set_option maxRecDepth 100000 in
theorem ok_309_6_7 : ((t_L_main_6.getD 7 []).all fun q => okE 309 q.1 q.2) = true := by decide +kernel
set_option maxRecDepth 100000 in
theorem ok_309_6_8 : ((t_L_main_6.getD 8 []).all fun q => okE 309 q.1 q.2) = true := by decide +kernel
set_option maxRecDepth 100000 in
theorem ok_309_6_9 : ((t_L_main_6.getD 9 []).all fun q => okE 309 q.1 q.2) = true := by decide +kernel
set_option maxRecDepth 100000 in
theorem ok_309_6_10 : ((t_L_main_6.getD 10 []).all fun q => okE 309 q.1 q.2) = true := by decide +kernel
set_option maxRecDepth 100000 in
theorem ok_309_6_11 : ((t_L_main_6.getD 11 []).all fun q => okE 309 q.1 q.2) = true := by decide +kernel
set_option maxRecDepth 100000 in
theorem ok_309_6_12 : ((t_L_main_6.getD 12 []).all fun q => okE 309 q.1 q.2) = true := by decide +kernel
set_option maxRecDepth 100000 in
theorem ok_309_6_13 : ((t_L_main_6.getD 13 []).all fun q => okE 309 q.1 q.2) = true := by decide +kernel
set_option maxRecDepth 100000 in
theorem ok_309_6_14 : ((t_L_main_6.getD 14 []).all fun q => okE 309 q.1 q.2) = true := by decide +kernel
set_option maxRecDepth 100000 in
theorem ok_309_6_15 : ((t_L_main_6.getD 15 []).all fun q => okE 309 q.1 q.2) = true := by decide +kernel
theorem ok_309_6 : (t_L_main_6.all fun r => r.all fun q => okE 309 q.1 q.2) = true := by
  rw [List.all_eq_true]
  intro r hr
  obtain ⟨j, hj, rfl⟩ := List.getElem_of_mem hr
  match j, hj with
  | 0, _ => exact ok_309_6_0
  | 1, _ => exact ok_309_6_1
  | 2, _ => exact ok_309_6_2
  | 3, _ => exact ok_309_6_3
  | 4, _ => exact ok_309_6_4
  | 5, _ => exact ok_309_6_5
  | 6, _ => exact ok_309_6_6
  | 7, _ => exact ok_309_6_7
  | 8, _ => exact ok_309_6_8
  | 9, _ => exact ok_309_6_9
  | 10, _ => exact ok_309_6_10
  | 11, _ => exact ok_309_6_11
  | 12, _ => exact ok_309_6_12
  | 13, _ => exact ok_309_6_13
  | 14, _ => exact ok_309_6_14
  | 15, _ => exact ok_309_6_15
  | n + 16, h => exact absurd h (by simp [t_L_main_6])
set_option maxRecDepth 100000 in
theorem ok_309_7_0 : ((t_L_main_7.getD 0 []).all fun q => okE 309 q.1 q.2) = true := by decide +kernel
set_option maxRecDepth 100000 in
theorem ok_309_7_1 : ((t_L_main_7.getD 1 []).all fun q => okE 309 q.1 q.2) = true := by decide +kernel
set_option maxRecDepth 100000 in
theorem ok_309_7_2 : ((t_L_main_7.getD 2 []).all fun q => okE 309 q.1 q.2) = true := by decide +kernel
set_option maxRecDepth 100000 in
theorem ok_309_7_3 : ((t_L_main_7.getD 3 []).all fun q => okE 309 q.1 q.2) = true := by decide +kernel
set_option maxRecDepth 100000 in
theorem ok_309_7_4 : ((t_L_main_7.getD 4 []).all fun q => okE 309 q.1 q.2) = true := by decide +kernel
set_option maxRecDepth 100000 in
theorem ok_309_7_5 : ((t_L_main_7.getD 5 []).all fun q => okE 309 q.1 q.2) = true := by decide +kernel
set_option maxRecDepth 100000 in
theorem ok_309_7_6 : ((t_L_main_7.getD 6 []).all fun q => okE 309 q.1 q.2) = true := by decide +kernel
set_option maxRecDepth 100000 in
theorem ok_309_7_7 : ((t_L_main_7.getD 7 []).all fun q => okE 309 q.1 q.2) = true := by decide +kernel
set_option maxRecDepth 100000 in
theorem ok_309_7_8 : ((t_L_main_7.getD 8 []).all fun q => okE 309 q.1 q.2) = true := by decide +kernel
set_option maxRecDepth 100000 in
theorem ok_309_7_9 : ((t_L_main_7.getD 9 []).all fun q => okE 309 q.1 q.2) = true := by decide +kernel
set_option maxRecDepth 100000 in
theorem ok_309_7_10 : ((t_L_main_7.getD 10 []).all fun q => okE 309 q.1 q.2) = true := by decide +kernel
set_option maxRecDepth 100000 in
theorem ok_309_7_11 : ((t_L_main_7.getD 11 []).all fun q => okE 309 q.1 q.2) = true := by decide +kernel
set_option maxRecDepth 100000 in
theorem ok_309_7_12 : ((t_L_main_7.getD 12 []).all fun q => okE 309 q.1 q.2) = true := by decide +kernel
set_option maxRecDepth 100000 in
theorem ok_309_7_13 : ((t_L_main_7.getD 13 []).all fun q => okE 309 q.1 q.2) = true := by decide +kernel
set_option maxRecDepth 100000 in
theorem ok_309_7_14 : ((t_L_main_7.getD 14 []).all fun q => okE 309 q.1 q.2) = true := by decide +kernel
set_option maxRecDepth 100000 in
theorem ok_309_7_15 : ((t_L_main_7.getD 15 []).all fun q => okE 309 q.1 q.2) = true := by decide +kernel
theorem ok_309_7 : (t_L_main_7.all fun r => r.all fun q => okE 309 q.1 q.2) = true := by
  rw [List.all_eq_true]
  intro r hr
  obtain ⟨j, hj, rfl⟩ := List.getElem_of_mem hr
  match j, hj with
  | 0, _ => exact ok_309_7_0
  | 1, _ => exact ok_309_7_1
  | 2, _ => exact ok_309_7_2
  | 3, _ => exact ok_309_7_3
  | 4, _ => exact ok_309_7_4
  | 5, _ => exact ok_309_7_5
  | 6, _ => exact ok_309_7_6
  | 7, _ => exact ok_309_7_7
  | 8, _ => exact ok_309_7_8
  | 9, _ => exact ok_309_7_9
  | 10, _ => exact ok_309_7_10
  | 11, _ => exact ok_309_7_11
  | 12, _ => exact ok_309_7_12
  | 13, _ => exact ok_309_7_13
  | 14, _ => exact ok_309_7_14
  | 15, _ => exact ok_309_7_15
  | n + 16, h => exact absurd h (by simp [t_L_main_7])
set_option maxRecDepth 100000 in
theorem ok_309_8_0 : ((t_L_main_8.getD 0 []).all fun q => okE 309 q.1 q.2) = true := by decide +kernel
set_option maxRecDepth 100000 in
theorem ok_309_8_1 : ((t_L_main_8.getD 1 []).all fun q => okE 309 q.1 q.2) = true := by decide +kernel
set_option maxRecDepth 100000 in
theorem ok_309_8_2 : ((t_L_main_8.getD 2 []).all fun q => okE 309 q.1 q.2) = true := by decide +kernel
set_option maxRecDepth 100000 in
theorem ok_309_8_3 : ((t_L_main_8.getD 3 []).all fun q => okE 309 q.1 q.2) = true := by decide +kernel
set_option maxRecDepth 100000 in
theorem ok_309_8_4 : ((t_L_main_8.getD 4 []).all fun q => okE 309 q.1 q.2) = true := by decide +kernel
set_option maxRecDepth 100000 in
theorem ok_309_8_5 : ((t_L_main_8.getD 5 []).all fun q => okE 309 q.1 q.2) = true := by decide +kernel
set_option maxRecDepth 100000 in
theorem ok_309_8_6 : ((t_L_main_8.getD 6 []).all fun q => okE 309 q.1 q.2) = true := by decide +kernel
set_option maxRecDepth 100000 in
theorem ok_309_8_7 : ((t_L_main_8.getD 7 []).all fun q => okE 309 q.1 q.2) = true := by decide +kernel
set_option maxRecDepth 100000 in
theorem ok_309_8_8 : ((t_L_main_8.getD 8 []).all fun q => okE 309 q.1 q.2) = true := by decide +kernel
set_option maxRecDepth 100000 in
theorem ok_309_8_9 : ((t_L_main_8.getD 9 []).all fun q => okE 309 q.1 q.2) = true := by decide +kernel
set_option maxRecDepth 100000 in
theorem ok_309_8_10 : ((t_L_main_8.getD 10 []).all fun q => okE 309 q.1 q.2) = true := by decide +kernel
set_option maxRecDepth 100000 in
theorem ok_309_8_11 : ((t_L_main_8.getD 11 []).all fun q => okE 309 q.1 q.2) = true := by decide +kernel
set_option maxRecDepth 100000 in
theorem ok_309_8_12 : ((t_L_main_8.getD 12 []).all fun q => okE 309 q.1 q.2) = true := by decide +kernel
set_option maxRecDepth 100000 in
theorem ok_309_8_13 : ((t_L_main_8.getD 13 []).all fun q => okE 309 q.1 q.2) = true := by decide +kernel
set_option maxRecDepth 100000 in
theorem ok_309_8_14 : ((t_L_main_8.getD 14 []).all fun q => okE 309 q.1 q.2) = true := by decide +kernel
set_option maxRecDepth 100000 in
theorem ok_309_8_15 : ((t_L_main_8.getD 15 []).all fun q => okE 309 q.1 q.2) = true := by decide +kernel
theorem ok_309_8 : (t_L_main_8.all fun r => r.all fun q => okE 309 q.1 q.2) = true := by
  rw [List.all_eq_true]
  intro r hr
  obtain ⟨j, hj, rfl⟩ := List.getElem_of_mem hr
  match j, hj with
  | 0, _ => exact ok_309_8_0
  | 1, _ => exact ok_309_8_1
  | 2, _ => exact ok_309_8_2
  | 3, _ => exact ok_309_8_3
  | 4, _ => exact ok_309_8_4
  | 5, _ => exact ok_309_8_5
  | 6, _ => exact ok_309_8_6
  | 7, _ => exact ok_309_8_7
  | 8, _ => exact ok_309_8_8
  | 9, _ => exact ok_309_8_9
  | 10, _ => exact ok_309_8_10
  | 11, _ => exact ok_309_8_11
  | 12, _ => exact ok_309_8_12
  | 13, _ => exact ok_309_8_13
  | 14, _ => exact ok_309_8_14
  | 15, _ => exact ok_309_8_15
  | n + 16, h => exact absurd h (by simp [t_L_main_8])
