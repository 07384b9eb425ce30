set_option maxRecDepth 100000 in
theorem ok_309_3_0 : ((t_L_main_3.getD 0 []).all fun q => okE 309 q.1 q.2) = true := by decide +kernel
set_option maxRecDepth 100000 in
theorem ok_309_3_1 : ((t_L_main_3.getD 1 []).all fun q => okE 309 q.1 q.2) = true := by decide +kernel
set_option maxRecDepth 100000 in
theorem ok_309_3_2 : ((t_L_main_3.getD 2 []).all fun q => okE 309 q.1 q.2) = true := by decide +kernel
set_option maxRecDepth 100000 in
theorem ok_309_3_3 : ((t_L_main_3.getD 3 []).all fun q => okE 309 q.1 q.2) = true := by decide +kernel
set_option maxRecDepth 100000 in
theorem ok_309_3_4 : ((t_L_main_3.getD 4 []).all fun q => okE 309 q.1 q.2) = true := by decide +kernel
set_option maxRecDepth 100000 in
theorem ok_309_3_5 : ((t_L_main_3.getD 5 []).all fun q => okE 309 q.1 q.2) = true := by decide +kernel
set_option maxRecDepth 100000 in
theorem ok_309_3_6 : ((t_L_main_3.getD 6 []).all fun q => okE 309 q.1 q.2) = true := by decide +kernel
set_option maxRecDepth 100000 in
theorem ok_309_3_7 : ((t_L_main_3.getD 7 []).all fun q => okE 309 q.1 q.2) = true := by decide +kernel
set_option maxRecDepth 100000 in
theorem ok_309_3_8 : ((t_L_main_3.getD 8 []).all fun q => okE 309 q.1 q.2) = true := by decide +kernel
set_option maxRecDepth 100000 in
theorem ok_309_3_9 : ((t_L_main_3.getD 9 []).all fun q => okE 309 q.1 q.2) = true := by decide +kernel
set_option maxRecDepth 100000 in
theorem ok_309_3_10 : ((t_L_main_3.getD 10 []).all fun q => okE 309 q.1 q.2) = true := by decide +kernel
set_option maxRecDepth 100000 in
theorem ok_309_3_11 : ((t_L_main_3.getD 11 []).all fun q => okE 309 q.1 q.2) = true := by decide +kernel
set_option maxRecDepth 100000 in
theorem ok_309_3_12 : ((t_L_main_3.getD 12 []).all fun q => okE 309 q.1 q.2) = true := by decide +kernel
set_option maxRecDepth 100000 in
theorem ok_309_3_13 : ((t_L_main_3.getD 13 []).all fun q => okE 309 q.1 q.2) = true := by decide +kernel
set_option maxRecDepth 100000 in
theorem ok_309_3_14 : ((t_L_main_3.getD 14 []).all fun q => okE 309 q.1 q.2) = true := by decide +kernel
set_option maxRecDepth 100000 in
theorem ok_309_3_15 : ((t_L_main_3.getD 15 []).all fun q => okE 309 q.1 q.2) = true := by decide +kernel
theorem ok_309_3 : (t_L_main_3.all fun r => r.all fun q => okE 309 q.1 q.2) = true := by
  rw [List.all_eq_true]
  intro r hr
  obtain ⟨j, hj, rfl⟩ := List.getElem_of_mem hr
  match j, hj with
  | 0, _ => exact ok_309_3_0
  | 1, _ => exact ok_309_3_1
  | 2, _ => exact ok_309_3_2
  | 3, _ => exact ok_309_3_3
  | 4, _ => exact ok_309_3_4
  | 5, _ => exact ok_309_3_5
  | 6, _ => exact ok_309_3_6
  | 7, _ => exact ok_309_3_7
  | 8, _ => exact ok_309_3_8
  | 9, _ => exact ok_309_3_9
  | 10, _ => exact ok_309_3_10
  | 11, _ => exact ok_309_3_11
  | 12, _ => exact ok_309_3_12
  | 13, _ => exact ok_309_3_13
  | 14, _ => exact ok_309_3_14
  | 15, _ => exact ok_309_3_15
  | n + 16, h => exact absurd h (by simp [t_L_main_3])
set_option maxRecDepth 100000 in
theorem ok_309_4_0 : ((t_L_main_4.getD 0 []).all fun q => okE 309 q.1 q.2) = true := by decide +kernel
set_option maxRecDepth 100000 in
theorem ok_309_4_1 : ((t_L_main_4.getD 1 []).all fun q => okE 309 q.1 q.2) = true := by decide +kernel
set_option maxRecDepth 100000 in
theorem ok_309_4_2 : ((t_L_main_4.getD 2 []).all fun q => okE 309 q.1 q.2) = true := by decide +kernel
set_option maxRecDepth 100000 in
theorem ok_309_4_3 : ((t_L_main_4.getD 3 []).all fun q => okE 309 q.1 q.2) = true := by decide +kernel
set_option maxRecDepth 100000 in
theorem ok_309_4_4 : ((t_L_main_4.getD 4 []).all fun q => okE 309 q.1 q.2) = true := by decide +kernel
set_option maxRecDepth 100000 in
theorem ok_309_4_5 : ((t_L_main_4.getD 5 []).all fun q => okE 309 q.1 q.2) = true := by decide +kernel
set_option maxRecDepth 100000 in
theorem ok_309_4_6 : ((t_L_main_4.getD 6 []).all fun q => okE 309 q.1 q.2) = true := by decide +kernel
set_option maxRecDepth 100000 in
theorem ok_309_4_7 : ((t_L_main_4.getD 7 []).all fun q => okE 309 q.1 q.2) = true := by decide +kernel
set_option maxRecDepth 100000 in
theorem ok_309_4_8 : ((t_L_main_4.getD 8 []).all fun q => okE 309 q.1 q.2) = true := by decide +kernel
set_option maxRecDepth 100000 in
theorem ok_309_4_9 : ((t_L_main_4.getD 9 []).all fun q => okE 309 q.1 q.2) = true := by decide +kernel
set_option maxRecDepth 100000 in
theorem ok_309_4_10 : ((t_L_main_4.getD 10 []).all fun q => okE 309 q.1 q.2) = true := by decide +kernel
set_option maxRecDepth 100000 in
theorem ok_309_4_11 : ((t_L_main_4.getD 11 []).all fun q => okE 309 q.1 q.2) = true := by decide +kernel
set_option maxRecDepth 100000 in
theorem ok_309_4_12 : ((t_L_main_4.getD 12 []).all fun q => okE 309 q.1 q.2) = true := by decide +kernel
set_option maxRecDepth 100000 in
theorem ok_309_4_13 : ((t_L_main_4.getD 13 []).all fun q => okE 309 q.1 q.2) = true := by decide +kernel
set_option maxRecDepth 100000 in
theorem ok_309_4_14 : ((t_L_main_4.getD 14 []).all fun q => okE 309 q.1 q.2) = true := by decide +kernel
set_option maxRecDepth 100000 in
theorem ok_309_4_15 : ((t_L_main_4.getD 15 []).all fun q => okE 309 q.1 q.2) = true := by decide +kernel
theorem ok_309_4 : (t_L_main_4.all fun r => r.all fun q => okE 309 q.1 q.2) = true := by
  rw [List.all_eq_true]
  intro r hr
  obtain ⟨j, hj, rfl⟩ := List.getElem_of_mem hr
  match j, hj with
  | 0, _ => exact ok_309_4_0
  | 1, _ => exact ok_309_4_1
  | 2, _ => exact ok_309_4_2
  | 3, _ => exact ok_309_4_3
  | 4, _ => exact ok_309_4_4
  | 5, _ => exact ok_309_4_5
  | 6, _ => exact ok_309_4_6
  | 7, _ => exact ok_309_4_7
  | 8, _ => exact ok_309_4_8
  | 9, _ => exact ok_309_4_9
  | 10, _ => exact ok_309_4_10
  | 11, _ => exact ok_309_4_11
  | 12, _ => exact ok_309_4_12
  | 13, _ => exact ok_309_4_13
  | 14, _ => exact ok_309_4_14
  | 15, _ => exact ok_309_4_15
  | n + 16, h => exact absurd h (by simp [t_L_main_4])
set_option maxRecDepth 100000 in
theorem ok_309_5_0 : ((t_L_main_5.getD 0 []).all fun q => okE 309 q.1 q.2) = true := by decide +kernel
set_option maxRecDepth 100000 in
theorem ok_309_5_1 : ((t_L_main_5.getD 1 []).all fun q => okE 309 q.1 q.2) = true := by decide +kernel
set_option maxRecDepth 100000 in
theorem ok_309_5_2 : ((t_L_main_5.getD 2 []).all fun q => okE 309 q.1 q.2) = true := by decide +kernel
set_option maxRecDepth 100000 in
theorem ok_309_5_3 : ((t_L_main_5.getD 3 []).all fun q => okE 309 q.1 q.2) = true := by decide +kernel
set_option maxRecDepth 100000 in
theorem ok_309_5_4 : ((t_L_main_5.getD 4 []).all fun q => okE 309 q.1 q.2) = true := by decide +kernel
set_option maxRecDepth 100000 in
theorem ok_309_5_5 : ((t_L_main_5.getD 5 []).all fun q => okE 309 q.1 q.2) = true := by decide +kernel
set_option maxRecDepth 100000 in
theorem ok_309_5_6 : ((t_L_main_5.getD 6 []).all fun q => okE 309 q.1 q.2) = true := by decide +kernel
set_option maxRecDepth 100000 in
theorem ok_309_5_7 : ((t_L_main_5.getD 7 []).all fun q => okE 309 q.1 q.2) = true := by decide +kernel
set_option maxRecDepth 100000 in
theorem ok_309_5_8 : ((t_L_main_5.getD 8 []).all fun q => okE 309 q.1 q.2) = true := by decide +kernel
set_option maxRecDepth 100000 in
theorem ok_309_5_9 : ((t_L_main_5.getD 9 []).all fun q => okE 309 q.1 q.2) = true := by decide +kernel
set_option maxRecDepth 100000 in
theorem ok_309_5_10 : ((t_L_main_5.getD 10 []).all fun q => okE 309 q.1 q.2) = true := by decide +kernel
set_option maxRecDepth 100000 in
theorem ok_309_5_11 : ((t_L_main_5.getD 11 []).all fun q => okE 309 q.1 q.2) = true := by decide +kernel
set_option maxRecDepth 100000 in
theorem ok_309_5_12 : ((t_L_main_5.getD 12 []).all fun q => okE 309 q.1 q.2) = true := by decide +kernel
set_option maxRecDepth 100000 in
theorem ok_309_5_13 : ((t_L_main_5.getD 13 []).all fun q => okE 309 q.1 q.2) = true := by decide +kernel
set_option maxRecDepth 100000 in
theorem ok_309_5_14 : ((t_L_main_5.getD 14 []).all fun q => okE 309 q.1 q.2) = true := by decide +kernel
set_option maxRecDepth 100000 in
theorem ok_309_5_15 : ((t_L_main_5.getD 15 []).all fun q => okE 309 q.1 q.2) = true := by decide +kernel
theorem ok_309_5 : (t_L_main_5.all fun r => r.all fun q => okE 309 q.1 q.2) = true := by
  rw [List.all_eq_true]
  intro r hr
  obtain ⟨j, hj, rfl⟩ := List.getElem_of_mem hr
  match j, hj with
  | 0, _ => exact ok_309_5_0
  | 1, _ => exact ok_309_5_1
  | 2, _ => exact ok_309_5_2
  | 3, _ => exact ok_309_5_3
  | 4, _ => exact ok_309_5_4
  | 5, _ => exact ok_309_5_5
  | 6, _ => exact ok_309_5_6
  | 7, _ => exact ok_309_5_7
  | 8, _ => exact ok_309_5_8
  | 9, _ => exact ok_309_5_9
  | 10, _ => exact ok_309_5_10
  | 11, _ => exact ok_309_5_11
  | 12, _ => exact ok_309_5_12
  | 13, _ => exact ok_309_5_13
  | 14, _ => exact ok_309_5_14
  | 15, _ => exact ok_309_5_15
  | n + 16, h => exact absurd h (by simp [t_L_main_5])
