set_option maxRecDepth 100000 in
theorem ok_309_0_0 : ((t_L_main_0.getD 0 []).all fun q => okE 309 q.1 q.2) = true := by decide +kernel
set_option maxRecDepth 100000 in
theorem ok_309_0_1 : ((t_L_main_0.getD 1 []).all fun q => okE 309 q.1 q.2) = true := by decide +kernel
set_option maxRecDepth 100000 in
theorem ok_309_0_2 : ((t_L_main_0.getD 2 []).all fun q => okE 309 q.1 q.2) = true := by decide +kernel
set_option maxRecDepth 100000 in
theorem ok_309_0_3 : ((t_L_main_0.getD 3 []).all fun q => okE 309 q.1 q.2) = true := by decide +kernel
set_option maxRecDepth 100000 in
theorem ok_309_0_4 : ((t_L_main_0.getD 4 []).all fun q => okE 309 q.1 q.2) = true := by decide +kernel
set_option maxRecDepth 100000 in
theorem ok_309_0_5 : ((t_L_main_0.getD 5 []).all fun q => okE 309 q.1 q.2) = true := by decide +kernel
set_option maxRecDepth 100000 in
theorem ok_309_0_6 : ((t_L_main_0.getD 6 []).all fun q => okE 309 q.1 q.2) = true := by decide +kernel
set_option maxRecDepth 100000 in
theorem ok_309_0_7 : ((t_L_main_0.getD 7 []).all fun q => okE 309 q.1 q.2) = true := by decide +kernel
set_option maxRecDepth 100000 in
theorem ok_309_0_8 : ((t_L_main_0.getD 8 []).all fun q => okE 309 q.1 q.2) = true := by decide +kernel
set_option maxRecDepth 100000 in
theorem ok_309_0_9 : ((t_L_main_0.getD 9 []).all fun q => okE 309 q.1 q.2) = true := by decide +kernel
set_option maxRecDepth 100000 in
theorem ok_309_0_10 : ((t_L_main_0.getD 10 []).all fun q => okE 309 q.1 q.2) = true := by decide +kernel
set_option maxRecDepth 100000 in
theorem ok_309_0_11 : ((t_L_main_0.getD 11 []).all fun q => okE 309 q.1 q.2) = true := by decide +kernel
set_option maxRecDepth 100000 in
theorem ok_309_0_12 : ((t_L_main_0.getD 12 []).all fun q => okE 309 q.1 q.2) = true := by decide +kernel
set_option maxRecDepth 100000 in
theorem ok_309_0_13 : ((t_L_main_0.getD 13 []).all fun q => okE 309 q.1 q.2) = true := by decide +kernel
set_option maxRecDepth 100000 in
theorem ok_309_0_14 : ((t_L_main_0.getD 14 []).all fun q => okE 309 q.1 q.2) = true := by decide +kernel
set_option maxRecDepth 100000 in
theorem ok_309_0_15 : ((t_L_main_0.getD 15 []).all fun q => okE 309 q.1 q.2) = true := by decide +kernel
theorem ok_309_0 : (t_L_main_0.all fun r => r.all fun q => okE 309 q.1 q.2) = true := by
  rw [List.all_eq_true]
  intro r hr
  obtain ⟨j, hj, rfl⟩ := List.getElem_of_mem hr
  match j, hj with
  | 0, _ => exact ok_309_0_0
  | 1, _ => exact ok_309_0_1
  | 2, _ => exact ok_309_0_2
  | 3, _ => exact ok_309_0_3
  | 4, _ => exact ok_309_0_4
  | 5, _ => exact ok_309_0_5
  | 6, _ => exact ok_309_0_6
  | 7, _ => exact ok_309_0_7
  | 8, _ => exact ok_309_0_8
  | 9, _ => exact ok_309_0_9
  | 10, _ => exact ok_309_0_10
  | 11, _ => exact ok_309_0_11
  | 12, _ => exact ok_309_0_12
  | 13, _ => exact ok_309_0_13
  | 14, _ => exact ok_309_0_14
  | 15, _ => exact ok_309_0_15
  | n + 16, h => exact absurd h (by simp [t_L_main_0])
set_option maxRecDepth 100000 in
theorem ok_309_1_0 : ((t_L_main_1.getD 0 []).all fun q => okE 309 q.1 q.2) = true := by decide +kernel
set_option maxRecDepth 100000 in
theorem ok_309_1_1 : ((t_L_main_1.getD 1 []).all fun q => okE 309 q.1 q.2) = true := by decide +kernel
set_option maxRecDepth 100000 in
theorem ok_309_1_2 : ((t_L_main_1.getD 2 []).all fun q => okE 309 q.1 q.2) = true := by decide +kernel
set_option maxRecDepth 100000 in
theorem ok_309_1_3 : ((t_L_main_1.getD 3 []).all fun q => okE 309 q.1 q.2) = true := by decide +kernel
set_option maxRecDepth 100000 in
theorem ok_309_1_4 : ((t_L_main_1.getD 4 []).all fun q => okE 309 q.1 q.2) = true := by decide +kernel
set_option maxRecDepth 100000 in
theorem ok_309_1_5 : ((t_L_main_1.getD 5 []).all fun q => okE 309 q.1 q.2) = true := by decide +kernel
set_option maxRecDepth 100000 in
theorem ok_309_1_6 : ((t_L_main_1.getD 6 []).all fun q => okE 309 q.1 q.2) = true := by decide +kernel
set_option maxRecDepth 100000 in
theorem ok_309_1_7 : ((t_L_main_1.getD 7 []).all fun q => okE 309 q.1 q.2) = true := by decide +kernel
set_option maxRecDepth 100000 in
theorem ok_309_1_8 : ((t_L_main_1.getD 8 []).all fun q => okE 309 q.1 q.2) = true := by decide +kernel
set_option maxRecDepth 100000 in
theorem ok_309_1_9 : ((t_L_main_1.getD 9 []).all fun q => okE 309 q.1 q.2) = true := by decide +kernel
set_option maxRecDepth 100000 in
theorem ok_309_1_10 : ((t_L_main_1.getD 10 []).all fun q => okE 309 q.1 q.2) = true := by decide +kernel
set_option maxRecDepth 100000 in
theorem ok_309_1_11 : ((t_L_main_1.getD 11 []).all fun q => okE 309 q.1 q.2) = true := by decide +kernel
set_option maxRecDepth 100000 in
theorem ok_309_1_12 : ((t_L_main_1.getD 12 []).all fun q => okE 309 q.1 q.2) = true := by decide +kernel
set_option maxRecDepth 100000 in
theorem ok_309_1_13 : ((t_L_main_1.getD 13 []).all fun q => okE 309 q.1 q.2) = true := by decide +kernel
set_option maxRecDepth 100000 in
theorem ok_309_1_14 : ((t_L_main_1.getD 14 []).all fun q => okE 309 q.1 q.2) = true := by decide +kernel
set_option maxRecDepth 100000 in
theorem ok_309_1_15 : ((t_L_main_1.getD 15 []).all fun q => okE 309 q.1 q.2) = true := by decide +kernel
theorem ok_309_1 : (t_L_main_1.all fun r => r.all fun q => okE 309 q.1 q.2) = true := by
  rw [List.all_eq_true]
  intro r hr
  obtain ⟨j, hj, rfl⟩ := List.getElem_of_mem hr
  match j, hj with
  | 0, _ => exact ok_309_1_0
  | 1, _ => exact ok_309_1_1
  | 2, _ => exact ok_309_1_2
  | 3, _ => exact ok_309_1_3
  | 4, _ => exact ok_309_1_4
  | 5, _ => exact ok_309_1_5
  | 6, _ => exact ok_309_1_6
  | 7, _ => exact ok_309_1_7
  | 8, _ => exact ok_309_1_8
  | 9, _ => exact ok_309_1_9
  | 10, _ => exact ok_309_1_10
  | 11, _ => exact ok_309_1_11
  | 12, _ => exact ok_309_1_12
  | 13, _ => exact ok_309_1_13
  | 14, _ => exact ok_309_1_14
  | 15, _ => exact ok_309_1_15
  | n + 16, h => exact absurd h (by simp [t_L_main_1])
set_option maxRecDepth 100000 in
theorem ok_309_2_0 : ((t_L_main_2.getD 0 []).all fun q => okE 309 q.1 q.2) = true := by decide +kernel
set_option maxRecDepth 100000 in
theorem ok_309_2_1 : ((t_L_main_2.getD 1 []).all fun q => okE 309 q.1 q.2) = true := by decide +kernel
set_option maxRecDepth 100000 in
theorem ok_309_2_2 : ((t_L_main_2.getD 2 []).all fun q => okE 309 q.1 q.2) = true := by decide +kernel
set_option maxRecDepth 100000 in
theorem ok_309_2_3 : ((t_L_main_2.getD 3 []).all fun q => okE 309 q.1 q.2) = true := by decide +kernel
set_option maxRecDepth 100000 in
theorem ok_309_2_4 : ((t_L_main_2.getD 4 []).all fun q => okE 309 q.1 q.2) = true := by decide +kernel
set_option maxRecDepth 100000 in
theorem ok_309_2_5 : ((t_L_main_2.getD 5 []).all fun q => okE 309 q.1 q.2) = true := by decide +kernel
set_option maxRecDepth 100000 in
theorem ok_309_2_6 : ((t_L_main_2.getD 6 []).all fun q => okE 309 q.1 q.2) = true := by decide +kernel
set_option maxRecDepth 100000 in
theorem ok_309_2_7 : ((t_L_main_2.getD 7 []).all fun q => okE 309 q.1 q.2) = true := by decide +kernel
set_option maxRecDepth 100000 in
theorem ok_309_2_8 : ((t_L_main_2.getD 8 []).all fun q => okE 309 q.1 q.2) = true := by decide +kernel
set_option maxRecDepth 100000 in
theorem ok_309_2_9 : ((t_L_main_2.getD 9 []).all fun q => okE 309 q.1 q.2) = true := by decide +kernel
set_option maxRecDepth 100000 in
theorem ok_309_2_10 : ((t_L_main_2.getD 10 []).all fun q => okE 309 q.1 q.2) = true := by decide +kernel
set_option maxRecDepth 100000 in
theorem ok_309_2_11 : ((t_L_main_2.getD 11 []).all fun q => okE 309 q.1 q.2) = true := by decide +kernel
set_option maxRecDepth 100000 in
theorem ok_309_2_12 : ((t_L_main_2.getD 12 []).all fun q => okE 309 q.1 q.2) = true := by decide +kernel
set_option maxRecDepth 100000 in
theorem ok_309_2_13 : ((t_L_main_2.getD 13 []).all fun q => okE 309 q.1 q.2) = true := by decide +kernel
set_option maxRecDepth 100000 in
theorem ok_309_2_14 : ((t_L_main_2.getD 14 []).all fun q => okE 309 q.1 q.2) = true := by decide +kernel
set_option maxRecDepth 100000 in
theorem ok_309_2_15 : ((t_L_main_2.getD 15 []).all fun q => okE 309 q.1 q.2) = true := by decide +kernel
theorem ok_309_2 : (t_L_main_2.all fun r => r.all fun q => okE 309 q.1 q.2) = true := by
  rw [List.all_eq_true]
  intro r hr
  obtain ⟨j, hj, rfl⟩ := List.getElem_of_mem hr
  match j, hj with
  | 0, _ => exact ok_309_2_0
  | 1, _ => exact ok_309_2_1
  | 2, _ => exact ok_309_2_2
  | 3, _ => exact ok_309_2_3
  | 4, _ => exact ok_309_2_4
  | 5, _ => exact ok_309_2_5
  | 6, _ => exact ok_309_2_6
  | 7, _ => exact ok_309_2_7
  | 8, _ => exact ok_309_2_8
  | 9, _ => exact ok_309_2_9
  | 10, _ => exact ok_309_2_10
  | 11, _ => exact ok_309_2_11
  | 12, _ => exact ok_309_2_12
  | 13, _ => exact ok_309_2_13
  | 14, _ => exact ok_309_2_14
  | 15, _ => exact ok_309_2_15
  | n + 16, h => exact absurd h (by simp [t_L_main_2])
