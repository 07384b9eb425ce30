set_option maxRecDepth 100000 in
theorem ok_309_9_0 : ((t_L_main_9.getD 0 []).all fun q => okE 309 q.1 q.2) = true := by decide +kernel
set_option maxRecDepth 100000 in
theorem ok_309_9_1 : ((t_L_main_9.getD 1 []).all fun q => okE 309 q.1 q.2) = true := by decide +kernel
set_option maxRecDepth 100000 in
theorem ok_309_9_2 : ((t_L_main_9.getD 2 []).all fun q => okE 309 q.1 q.2) = true := by decide +kernel
set_option maxRecDepth 100000 in
theorem ok_309_9_3 : ((t_L_main_9.getD 3 []).all fun q => okE 309 q.1 q.2) = true := by decide +kernel
set_option maxRecDepth 100000 in
theorem ok_309_9_4 : ((t_L_main_9.getD 4 []).all fun q => okE 309 q.1 q.2) = true := by decide +kernel
set_option maxRecDepth 100000 in
theorem ok_309_9_5 : ((t_L_main_9.getD 5 []).all fun q => okE 309 q.1 q.2) = true := by decide +kernel
set_option maxRecDepth 100000 in
theorem ok_309_9_6 : ((t_L_main_9.getD 6 []).all fun q => okE 309 q.1 q.2) = true := by decide +kernel
set_option maxRecDepth 100000 in
theorem ok_309_9_7 : ((t_L_main_9.getD 7 []).all fun q => okE 309 q.1 q.2) = true := by decide +kernel
set_option maxRecDepth 100000 in
theorem ok_309_9_8 : ((t_L_main_9.getD 8 []).all fun q => okE 309 q.1 q.2) = true := by decide +kernel
set_option maxRecDepth 100000 in
theorem ok_309_9_9 : ((t_L_main_9.getD 9 []).all fun q => okE 309 q.1 q.2) = true := by decide +kernel
set_option maxRecDepth 100000 in
theorem ok_309_9_10 : ((t_L_main_9.getD 10 []).all fun q => okE 309 q.1 q.2) = true := by decide +kernel
set_option maxRecDepth 100000 in
theorem ok_309_9_11 : ((t_L_main_9.getD 11 []).all fun q => okE 309 q.1 q.2) = true := by decide +kernel
set_option maxRecDepth 100000 in
theorem ok_309_9_12 : ((t_L_main_9.getD 12 []).all fun q => okE 309 q.1 q.2) = true := by decide +kernel
set_option maxRecDepth 100000 in
theorem ok_309_9_13 : ((t_L_main_9.getD 13 []).all fun q => okE 309 q.1 q.2) = true := by decide +kernel
set_option maxRecDepth 100000 in
theorem ok_309_9_14 : ((t_L_main_9.getD 14 []).all fun q => okE 309 q.1 q.2) = true := by decide +kernel
set_option maxRecDepth 100000 in
theorem ok_309_9_15 : ((t_L_main_9.getD 15 []).all fun q => okE 309 q.1 q.2) = true := by decide +kernel
theorem ok_309_9 : (t_L_main_9.all fun r => r.all fun q => okE 309 q.1 q.2) = true := by
  rw [List.all_eq_true]
  intro r hr
  obtain ⟨j, hj, rfl⟩ := List.getElem_of_mem hr
  match j, hj with
  | 0, _ => exact ok_309_9_0
  | 1, _ => exact ok_309_9_1
  | 2, _ => exact ok_309_9_2
  | 3, _ => exact ok_309_9_3
  | 4, _ => exact ok_309_9_4
  | 5, _ => exact ok_309_9_5
  | 6, _ => exact ok_309_9_6
  | 7, _ => exact ok_309_9_7
  | 8, _ => exact ok_309_9_8
  | 9, _ => exact ok_309_9_9
  | 10, _ => exact ok_309_9_10
  | 11, _ => exact ok_309_9_11
  | 12, _ => exact ok_309_9_12
  | 13, _ => exact ok_309_9_13
  | 14, _ => exact ok_309_9_14
  | 15, _ => exact ok_309_9_15
  | n + 16, h => exact absurd h (by simp [t_L_main_9])
set_option maxRecDepth 100000 in
theorem ok_309_10_0 : ((t_L_main_10.getD 0 []).all fun q => okE 309 q.1 q.2) = true := by decide +kernel
set_option maxRecDepth 100000 in
theorem ok_309_10_1 : ((t_L_main_10.getD 1 []).all fun q => okE 309 q.1 q.2) = true := by decide +kernel
set_option maxRecDepth 100000 in
theorem ok_309_10_2 : ((t_L_main_10.getD 2 []).all fun q => okE 309 q.1 q.2) = true := by decide +kernel
set_option maxRecDepth 100000 in
theorem ok_309_10_3 : ((t_L_main_10.getD 3 []).all fun q => okE 309 q.1 q.2) = true := by decide +kernel
set_option maxRecDepth 100000 in
theorem ok_309_10_4 : ((t_L_main_10.getD 4 []).all fun q => okE 309 q.1 q.2) = true := by decide +kernel
set_option maxRecDepth 100000 in
theorem ok_309_10_5 : ((t_L_main_10.getD 5 []).all fun q => okE 309 q.1 q.2) = true := by decide +kernel
set_option maxRecDepth 100000 in
theorem ok_309_10_6 : ((t_L_main_10.getD 6 []).all fun q => okE 309 q.1 q.2) = true := by decide +kernel
set_option maxRecDepth 100000 in
theorem ok_309_10_7 : ((t_L_main_10.getD 7 []).all fun q => okE 309 q.1 q.2) = true := by decide +kernel
set_option maxRecDepth 100000 in
theorem ok_309_10_8 : ((t_L_main_10.getD 8 []).all fun q => okE 309 q.1 q.2) = true := by decide +kernel
set_option maxRecDepth 100000 in
theorem ok_309_10_9 : ((t_L_main_10.getD 9 []).all fun q => okE 309 q.1 q.2) = true := by decide +kernel
set_option maxRecDepth 100000 in
theorem ok_309_10_10 : ((t_L_main_10.getD 10 []).all fun q => okE 309 q.1 q.2) = true := by decide +kernel
set_option maxRecDepth 100000 in
theorem ok_309_10_11 : ((t_L_main_10.getD 11 []).all fun q => okE 309 q.1 q.2) = true := by decide +kernel
set_option maxRecDepth 100000 in
theorem ok_309_10_12 : ((t_L_main_10.getD 12 []).all fun q => okE 309 q.1 q.2) = true := by decide +kernel
set_option maxRecDepth 100000 in
theorem ok_309_10_13 : ((t_L_main_10.getD 13 []).all fun q => okE 309 q.1 q.2) = true := by decide +kernel
theorem ok_309_10 : (t_L_main_10.all fun r => r.all fun q => okE 309 q.1 q.2) = true := by
  rw [List.all_eq_true]
  intro r hr
  obtain ⟨j, hj, rfl⟩ := List.getElem_of_mem hr
  match j, hj with
  | 0, _ => exact ok_309_10_0
  | 1, _ => exact ok_309_10_1
  | 2, _ => exact ok_309_10_2
  | 3, _ => exact ok_309_10_3
  | 4, _ => exact ok_309_10_4
  | 5, _ => exact ok_309_10_5
  | 6, _ => exact ok_309_10_6
  | 7, _ => exact ok_309_10_7
  | 8, _ => exact ok_309_10_8
  | 9, _ => exact ok_309_10_9
  | 10, _ => exact ok_309_10_10
  | 11, _ => exact ok_309_10_11
  | 12, _ => exact ok_309_10_12
  | 13, _ => exact ok_309_10_13
  | n + 14, h => exact absurd h (by simp [t_L_main_10])
theorem ok_309 : okM 309 = true := by
  show (t_L_main.all fun r => r.all fun q => okE 309 q.1 q.2) = true
  unfold t_L_main
  simp only [List.all_append, ok_309_0, ok_309_1, ok_309_2, ok_309_3, ok_309_4, ok_309_5, ok_309_6, ok_309_7, ok_309_8, ok_309_9, ok_309_10, Bool.and_self]
