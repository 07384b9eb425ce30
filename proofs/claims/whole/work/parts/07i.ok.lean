set_option maxRecDepth 100000 in
theorem ok_310 : okM 310 = true := by decide +kernel
set_option maxRecDepth 100000 in
theorem ok_311 : okM 311 = true := by decide +kernel
