set_option maxRecDepth 100000 in
theorem ok_310 : okM 310 = true := by decide +kernel
set_option maxRecDepth 100000 in
theorem ok_311 : okM 311 = true := by decide +kernel
set_option maxRecDepth 100000 in
theorem ok_312 : okM 312 = true := by decide +kernel
set_option maxRecDepth 100000 in
theorem ok_313 : okM 313 = true := by decide +kernel
set_option maxRecDepth 100000 in
theorem ok_314 : okM 314 = true := by decide +kernel
