set_option maxRecDepth 100000 in
theorem cl_20 : pgC_20.all (chkE pm_286) = true := by decide +kernel
set_option maxRecDepth 100000 in
theorem cl_21 : pgC_21.all (chkE pm_286) = true := by decide +kernel
set_option maxRecDepth 100000 in
theorem cl_22 : pgC_22.all (chkE pm_286) = true := by decide +kernel
set_option maxRecDepth 100000 in
theorem cl_23 : pgC_23.all (chkE pm_286) = true := by decide +kernel
set_option maxRecDepth 100000 in
theorem cl_24 : pgC_24.all (chkE pm_286) = true := by decide +kernel
set_option maxRecDepth 100000 in
theorem cl_25 : pgC_25.all (chkE pm_286) = true := by decide +kernel
set_option maxRecDepth 100000 in
theorem cl_26 : pgC_26.all (chkE pm_286) = true := by decide +kernel
set_option maxRecDepth 100000 in
theorem cl_27 : pgC_27.all (chkE pm_286) = true := by decide +kernel
set_option maxRecDepth 100000 in
theorem cl_28 : pgC_28.all (chkE pm_286) = true := by decide +kernel
set_option maxRecDepth 100000 in
theorem cl_29 : pgC_29.all (chkE pm_286) = true := by decide +kernel
