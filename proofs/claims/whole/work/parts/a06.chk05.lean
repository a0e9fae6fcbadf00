set_option maxRecDepth 100000 in
theorem cl_10 : pgC_10.all (chkE pm_286) = true := by decide +kernel
set_option maxRecDepth 100000 in
theorem cl_11 : pgC_11.all (chkE pm_286) = true := by decide +kernel
set_option maxRecDepth 100000 in
theorem cl_12 : pgC_12.all (chkE pm_286) = true := by decide +kernel
set_option maxRecDepth 100000 in
theorem cl_13 : pgC_13.all (chkE pm_286) = true := by decide +kernel
set_option maxRecDepth 100000 in
theorem cl_14 : pgC_14.all (chkE pm_286) = true := by decide +kernel
set_option maxRecDepth 100000 in
theorem cl_15 : pgC_15.all (chkE pm_286) = true := by decide +kernel
set_option maxRecDepth 100000 in
theorem cl_16 : pgC_16.all (chkE pm_286) = true := by decide +kernel
set_option maxRecDepth 100000 in
theorem cl_17 : pgC_17.all (chkE pm_286) = true := by decide +kernel
set_option maxRecDepth 100000 in
theorem cl_18 : pgC_18.all (chkE pm_286) = true := by decide +kernel
set_option maxRecDepth 100000 in
theorem cl_19 : pgC_19.all (chkE pm_286) = true := by decide +kernel
