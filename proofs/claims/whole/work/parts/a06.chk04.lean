set_option maxRecDepth 100000 in
theorem cl_0 : pgC_0.all (chkE pm_286) = true := by decide +kernel
set_option maxRecDepth 100000 in
theorem cl_1 : pgC_1.all (chkE pm_286) = true := by decide +kernel
set_option maxRecDepth 100000 in
theorem cl_2 : pgC_2.all (chkE pm_286) = true := by decide +kernel
set_option maxRecDepth 100000 in
theorem cl_3 : pgC_3.all (chkE pm_286) = true := by decide +kernel
set_option maxRecDepth 100000 in
theorem cl_4 : pgC_4.all (chkE pm_286) = true := by decide +kernel
set_option maxRecDepth 100000 in
theorem cl_5 : pgC_5.all (chkE pm_286) = true := by decide +kernel
set_option maxRecDepth 100000 in
theorem cl_6 : pgC_6.all (chkE pm_286) = true := by decide +kernel
set_option maxRecDepth 100000 in
theorem cl_7 : pgC_7.all (chkE pm_286) = true := by decide +kernel
set_option maxRecDepth 100000 in
theorem cl_8 : pgC_8.all (chkE pm_286) = true := by decide +kernel
set_option maxRecDepth 100000 in
theorem cl_9 : pgC_9.all (chkE pm_286) = true := by decide +kernel
