set_option maxRecDepth 100000 in
theorem cl_30 : pgC_30.all (chkE pm_286) = true := by decide +kernel
set_option maxRecDepth 100000 in
theorem cl_31 : pgC_31.all (chkE pm_286) = true := by decide +kernel
set_option maxRecDepth 100000 in
theorem cl_32 : pgC_32.all (chkE pm_286) = true := by decide +kernel
set_option maxRecDepth 100000 in
theorem cl_33 : pgC_33.all (chkE pm_286) = true := by decide +kernel
set_option maxRecDepth 100000 in
theorem cl_34 : pgC_34.all (chkE pm_286) = true := by decide +kernel
set_option maxRecDepth 100000 in
theorem cl_35 : pgC_35.all (chkE pm_286) = true := by decide +kernel
set_option maxRecDepth 100000 in
theorem cl_36 : pgC_36.all (chkE pm_286) = true := by decide +kernel
set_option maxRecDepth 100000 in
theorem cl_37 : pgC_37.all (chkE pm_286) = true := by decide +kernel
set_option maxRecDepth 100000 in
theorem cl_38 : pgC_38.all (chkE pm_286) = true := by decide +kernel
set_option maxRecDepth 100000 in
theorem cl_39 : pgC_39.all (chkE pm_286) = true := by decide +kernel
