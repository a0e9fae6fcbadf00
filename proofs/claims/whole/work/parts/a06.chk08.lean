set_option maxRecDepth 100000 in
theorem cl_40 : pgC_40.all (chkE pm_286) = true := by decide +kernel
set_option maxRecDepth 100000 in
theorem cl_41 : pgC_41.all (chkE pm_286) = true := by decide +kernel
set_option maxRecDepth 100000 in
theorem cl_42 : pgC_42.all (chkE pm_286) = true := by decide +kernel
set_option maxRecDepth 100000 in
theorem cl_43 : pgC_43.all (chkE pm_286) = true := by decide +kernel
set_option maxRecDepth 100000 in
theorem cl_44 : pgC_44.all (chkE pm_286) = true := by decide +kernel
set_option maxRecDepth 100000 in
theorem cl_45 : pgC_45.all (chkE pm_286) = true := by decide +kernel
set_option maxRecDepth 100000 in
theorem cl_46 : pgC_46.all (chkE pm_286) = true := by decide +kernel
set_option maxRecDepth 100000 in
theorem cl_47 : pgC_47.all (chkE pm_286) = true := by decide +kernel
set_option maxRecDepth 100000 in
theorem cl_48 : pgC_48.all (chkE pm_286) = true := by decide +kernel
set_option maxRecDepth 100000 in
theorem cl_49 : pgC_49.all (chkE pm_286) = true := by decide +kernel
