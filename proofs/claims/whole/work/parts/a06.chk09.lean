set_option maxRecDepth 100000 in
theorem cl_50 : pgC_50.all (chkE pm_286) = true := by decide +kernel
set_option maxRecDepth 100000 in
theorem cl_51 : pgC_51.all (chkE pm_286) = true := by decide +kernel
set_option maxRecDepth 100000 in
theorem cl_52 : pgC_52.all (chkE pm_286) = true := by decide +kernel
set_option maxRecDepth 100000 in
theorem cl_53 : pgC_53.all (chkE pm_286) = true := by decide +kernel
set_option maxRecDepth 100000 in
theorem cl_54 : pgC_54.all (chkE pm_286) = true := by decide +kernel
set_option maxRecDepth 100000 in
theorem cl_55 : pgC_55.all (chkE pm_286) = true := by decide +kernel
set_option maxRecDepth 100000 in
theorem cl_56 : pgC_56.all (chkE pm_286) = true := by decide +kernel
set_option maxRecDepth 100000 in
theorem cl_57 : pgC_57.all (chkE pm_286) = true := by decide +kernel
set_option maxRecDepth 100000 in
theorem cl_58 : pgC_58.all (chkE pm_286) = true := by decide +kernel
set_option maxRecDepth 100000 in
theorem cl_59 : pgC_59.all (chkE pm_286) = true := by decide +kernel
