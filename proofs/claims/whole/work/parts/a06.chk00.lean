set_option maxRecDepth 100000 in
theorem cm_0 : chkM pm_0 = true := by decide +kernel
set_option maxRecDepth 100000 in
theorem cm_1 : chkM pm_1 = true := by decide +kernel
set_option maxRecDepth 100000 in
theorem cm_2 : chkM pm_2 = true := by decide +kernel
set_option maxRecDepth 100000 in
theorem cm_3 : chkM pm_3 = true := by decide +kernel
set_option maxRecDepth 100000 in
theorem cm_4 : chkM pm_4 = true := by decide +kernel
set_option maxRecDepth 100000 in
theorem cm_5 : chkM pm_5 = true := by decide +kernel
set_option maxRecDepth 100000 in
theorem cm_6 : chkM pm_6 = true := by decide +kernel
set_option maxRecDepth 100000 in
theorem cm_7 : chkM pm_7 = true := by decide +kernel
set_option maxRecDepth 100000 in
theorem cm_8 : chkM pm_8 = true := by decide +kernel
set_option maxRecDepth 100000 in
theorem cm_9 : chkM pm_9 = true := by decide +kernel
set_option maxRecDepth 100000 in
theorem cm_10 : chkM pm_10 = true := by decide +kernel
set_option maxRecDepth 100000 in
theorem cm_11 : chkM pm_11 = true := by decide +kernel
set_option maxRecDepth 100000 in
theorem cm_12 : chkM pm_12 = true := by decide +kernel
set_option maxRecDepth 100000 in
theorem cm_13 : chkM pm_13 = true := by decide +kernel
set_option maxRecDepth 100000 in
theorem cm_14 : chkM pm_14 = true := by decide +kernel
set_option maxRecDepth 100000 in
theorem cm_15 : chkM pm_15 = true := by decide +kernel
set_option maxRecDepth 100000 in
theorem cm_16 : chkM pm_16 = true := by decide +kernel
set_option maxRecDepth 100000 in
theorem cm_17 : chkM pm_17 = true := by decide +kernel
set_option maxRecDepth 100000 in
theorem cm_18 : chkM pm_18 = true := by decide +kernel
set_option maxRecDepth 100000 in
theorem cm_19 : chkM pm_19 = true := by decide +kernel
set_option maxRecDepth 100000 in
theorem cm_20 : chkM pm_20 = true := by decide +kernel
set_option maxRecDepth 100000 in
theorem cm_21 : chkM pm_21 = true := by decide +kernel
set_option maxRecDepth 100000 in
theorem cm_22 : chkM pm_22 = true := by decide +kernel
set_option maxRecDepth 100000 in
theorem cm_23 : chkM pm_23 = true := by decide +kernel
set_option maxRecDepth 100000 in
theorem cm_24 : chkM pm_24 = true := by decide +kernel
set_option maxRecDepth 100000 in
theorem cm_25 : chkM pm_25 = true := by decide +kernel
set_option maxRecDepth 100000 in
theorem cm_26 : chkM pm_26 = true := by decide +kernel
set_option maxRecDepth 100000 in
theorem cm_27 : chkM pm_27 = true := by decide +kernel
set_option maxRecDepth 100000 in
theorem cm_28 : chkM pm_28 = true := by decide +kernel
set_option maxRecDepth 100000 in
theorem cm_29 : chkM pm_29 = true := by decide +kernel
set_option maxRecDepth 100000 in
theorem cm_30 : chkM pm_30 = true := by decide +kernel
set_option maxRecDepth 100000 in
theorem cm_31 : chkM pm_31 = true := by decide +kernel
set_option maxRecDepth 100000 in
theorem cm_32 : chkM pm_32 = true := by decide +kernel
set_option maxRecDepth 100000 in
theorem cm_33 : chkM pm_33 = true := by decide +kernel
set_option maxRecDepth 100000 in
theorem cm_34 : chkM pm_34 = true := by decide +kernel
set_option maxRecDepth 100000 in
theorem cm_35 : chkM pm_35 = true := by decide +kernel
set_option maxRecDepth 100000 in
theorem cm_36 : chkM pm_36 = true := by decide +kernel
set_option maxRecDepth 100000 in
theorem cm_37 : chkM pm_37 = true := by decide +kernel
set_option maxRecDepth 100000 in
theorem cm_38 : chkM pm_38 = true := by decide +kernel
set_option maxRecDepth 100000 in
theorem cm_39 : chkM pm_39 = true := by decide +kernel
set_option maxRecDepth 100000 in
theorem cm_40 : chkM pm_40 = true := by decide +kernel
set_option maxRecDepth 100000 in
theorem cm_41 : chkM pm_41 = true := by decide +kernel
set_option maxRecDepth 100000 in
theorem cm_42 : chkM pm_42 = true := by decide +kernel
set_option maxRecDepth 100000 in
theorem cm_43 : chkM pm_43 = true := by decide +kernel
set_option maxRecDepth 100000 in
theorem cm_44 : chkM pm_44 = true := by decide +kernel
set_option maxRecDepth 100000 in
theorem cm_45 : chkM pm_45 = true := by decide +kernel
set_option maxRecDepth 100000 in
theorem cm_46 : chkM pm_46 = true := by decide +kernel
set_option maxRecDepth 100000 in
theorem cm_47 : chkM pm_47 = true := by decide +kernel
set_option maxRecDepth 100000 in
theorem cm_48 : chkM pm_48 = true := by decide +kernel
set_option maxRecDepth 100000 in
theorem cm_49 : chkM pm_49 = true := by decide +kernel
set_option maxRecDepth 100000 in
theorem cm_50 : chkM pm_50 = true := by decide +kernel
set_option maxRecDepth 100000 in
theorem cm_51 : chkM pm_51 = true := by decide +kernel
set_option maxRecDepth 100000 in
theorem cm_52 : chkM pm_52 = true := by decide +kernel
set_option maxRecDepth 100000 in
theorem cm_53 : chkM pm_53 = true := by decide +kernel
set_option maxRecDepth 100000 in
theorem cm_54 : chkM pm_54 = true := by decide +kernel
set_option maxRecDepth 100000 in
theorem cm_55 : chkM pm_55 = true := by decide +kernel
set_option maxRecDepth 100000 in
theorem cm_56 : chkM pm_56 = true := by decide +kernel
set_option maxRecDepth 100000 in
theorem cm_57 : chkM pm_57 = true := by decide +kernel
set_option maxRecDepth 100000 in
theorem cm_58 : chkM pm_58 = true := by decide +kernel
set_option maxRecDepth 100000 in
theorem cm_59 : chkM pm_59 = true := by decide +kernel
set_option maxRecDepth 100000 in
theorem cm_60 : chkM pm_60 = true := by decide +kernel
set_option maxRecDepth 100000 in
theorem cm_61 : chkM pm_61 = true := by decide +kernel
set_option maxRecDepth 100000 in
theorem cm_62 : chkM pm_62 = true := by decide +kernel
set_option maxRecDepth 100000 in
theorem cm_63 : chkM pm_63 = true := by decide +kernel
set_option maxRecDepth 100000 in
theorem cm_64 : chkM pm_64 = true := by decide +kernel
set_option maxRecDepth 100000 in
theorem cm_65 : chkM pm_65 = true := by decide +kernel
set_option maxRecDepth 100000 in
theorem cm_66 : chkM pm_66 = true := by decide +kernel
set_option maxRecDepth 100000 in
theorem cm_67 : chkM pm_67 = true := by decide +kernel
set_option maxRecDepth 100000 in
theorem cm_68 : chkM pm_68 = true := by decide +kernel
set_option maxRecDepth 100000 in
theorem cm_69 : chkM pm_69 = true := by decide +kernel
set_option maxRecDepth 100000 in
theorem cm_70 : chkM pm_70 = true := by decide +kernel
set_option maxRecDepth 100000 in
theorem cm_71 : chkM pm_71 = true := by decide +kernel
set_option maxRecDepth 100000 in
theorem cm_72 : chkM pm_72 = true := by decide +kernel
set_option maxRecDepth 100000 in
theorem cm_73 : chkM pm_73 = true := by decide +kernel
set_option maxRecDepth 100000 in
theorem cm_74 : chkM pm_74 = true := by decide +kernel
set_option maxRecDepth 100000 in
theorem cm_75 : chkM pm_75 = true := by decide +kernel
set_option maxRecDepth 100000 in
theorem cm_76 : chkM pm_76 = true := by decide +kernel
set_option maxRecDepth 100000 in
theorem cm_77 : chkM pm_77 = true := by decide +kernel
set_option maxRecDepth 100000 in
theorem cm_78 : chkM pm_78 = true := by decide +kernel
set_option maxRecDepth 100000 in
theorem cm_79 : chkM pm_79 = true := by decide +kernel
set_option maxRecDepth 100000 in
theorem cm_80 : chkM pm_80 = true := by decide +kernel
set_option maxRecDepth 100000 in
theorem cm_81 : chkM pm_81 = true := by decide +kernel
set_option maxRecDepth 100000 in
theorem cm_82 : chkM pm_82 = true := by decide +kernel
set_option maxRecDepth 100000 in
theorem cm_83 : chkM pm_83 = true := by decide +kernel
set_option maxRecDepth 100000 in
theorem cm_84 : chkM pm_84 = true := by decide +kernel
set_option maxRecDepth 100000 in
theorem cm_85 : chkM pm_85 = true := by decide +kernel
set_option maxRecDepth 100000 in
theorem cm_86 : chkM pm_86 = true := by decide +kernel
set_option maxRecDepth 100000 in
theorem cm_87 : chkM pm_87 = true := by decide +kernel
set_option maxRecDepth 100000 in
theorem cm_88 : chkM pm_88 = true := by decide +kernel
set_option maxRecDepth 100000 in
theorem cm_89 : chkM pm_89 = true := by decide +kernel
set_option maxRecDepth 100000 in
theorem cm_90 : chkM pm_90 = true := by decide +kernel
set_option maxRecDepth 100000 in
theorem cm_91 : chkM pm_91 = true := by decide +kernel
set_option maxRecDepth 100000 in
theorem cm_92 : chkM pm_92 = true := by decide +kernel
set_option maxRecDepth 100000 in
theorem cm_93 : chkM pm_93 = true := by decide +kernel
set_option maxRecDepth 100000 in
theorem cm_94 : chkM pm_94 = true := by decide +kernel
set_option maxRecDepth 100000 in
theorem cm_95 : chkM pm_95 = true := by decide +kernel
set_option maxRecDepth 100000 in
theorem cm_96 : chkM pm_96 = true := by decide +kernel
set_option maxRecDepth 100000 in
theorem cm_97 : chkM pm_97 = true := by decide +kernel
set_option maxRecDepth 100000 in
theorem cm_98 : chkM pm_98 = true := by decide +kernel
set_option maxRecDepth 100000 in
theorem cm_99 : chkM pm_99 = true := by decide +kernel
