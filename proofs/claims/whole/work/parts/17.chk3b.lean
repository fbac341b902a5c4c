set_option maxRecDepth 100000 in
theorem zhb_58 : (zchn zc_L_law_58 && zc_L_law_58.all (zck zT RL "law" code zc_L_law)) = true := by decide +kernel
set_option maxRecDepth 100000 in
theorem zhb_59 : (zchn zc_L_law_59 && zc_L_law_59.all (zck zT RL "law" code zc_L_law)) = true := by decide +kernel
set_option maxRecDepth 100000 in
theorem zhb_60 : (zchn zc_L_law_60 && zc_L_law_60.all (zck zT RL "law" code zc_L_law)) = true := by decide +kernel
set_option maxRecDepth 100000 in
theorem zhb_61 : (zchn zc_L_law_61 && zc_L_law_61.all (zck zT RL "law" code zc_L_law)) = true := by decide +kernel
set_option maxRecDepth 100000 in
theorem zhb_62 : (zchn zc_L_law_62 && zc_L_law_62.all (zck zT RL "law" code zc_L_law)) = true := by decide +kernel
set_option maxRecDepth 100000 in
theorem zhb_63 : (zchn zc_L_law_63 && zc_L_law_63.all (zck zT RL "law" code zc_L_law)) = true := by decide +kernel
set_option maxRecDepth 100000 in
theorem zhb_64 : (zchn zc_L_law_64 && zc_L_law_64.all (zck zT RL "law" code zc_L_law)) = true := by decide +kernel
set_option maxRecDepth 100000 in
theorem zhb_65 : (zchn zc_L_law_65 && zc_L_law_65.all (zck zT RL "law" code zc_L_law)) = true := by decide +kernel
set_option maxRecDepth 100000 in
theorem zhb_66 : (zchn zc_L_law_66 && zc_L_law_66.all (zck zT RL "law" code zc_L_law)) = true := by decide +kernel
set_option maxRecDepth 100000 in
theorem zhb_67 : (zchn zc_L_law_67 && zc_L_law_67.all (zck zT RL "law" code zc_L_law)) = true := by decide +kernel
set_option maxRecDepth 100000 in
theorem zhb_68 : (zchn zc_L_law_68 && zc_L_law_68.all (zck zT RL "law" code zc_L_law)) = true := by decide +kernel
set_option maxRecDepth 100000 in
theorem zhb_69 : (zchn zc_L_law_69 && zc_L_law_69.all (zck zT RL "law" code zc_L_law)) = true := by decide +kernel
set_option maxRecDepth 100000 in
theorem zhb_70 : (zchn zc_L_law_70 && zc_L_law_70.all (zck zT RL "law" code zc_L_law)) = true := by decide +kernel
set_option maxRecDepth 100000 in
theorem zhb_71 : (zchn zc_L_law_71 && zc_L_law_71.all (zck zT RL "law" code zc_L_law)) = true := by decide +kernel
set_option maxRecDepth 100000 in
theorem zhb_72 : (zchn zc_L_law_72 && zc_L_law_72.all (zck zT RL "law" code zc_L_law)) = true := by decide +kernel
set_option maxRecDepth 100000 in
theorem zhb_73 : (zchn zc_L_law_73 && zc_L_law_73.all (zck zT RL "law" code zc_L_law)) = true := by decide +kernel
set_option maxRecDepth 100000 in
theorem zhb_74 : (zchn zc_L_law_74 && zc_L_law_74.all (zck zT RL "law" code zc_L_law)) = true := by decide +kernel
set_option maxRecDepth 100000 in
theorem zhb_75 : (zchn zc_L_law_75 && zc_L_law_75.all (zck zT RL "law" code zc_L_law)) = true := by decide +kernel
set_option maxRecDepth 100000 in
theorem zhb_76 : (zchn zc_L_law_76 && zc_L_law_76.all (zck zT RL "law" code zc_L_law)) = true := by decide +kernel
set_option maxRecDepth 100000 in
theorem zhb_77 : (zchn zc_L_law_77 && zc_L_law_77.all (zck zT RL "law" code zc_L_law)) = true := by decide +kernel
set_option maxRecDepth 100000 in
theorem zhb_78 : (zchn zc_L_law_78 && zc_L_law_78.all (zck zT RL "law" code zc_L_law)) = true := by decide +kernel
set_option maxRecDepth 100000 in
theorem zhb_79 : (zchn zc_L_law_79 && zc_L_law_79.all (zck zT RL "law" code zc_L_law)) = true := by decide +kernel
set_option maxRecDepth 100000 in
theorem zhb_80 : (zchn zc_L_law_80 && zc_L_law_80.all (zck zT RL "law" code zc_L_law)) = true := by decide +kernel
set_option maxRecDepth 100000 in
theorem zhb_81 : (zchn zc_L_law_81 && zc_L_law_81.all (zck zT RL "law" code zc_L_law)) = true := by decide +kernel
set_option maxRecDepth 100000 in
theorem zhb_82 : (zchn zc_L_law_82 && zc_L_law_82.all (zck zT RL "law" code zc_L_law)) = true := by decide +kernel
set_option maxRecDepth 100000 in
theorem zhb_83 : (zchn zc_L_law_83 && zc_L_law_83.all (zck zT RL "law" code zc_L_law)) = true := by decide +kernel
set_option maxRecDepth 100000 in
theorem zhb_84 : (zchn zc_L_law_84 && zc_L_law_84.all (zck zT RL "law" code zc_L_law)) = true := by decide +kernel
set_option maxRecDepth 100000 in
theorem zhb_85 : (zchn zc_L_law_85 && zc_L_law_85.all (zck zT RL "law" code zc_L_law)) = true := by decide +kernel
set_option maxRecDepth 100000 in
theorem zhb_86 : (zchn zc_L_law_86 && zc_L_law_86.all (zck zT RL "law" code zc_L_law)) = true := by decide +kernel
set_option maxRecDepth 100000 in
theorem zhb_87 : (zchn zc_L_law_87 && zc_L_law_87.all (zck zT RL "law" code zc_L_law)) = true := by decide +kernel
set_option maxRecDepth 100000 in
theorem zhb_88 : (zchn zc_L_law_88 && zc_L_law_88.all (zck zT RL "law" code zc_L_law)) = true := by decide +kernel
set_option maxRecDepth 100000 in
theorem zhb_89 : (zchn zc_L_law_89 && zc_L_law_89.all (zck zT RL "law" code zc_L_law)) = true := by decide +kernel
set_option maxRecDepth 100000 in
theorem zhb_90 : (zchn zc_L_law_90 && zc_L_law_90.all (zck zT RL "law" code zc_L_law)) = true := by decide +kernel
set_option maxRecDepth 100000 in
theorem zhb_91 : (zchn zc_L_law_91 && zc_L_law_91.all (zck zT RL "law" code zc_L_law)) = true := by decide +kernel
set_option maxRecDepth 100000 in
theorem zhb_92 : (zchn zc_L_law_92 && zc_L_law_92.all (zck zT RL "law" code zc_L_law)) = true := by decide +kernel
set_option maxRecDepth 100000 in
theorem zhb_93 : (zchn zc_L_law_93 && zc_L_law_93.all (zck zT RL "law" code zc_L_law)) = true := by decide +kernel
set_option maxRecDepth 100000 in
theorem zhb_94 : (zchn zc_L_law_94 && zc_L_law_94.all (zck zT RL "law" code zc_L_law)) = true := by decide +kernel
set_option maxRecDepth 100000 in
theorem zhb_95 : (zchn zc_L_law_95 && zc_L_law_95.all (zck zT RL "law" code zc_L_law)) = true := by decide +kernel
set_option maxRecDepth 100000 in
theorem zhb_96 : (zchn zc_L_law_96 && zc_L_law_96.all (zck zT RL "law" code zc_L_law)) = true := by decide +kernel
set_option maxRecDepth 100000 in
theorem zhb_97 : (zchn zc_L_law_97 && zc_L_law_97.all (zck zT RL "law" code zc_L_law)) = true := by decide +kernel
set_option maxRecDepth 100000 in
theorem zhb_98 : (zchn zc_L_law_98 && zc_L_law_98.all (zck zT RL "law" code zc_L_law)) = true := by decide +kernel
set_option maxRecDepth 100000 in
theorem zhb_99 : (zchn zc_L_law_99 && zc_L_law_99.all (zck zT RL "law" code zc_L_law)) = true := by decide +kernel
set_option maxRecDepth 100000 in
theorem zhb_100 : (zchn zc_L_law_100 && zc_L_law_100.all (zck zT RL "law" code zc_L_law)) = true := by decide +kernel
set_option maxRecDepth 100000 in
theorem zhb_101 : (zchn zc_L_law_101 && zc_L_law_101.all (zck zT RL "law" code zc_L_law)) = true := by decide +kernel
set_option maxRecDepth 100000 in
theorem zhb_102 : (zchn zc_L_law_102 && zc_L_law_102.all (zck zT RL "law" code zc_L_law)) = true := by decide +kernel
set_option maxRecDepth 100000 in
theorem zhb_103 : (zchn zc_L_law_103 && zc_L_law_103.all (zck zT RL "law" code zc_L_law)) = true := by decide +kernel
set_option maxRecDepth 100000 in
theorem zhb_104 : (zchn zc_L_law_104 && zc_L_law_104.all (zck zT RL "law" code zc_L_law)) = true := by decide +kernel
set_option maxRecDepth 100000 in
theorem zhb_105 : (zchn zc_L_law_105 && zc_L_law_105.all (zck zT RL "law" code zc_L_law)) = true := by decide +kernel
set_option maxRecDepth 100000 in
theorem zhb_106 : (zchn zc_L_law_106 && zc_L_law_106.all (zck zT RL "law" code zc_L_law)) = true := by decide +kernel
set_option maxRecDepth 100000 in
theorem zhb_107 : (zchn zc_L_law_107 && zc_L_law_107.all (zck zT RL "law" code zc_L_law)) = true := by decide +kernel
set_option maxRecDepth 100000 in
theorem zhb_108 : (zchn zc_L_law_108 && zc_L_law_108.all (zck zT RL "law" code zc_L_law)) = true := by decide +kernel
set_option maxRecDepth 100000 in
theorem zhb_109 : (zchn zc_L_law_109 && zc_L_law_109.all (zck zT RL "law" code zc_L_law)) = true := by decide +kernel
set_option maxRecDepth 100000 in
theorem zhb_110 : (zchn zc_L_law_110 && zc_L_law_110.all (zck zT RL "law" code zc_L_law)) = true := by decide +kernel
set_option maxRecDepth 100000 in
theorem zhb_111 : (zchn zc_L_law_111 && zc_L_law_111.all (zck zT RL "law" code zc_L_law)) = true := by decide +kernel
set_option maxRecDepth 100000 in
theorem zhb_112 : (zchn zc_L_law_112 && zc_L_law_112.all (zck zT RL "law" code zc_L_law)) = true := by decide +kernel
set_option maxRecDepth 100000 in
theorem zhb_113 : (zchn zc_L_law_113 && zc_L_law_113.all (zck zT RL "law" code zc_L_law)) = true := by decide +kernel
set_option maxRecDepth 100000 in
theorem zhb_114 : (zchn zc_L_law_114 && zc_L_law_114.all (zck zT RL "law" code zc_L_law)) = true := by decide +kernel
set_option maxRecDepth 100000 in
theorem zhb_115 : (zchn zc_L_law_115 && zc_L_law_115.all (zck zT RL "law" code zc_L_law)) = true := by decide +kernel
