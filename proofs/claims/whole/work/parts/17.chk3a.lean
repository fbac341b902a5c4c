set_option maxRecDepth 100000 in
theorem zhb_0 : (zchn zc_L_law_0 && zc_L_law_0.all (zck zT RL "law" code zc_L_law)) = true := by decide +kernel
set_option maxRecDepth 100000 in
theorem zhb_1 : (zchn zc_L_law_1 && zc_L_law_1.all (zck zT RL "law" code zc_L_law)) = true := by decide +kernel
set_option maxRecDepth 100000 in
theorem zhb_2 : (zchn zc_L_law_2 && zc_L_law_2.all (zck zT RL "law" code zc_L_law)) = true := by decide +kernel
set_option maxRecDepth 100000 in
theorem zhb_3 : (zchn zc_L_law_3 && zc_L_law_3.all (zck zT RL "law" code zc_L_law)) = true := by decide +kernel
set_option maxRecDepth 100000 in
theorem zhb_4 : (zchn zc_L_law_4 && zc_L_law_4.all (zck zT RL "law" code zc_L_law)) = true := by decide +kernel
set_option maxRecDepth 100000 in
theorem zhb_5 : (zchn zc_L_law_5 && zc_L_law_5.all (zck zT RL "law" code zc_L_law)) = true := by decide +kernel
set_option maxRecDepth 100000 in
theorem zhb_6 : (zchn zc_L_law_6 && zc_L_law_6.all (zck zT RL "law" code zc_L_law)) = true := by decide +kernel
set_option maxRecDepth 100000 in
theorem zhb_7 : (zchn zc_L_law_7 && zc_L_law_7.all (zck zT RL "law" code zc_L_law)) = true := by decide +kernel
set_option maxRecDepth 100000 in
theorem zhb_8 : (zchn zc_L_law_8 && zc_L_law_8.all (zck zT RL "law" code zc_L_law)) = true := by decide +kernel
set_option maxRecDepth 100000 in
theorem zhb_9 : (zchn zc_L_law_9 && zc_L_law_9.all (zck zT RL "law" code zc_L_law)) = true := by decide +kernel
set_option maxRecDepth 100000 in
theorem zhb_10 : (zchn zc_L_law_10 && zc_L_law_10.all (zck zT RL "law" code zc_L_law)) = true := by decide +kernel
set_option maxRecDepth 100000 in
theorem zhb_11 : (zchn zc_L_law_11 && zc_L_law_11.all (zck zT RL "law" code zc_L_law)) = true := by decide +kernel
set_option maxRecDepth 100000 in
theorem zhb_12 : (zchn zc_L_law_12 && zc_L_law_12.all (zck zT RL "law" code zc_L_law)) = true := by decide +kernel
set_option maxRecDepth 100000 in
theorem zhb_13 : (zchn zc_L_law_13 && zc_L_law_13.all (zck zT RL "law" code zc_L_law)) = true := by decide +kernel
set_option maxRecDepth 100000 in
theorem zhb_14 : (zchn zc_L_law_14 && zc_L_law_14.all (zck zT RL "law" code zc_L_law)) = true := by decide +kernel
set_option maxRecDepth 100000 in
theorem zhb_15 : (zchn zc_L_law_15 && zc_L_law_15.all (zck zT RL "law" code zc_L_law)) = true := by decide +kernel
set_option maxRecDepth 100000 in
theorem zhb_16 : (zchn zc_L_law_16 && zc_L_law_16.all (zck zT RL "law" code zc_L_law)) = true := by decide +kernel
set_option maxRecDepth 100000 in
theorem zhb_17 : (zchn zc_L_law_17 && zc_L_law_17.all (zck zT RL "law" code zc_L_law)) = true := by decide +kernel
set_option maxRecDepth 100000 in
theorem zhb_18 : (zchn zc_L_law_18 && zc_L_law_18.all (zck zT RL "law" code zc_L_law)) = true := by decide +kernel
set_option maxRecDepth 100000 in
theorem zhb_19 : (zchn zc_L_law_19 && zc_L_law_19.all (zck zT RL "law" code zc_L_law)) = true := by decide +kernel
set_option maxRecDepth 100000 in
theorem zhb_20 : (zchn zc_L_law_20 && zc_L_law_20.all (zck zT RL "law" code zc_L_law)) = true := by decide +kernel
set_option maxRecDepth 100000 in
theorem zhb_21 : (zchn zc_L_law_21 && zc_L_law_21.all (zck zT RL "law" code zc_L_law)) = true := by decide +kernel
set_option maxRecDepth 100000 in
theorem zhb_22 : (zchn zc_L_law_22 && zc_L_law_22.all (zck zT RL "law" code zc_L_law)) = true := by decide +kernel
set_option maxRecDepth 100000 in
theorem zhb_23 : (zchn zc_L_law_23 && zc_L_law_23.all (zck zT RL "law" code zc_L_law)) = true := by decide +kernel
set_option maxRecDepth 100000 in
theorem zhb_24 : (zchn zc_L_law_24 && zc_L_law_24.all (zck zT RL "law" code zc_L_law)) = true := by decide +kernel
set_option maxRecDepth 100000 in
theorem zhb_25 : (zchn zc_L_law_25 && zc_L_law_25.all (zck zT RL "law" code zc_L_law)) = true := by decide +kernel
set_option maxRecDepth 100000 in
theorem zhb_26 : (zchn zc_L_law_26 && zc_L_law_26.all (zck zT RL "law" code zc_L_law)) = true := by decide +kernel
set_option maxRecDepth 100000 in
theorem zhb_27 : (zchn zc_L_law_27 && zc_L_law_27.all (zck zT RL "law" code zc_L_law)) = true := by decide +kernel
set_option maxRecDepth 100000 in
theorem zhb_28 : (zchn zc_L_law_28 && zc_L_law_28.all (zck zT RL "law" code zc_L_law)) = true := by decide +kernel
set_option maxRecDepth 100000 in
theorem zhb_29 : (zchn zc_L_law_29 && zc_L_law_29.all (zck zT RL "law" code zc_L_law)) = true := by decide +kernel
set_option maxRecDepth 100000 in
theorem zhb_30 : (zchn zc_L_law_30 && zc_L_law_30.all (zck zT RL "law" code zc_L_law)) = true := by decide +kernel
set_option maxRecDepth 100000 in
theorem zhb_31 : (zchn zc_L_law_31 && zc_L_law_31.all (zck zT RL "law" code zc_L_law)) = true := by decide +kernel
set_option maxRecDepth 100000 in
theorem zhb_32 : (zchn zc_L_law_32 && zc_L_law_32.all (zck zT RL "law" code zc_L_law)) = true := by decide +kernel
set_option maxRecDepth 100000 in
theorem zhb_33 : (zchn zc_L_law_33 && zc_L_law_33.all (zck zT RL "law" code zc_L_law)) = true := by decide +kernel
set_option maxRecDepth 100000 in
theorem zhb_34 : (zchn zc_L_law_34 && zc_L_law_34.all (zck zT RL "law" code zc_L_law)) = true := by decide +kernel
set_option maxRecDepth 100000 in
theorem zhb_35 : (zchn zc_L_law_35 && zc_L_law_35.all (zck zT RL "law" code zc_L_law)) = true := by decide +kernel
set_option maxRecDepth 100000 in
theorem zhb_36 : (zchn zc_L_law_36 && zc_L_law_36.all (zck zT RL "law" code zc_L_law)) = true := by decide +kernel
set_option maxRecDepth 100000 in
theorem zhb_37 : (zchn zc_L_law_37 && zc_L_law_37.all (zck zT RL "law" code zc_L_law)) = true := by decide +kernel
set_option maxRecDepth 100000 in
theorem zhb_38 : (zchn zc_L_law_38 && zc_L_law_38.all (zck zT RL "law" code zc_L_law)) = true := by decide +kernel
set_option maxRecDepth 100000 in
theorem zhb_39 : (zchn zc_L_law_39 && zc_L_law_39.all (zck zT RL "law" code zc_L_law)) = true := by decide +kernel
set_option maxRecDepth 100000 in
theorem zhb_40 : (zchn zc_L_law_40 && zc_L_law_40.all (zck zT RL "law" code zc_L_law)) = true := by decide +kernel
set_option maxRecDepth 100000 in
theorem zhb_41 : (zchn zc_L_law_41 && zc_L_law_41.all (zck zT RL "law" code zc_L_law)) = true := by decide +kernel
set_option maxRecDepth 100000 in
theorem zhb_42 : (zchn zc_L_law_42 && zc_L_law_42.all (zck zT RL "law" code zc_L_law)) = true := by decide +kernel
set_option maxRecDepth 100000 in
theorem zhb_43 : (zchn zc_L_law_43 && zc_L_law_43.all (zck zT RL "law" code zc_L_law)) = true := by decide +kernel
set_option maxRecDepth 100000 in
theorem zhb_44 : (zchn zc_L_law_44 && zc_L_law_44.all (zck zT RL "law" code zc_L_law)) = true := by decide +kernel
set_option maxRecDepth 100000 in
theorem zhb_45 : (zchn zc_L_law_45 && zc_L_law_45.all (zck zT RL "law" code zc_L_law)) = true := by decide +kernel
set_option maxRecDepth 100000 in
theorem zhb_46 : (zchn zc_L_law_46 && zc_L_law_46.all (zck zT RL "law" code zc_L_law)) = true := by decide +kernel
set_option maxRecDepth 100000 in
theorem zhb_47 : (zchn zc_L_law_47 && zc_L_law_47.all (zck zT RL "law" code zc_L_law)) = true := by decide +kernel
set_option maxRecDepth 100000 in
theorem zhb_48 : (zchn zc_L_law_48 && zc_L_law_48.all (zck zT RL "law" code zc_L_law)) = true := by decide +kernel
set_option maxRecDepth 100000 in
theorem zhb_49 : (zchn zc_L_law_49 && zc_L_law_49.all (zck zT RL "law" code zc_L_law)) = true := by decide +kernel
set_option maxRecDepth 100000 in
theorem zhb_50 : (zchn zc_L_law_50 && zc_L_law_50.all (zck zT RL "law" code zc_L_law)) = true := by decide +kernel
set_option maxRecDepth 100000 in
theorem zhb_51 : (zchn zc_L_law_51 && zc_L_law_51.all (zck zT RL "law" code zc_L_law)) = true := by decide +kernel
set_option maxRecDepth 100000 in
theorem zhb_52 : (zchn zc_L_law_52 && zc_L_law_52.all (zck zT RL "law" code zc_L_law)) = true := by decide +kernel
set_option maxRecDepth 100000 in
theorem zhb_53 : (zchn zc_L_law_53 && zc_L_law_53.all (zck zT RL "law" code zc_L_law)) = true := by decide +kernel
set_option maxRecDepth 100000 in
theorem zhb_54 : (zchn zc_L_law_54 && zc_L_law_54.all (zck zT RL "law" code zc_L_law)) = true := by decide +kernel
set_option maxRecDepth 100000 in
theorem zhb_55 : (zchn zc_L_law_55 && zc_L_law_55.all (zck zT RL "law" code zc_L_law)) = true := by decide +kernel
set_option maxRecDepth 100000 in
theorem zhb_56 : (zchn zc_L_law_56 && zc_L_law_56.all (zck zT RL "law" code zc_L_law)) = true := by decide +kernel
set_option maxRecDepth 100000 in
theorem zhb_57 : (zchn zc_L_law_57 && zc_L_law_57.all (zck zT RL "law" code zc_L_law)) = true := by decide +kernel
