/-! ===== the checks of the tables, method by method ===== -/
set_option maxRecDepth 100000 in
theorem mkP_0 : mchkP 0 = true := by decide +kernel
set_option maxRecDepth 100000 in
theorem mkI_0 : mchkMI 0 = true := by decide +kernel
set_option maxRecDepth 100000 in
theorem mkD_0 : mchkD 0 = true := by decide +kernel
set_option maxRecDepth 100000 in
theorem mkP_1 : mchkP 1 = true := by decide +kernel
set_option maxRecDepth 100000 in
theorem mkI_1 : mchkMI 1 = true := by decide +kernel
set_option maxRecDepth 100000 in
theorem mkD_1 : mchkD 1 = true := by decide +kernel
set_option maxRecDepth 100000 in
theorem mkP_2 : mchkP 2 = true := by decide +kernel
set_option maxRecDepth 100000 in
theorem mkI_2 : mchkMI 2 = true := by decide +kernel
set_option maxRecDepth 100000 in
theorem mkD_2 : mchkD 2 = true := by decide +kernel
set_option maxRecDepth 100000 in
theorem mkP_3 : mchkP 3 = true := by decide +kernel
set_option maxRecDepth 100000 in
theorem mkI_3 : mchkMI 3 = true := by decide +kernel
set_option maxRecDepth 100000 in
theorem mkD_3 : mchkD 3 = true := by decide +kernel
set_option maxRecDepth 100000 in
theorem mkP_4 : mchkP 4 = true := by decide +kernel
set_option maxRecDepth 100000 in
theorem mkI_4 : mchkMI 4 = true := by decide +kernel
set_option maxRecDepth 100000 in
theorem mkD_4 : mchkD 4 = true := by decide +kernel
set_option maxRecDepth 100000 in
theorem mkP_5 : mchkP 5 = true := by decide +kernel
set_option maxRecDepth 100000 in
theorem mkI_5 : mchkMI 5 = true := by decide +kernel
set_option maxRecDepth 100000 in
theorem mkD_5 : mchkD 5 = true := by decide +kernel
set_option maxRecDepth 100000 in
theorem mkP_6 : mchkP 6 = true := by decide +kernel
set_option maxRecDepth 100000 in
theorem mkI_6 : mchkMI 6 = true := by decide +kernel
set_option maxRecDepth 100000 in
theorem mkD_6 : mchkD 6 = true := by decide +kernel
set_option maxRecDepth 100000 in
theorem mkP_7 : mchkP 7 = true := by decide +kernel
set_option maxRecDepth 100000 in
theorem mkI_7 : mchkMI 7 = true := by decide +kernel
set_option maxRecDepth 100000 in
theorem mkD_7 : mchkD 7 = true := by decide +kernel
set_option maxRecDepth 100000 in
theorem mkP_8 : mchkP 8 = true := by decide +kernel
set_option maxRecDepth 100000 in
theorem mkI_8 : mchkMI 8 = true := by decide +kernel
set_option maxRecDepth 100000 in
theorem mkD_8 : mchkD 8 = true := by decide +kernel
set_option maxRecDepth 100000 in
theorem mkP_9 : mchkP 9 = true := by decide +kernel
set_option maxRecDepth 100000 in
theorem mkI_9 : mchkMI 9 = true := by decide +kernel
set_option maxRecDepth 100000 in
theorem mkD_9 : mchkD 9 = true := by decide +kernel
set_option maxRecDepth 100000 in
theorem mkP_10 : mchkP 10 = true := by decide +kernel
set_option maxRecDepth 100000 in
theorem mkI_10 : mchkMI 10 = true := by decide +kernel
set_option maxRecDepth 100000 in
theorem mkD_10 : mchkD 10 = true := by decide +kernel
set_option maxRecDepth 100000 in
theorem mkP_11 : mchkP 11 = true := by decide +kernel
set_option maxRecDepth 100000 in
theorem mkI_11 : mchkMI 11 = true := by decide +kernel
set_option maxRecDepth 100000 in
theorem mkD_11 : mchkD 11 = true := by decide +kernel
set_option maxRecDepth 100000 in
theorem mkP_12 : mchkP 12 = true := by decide +kernel
set_option maxRecDepth 100000 in
theorem mkI_12 : mchkMI 12 = true := by decide +kernel
set_option maxRecDepth 100000 in
theorem mkD_12 : mchkD 12 = true := by decide +kernel
set_option maxRecDepth 100000 in
theorem mkP_13 : mchkP 13 = true := by decide +kernel
set_option maxRecDepth 100000 in
theorem mkI_13 : mchkMI 13 = true := by decide +kernel
set_option maxRecDepth 100000 in
theorem mkD_13 : mchkD 13 = true := by decide +kernel
set_option maxRecDepth 100000 in
theorem mkP_14 : mchkP 14 = true := by decide +kernel
set_option maxRecDepth 100000 in
theorem mkI_14 : mchkMI 14 = true := by decide +kernel
set_option maxRecDepth 100000 in
theorem mkD_14 : mchkD 14 = true := by decide +kernel
set_option maxRecDepth 100000 in
theorem mkP_15 : mchkP 15 = true := by decide +kernel
set_option maxRecDepth 100000 in
theorem mkI_15 : mchkMI 15 = true := by decide +kernel
set_option maxRecDepth 100000 in
theorem mkD_15 : mchkD 15 = true := by decide +kernel
set_option maxRecDepth 100000 in
theorem mkP_16 : mchkP 16 = true := by decide +kernel
set_option maxRecDepth 100000 in
theorem mkI_16 : mchkMI 16 = true := by decide +kernel
set_option maxRecDepth 100000 in
theorem mkD_16 : mchkD 16 = true := by decide +kernel
set_option maxRecDepth 100000 in
theorem mkP_17 : mchkP 17 = true := by decide +kernel
set_option maxRecDepth 100000 in
theorem mkI_17 : mchkMI 17 = true := by decide +kernel
set_option maxRecDepth 100000 in
theorem mkD_17 : mchkD 17 = true := by decide +kernel
set_option maxRecDepth 100000 in
theorem mkP_18 : mchkP 18 = true := by decide +kernel
set_option maxRecDepth 100000 in
theorem mkI_18 : mchkMI 18 = true := by decide +kernel
set_option maxRecDepth 100000 in
theorem mkD_18 : mchkD 18 = true := by decide +kernel
set_option maxRecDepth 100000 in
theorem mkP_19 : mchkP 19 = true := by decide +kernel
set_option maxRecDepth 100000 in
theorem mkI_19 : mchkMI 19 = true := by decide +kernel
set_option maxRecDepth 100000 in
theorem mkD_19 : mchkD 19 = true := by decide +kernel
set_option maxRecDepth 100000 in
theorem mkP_20 : mchkP 20 = true := by decide +kernel
set_option maxRecDepth 100000 in
theorem mkI_20 : mchkMI 20 = true := by decide +kernel
set_option maxRecDepth 100000 in
theorem mkD_20 : mchkD 20 = true := by decide +kernel
set_option maxRecDepth 100000 in
theorem mkP_21 : mchkP 21 = true := by decide +kernel
set_option maxRecDepth 100000 in
theorem mkI_21 : mchkMI 21 = true := by decide +kernel
set_option maxRecDepth 100000 in
theorem mkD_21 : mchkD 21 = true := by decide +kernel
set_option maxRecDepth 100000 in
theorem mkP_22 : mchkP 22 = true := by decide +kernel
set_option maxRecDepth 100000 in
theorem mkI_22 : mchkMI 22 = true := by decide +kernel
set_option maxRecDepth 100000 in
theorem mkD_22 : mchkD 22 = true := by decide +kernel
set_option maxRecDepth 100000 in
theorem mkP_23 : mchkP 23 = true := by decide +kernel
set_option maxRecDepth 100000 in
theorem mkI_23 : mchkMI 23 = true := by decide +kernel
set_option maxRecDepth 100000 in
theorem mkD_23 : mchkD 23 = true := by decide +kernel
set_option maxRecDepth 100000 in
theorem mkP_24 : mchkP 24 = true := by decide +kernel
set_option maxRecDepth 100000 in
theorem mkI_24 : mchkMI 24 = true := by decide +kernel
set_option maxRecDepth 100000 in
theorem mkD_24 : mchkD 24 = true := by decide +kernel
set_option maxRecDepth 100000 in
theorem mkP_25 : mchkP 25 = true := by decide +kernel
set_option maxRecDepth 100000 in
theorem mkI_25 : mchkMI 25 = true := by decide +kernel
set_option maxRecDepth 100000 in
theorem mkD_25 : mchkD 25 = true := by decide +kernel
set_option maxRecDepth 100000 in
theorem mkP_26 : mchkP 26 = true := by decide +kernel
set_option maxRecDepth 100000 in
theorem mkI_26 : mchkMI 26 = true := by decide +kernel
set_option maxRecDepth 100000 in
theorem mkD_26 : mchkD 26 = true := by decide +kernel
set_option maxRecDepth 100000 in
theorem mkP_27 : mchkP 27 = true := by decide +kernel
set_option maxRecDepth 100000 in
theorem mkI_27 : mchkMI 27 = true := by decide +kernel
set_option maxRecDepth 100000 in
theorem mkD_27 : mchkD 27 = true := by decide +kernel
set_option maxRecDepth 100000 in
theorem mkP_28 : mchkP 28 = true := by decide +kernel
set_option maxRecDepth 100000 in
theorem mkI_28 : mchkMI 28 = true := by decide +kernel
set_option maxRecDepth 100000 in
theorem mkD_28 : mchkD 28 = true := by decide +kernel
set_option maxRecDepth 100000 in
theorem mkP_29 : mchkP 29 = true := by decide +kernel
set_option maxRecDepth 100000 in
theorem mkI_29 : mchkMI 29 = true := by decide +kernel
set_option maxRecDepth 100000 in
theorem mkD_29 : mchkD 29 = true := by decide +kernel
set_option maxRecDepth 100000 in
theorem mkP_30 : mchkP 30 = true := by decide +kernel
set_option maxRecDepth 100000 in
theorem mkI_30 : mchkMI 30 = true := by decide +kernel
set_option maxRecDepth 100000 in
theorem mkD_30 : mchkD 30 = true := by decide +kernel
set_option maxRecDepth 100000 in
theorem mkP_31 : mchkP 31 = true := by decide +kernel
set_option maxRecDepth 100000 in
theorem mkI_31 : mchkMI 31 = true := by decide +kernel
set_option maxRecDepth 100000 in
theorem mkD_31 : mchkD 31 = true := by decide +kernel
set_option maxRecDepth 100000 in
theorem mkP_32 : mchkP 32 = true := by decide +kernel
set_option maxRecDepth 100000 in
theorem mkI_32 : mchkMI 32 = true := by decide +kernel
set_option maxRecDepth 100000 in
theorem mkD_32 : mchkD 32 = true := by decide +kernel
set_option maxRecDepth 100000 in
theorem mkP_33 : mchkP 33 = true := by decide +kernel
set_option maxRecDepth 100000 in
theorem mkI_33 : mchkMI 33 = true := by decide +kernel
set_option maxRecDepth 100000 in
theorem mkD_33 : mchkD 33 = true := by decide +kernel
set_option maxRecDepth 100000 in
theorem mkP_34 : mchkP 34 = true := by decide +kernel
set_option maxRecDepth 100000 in
theorem mkI_34 : mchkMI 34 = true := by decide +kernel
set_option maxRecDepth 100000 in
theorem mkD_34 : mchkD 34 = true := by decide +kernel
set_option maxRecDepth 100000 in
theorem mkP_35 : mchkP 35 = true := by decide +kernel
set_option maxRecDepth 100000 in
theorem mkI_35 : mchkMI 35 = true := by decide +kernel
set_option maxRecDepth 100000 in
theorem mkD_35 : mchkD 35 = true := by decide +kernel
set_option maxRecDepth 100000 in
theorem mkP_36 : mchkP 36 = true := by decide +kernel
set_option maxRecDepth 100000 in
theorem mkI_36 : mchkMI 36 = true := by decide +kernel
set_option maxRecDepth 100000 in
theorem mkD_36 : mchkD 36 = true := by decide +kernel
set_option maxRecDepth 100000 in
theorem mkP_37 : mchkP 37 = true := by decide +kernel
set_option maxRecDepth 100000 in
theorem mkI_37 : mchkMI 37 = true := by decide +kernel
set_option maxRecDepth 100000 in
theorem mkD_37 : mchkD 37 = true := by decide +kernel
set_option maxRecDepth 100000 in
theorem mkP_38 : mchkP 38 = true := by decide +kernel
set_option maxRecDepth 100000 in
theorem mkI_38 : mchkMI 38 = true := by decide +kernel
set_option maxRecDepth 100000 in
theorem mkD_38 : mchkD 38 = true := by decide +kernel
set_option maxRecDepth 100000 in
theorem mkP_39 : mchkP 39 = true := by decide +kernel
set_option maxRecDepth 100000 in
theorem mkI_39 : mchkMI 39 = true := by decide +kernel
set_option maxRecDepth 100000 in
theorem mkD_39 : mchkD 39 = true := by decide +kernel
set_option maxRecDepth 100000 in
theorem mkP_40 : mchkP 40 = true := by decide +kernel
set_option maxRecDepth 100000 in
theorem mkI_40 : mchkMI 40 = true := by decide +kernel
set_option maxRecDepth 100000 in
theorem mkD_40 : mchkD 40 = true := by decide +kernel
set_option maxRecDepth 100000 in
theorem mkP_41 : mchkP 41 = true := by decide +kernel
set_option maxRecDepth 100000 in
theorem mkI_41 : mchkMI 41 = true := by decide +kernel
set_option maxRecDepth 100000 in
theorem mkD_41 : mchkD 41 = true := by decide +kernel
set_option maxRecDepth 100000 in
theorem mkP_42 : mchkP 42 = true := by decide +kernel
set_option maxRecDepth 100000 in
theorem mkI_42 : mchkMI 42 = true := by decide +kernel
set_option maxRecDepth 100000 in
theorem mkD_42 : mchkD 42 = true := by decide +kernel
set_option maxRecDepth 100000 in
theorem mkP_43 : mchkP 43 = true := by decide +kernel
set_option maxRecDepth 100000 in
theorem mkI_43 : mchkMI 43 = true := by decide +kernel
set_option maxRecDepth 100000 in
theorem mkD_43 : mchkD 43 = true := by decide +kernel
set_option maxRecDepth 100000 in
theorem mkP_44 : mchkP 44 = true := by decide +kernel
set_option maxRecDepth 100000 in
theorem mkI_44 : mchkMI 44 = true := by decide +kernel
set_option maxRecDepth 100000 in
theorem mkD_44 : mchkD 44 = true := by decide +kernel
set_option maxRecDepth 100000 in
theorem mkP_45 : mchkP 45 = true := by decide +kernel
set_option maxRecDepth 100000 in
theorem mkI_45 : mchkMI 45 = true := by decide +kernel
set_option maxRecDepth 100000 in
theorem mkD_45 : mchkD 45 = true := by decide +kernel
set_option maxRecDepth 100000 in
theorem mkP_46 : mchkP 46 = true := by decide +kernel
set_option maxRecDepth 100000 in
theorem mkI_46 : mchkMI 46 = true := by decide +kernel
set_option maxRecDepth 100000 in
theorem mkD_46 : mchkD 46 = true := by decide +kernel
set_option maxRecDepth 100000 in
theorem mkP_47 : mchkP 47 = true := by decide +kernel
set_option maxRecDepth 100000 in
theorem mkI_47 : mchkMI 47 = true := by decide +kernel
set_option maxRecDepth 100000 in
theorem mkD_47 : mchkD 47 = true := by decide +kernel
set_option maxRecDepth 100000 in
theorem mkP_48 : mchkP 48 = true := by decide +kernel
set_option maxRecDepth 100000 in
theorem mkI_48 : mchkMI 48 = true := by decide +kernel
set_option maxRecDepth 100000 in
theorem mkD_48 : mchkD 48 = true := by decide +kernel
set_option maxRecDepth 100000 in
theorem mkP_49 : mchkP 49 = true := by decide +kernel
set_option maxRecDepth 100000 in
theorem mkI_49 : mchkMI 49 = true := by decide +kernel
set_option maxRecDepth 100000 in
theorem mkD_49 : mchkD 49 = true := by decide +kernel
set_option maxRecDepth 100000 in
theorem mkP_50 : mchkP 50 = true := by decide +kernel
set_option maxRecDepth 100000 in
theorem mkI_50 : mchkMI 50 = true := by decide +kernel
set_option maxRecDepth 100000 in
theorem mkD_50 : mchkD 50 = true := by decide +kernel
set_option maxRecDepth 100000 in
theorem mkP_51 : mchkP 51 = true := by decide +kernel
set_option maxRecDepth 100000 in
theorem mkI_51 : mchkMI 51 = true := by decide +kernel
set_option maxRecDepth 100000 in
theorem mkD_51 : mchkD 51 = true := by decide +kernel
set_option maxRecDepth 100000 in
theorem mkP_52 : mchkP 52 = true := by decide +kernel
set_option maxRecDepth 100000 in
theorem mkI_52 : mchkMI 52 = true := by decide +kernel
set_option maxRecDepth 100000 in
theorem mkD_52 : mchkD 52 = true := by decide +kernel
set_option maxRecDepth 100000 in
theorem mkP_53 : mchkP 53 = true := by decide +kernel
set_option maxRecDepth 100000 in
theorem mkI_53 : mchkMI 53 = true := by decide +kernel
set_option maxRecDepth 100000 in
theorem mkD_53 : mchkD 53 = true := by decide +kernel
set_option maxRecDepth 100000 in
theorem mkP_54 : mchkP 54 = true := by decide +kernel
set_option maxRecDepth 100000 in
theorem mkI_54 : mchkMI 54 = true := by decide +kernel
set_option maxRecDepth 100000 in
theorem mkD_54 : mchkD 54 = true := by decide +kernel
set_option maxRecDepth 100000 in
theorem mkP_55 : mchkP 55 = true := by decide +kernel
set_option maxRecDepth 100000 in
theorem mkI_55 : mchkMI 55 = true := by decide +kernel
set_option maxRecDepth 100000 in
theorem mkD_55 : mchkD 55 = true := by decide +kernel
set_option maxRecDepth 100000 in
theorem mkP_56 : mchkP 56 = true := by decide +kernel
set_option maxRecDepth 100000 in
theorem mkI_56 : mchkMI 56 = true := by decide +kernel
set_option maxRecDepth 100000 in
theorem mkD_56 : mchkD 56 = true := by decide +kernel
set_option maxRecDepth 100000 in
theorem mkP_57 : mchkP 57 = true := by decide +kernel
set_option maxRecDepth 100000 in
theorem mkI_57 : mchkMI 57 = true := by decide +kernel
set_option maxRecDepth 100000 in
theorem mkD_57 : mchkD 57 = true := by decide +kernel
set_option maxRecDepth 100000 in
theorem mkP_58 : mchkP 58 = true := by decide +kernel
set_option maxRecDepth 100000 in
theorem mkI_58 : mchkMI 58 = true := by decide +kernel
set_option maxRecDepth 100000 in
theorem mkD_58 : mchkD 58 = true := by decide +kernel
set_option maxRecDepth 100000 in
theorem mkP_59 : mchkP 59 = true := by decide +kernel
set_option maxRecDepth 100000 in
theorem mkI_59 : mchkMI 59 = true := by decide +kernel
set_option maxRecDepth 100000 in
theorem mkD_59 : mchkD 59 = true := by decide +kernel
set_option maxRecDepth 100000 in
theorem mkP_60 : mchkP 60 = true := by decide +kernel
set_option maxRecDepth 100000 in
theorem mkI_60 : mchkMI 60 = true := by decide +kernel
set_option maxRecDepth 100000 in
theorem mkD_60 : mchkD 60 = true := by decide +kernel
set_option maxRecDepth 100000 in
theorem mkP_61 : mchkP 61 = true := by decide +kernel
set_option maxRecDepth 100000 in
theorem mkI_61 : mchkMI 61 = true := by decide +kernel
set_option maxRecDepth 100000 in
theorem mkD_61 : mchkD 61 = true := by decide +kernel
set_option maxRecDepth 100000 in
theorem mkP_62 : mchkP 62 = true := by decide +kernel
set_option maxRecDepth 100000 in
theorem mkI_62 : mchkMI 62 = true := by decide +kernel
set_option maxRecDepth 100000 in
theorem mkD_62 : mchkD 62 = true := by decide +kernel
set_option maxRecDepth 100000 in
theorem mkP_63 : mchkP 63 = true := by decide +kernel
set_option maxRecDepth 100000 in
theorem mkI_63 : mchkMI 63 = true := by decide +kernel
set_option maxRecDepth 100000 in
theorem mkD_63 : mchkD 63 = true := by decide +kernel
set_option maxRecDepth 100000 in
theorem mkP_64 : mchkP 64 = true := by decide +kernel
set_option maxRecDepth 100000 in
theorem mkI_64 : mchkMI 64 = true := by decide +kernel
set_option maxRecDepth 100000 in
theorem mkD_64 : mchkD 64 = true := by decide +kernel
set_option maxRecDepth 100000 in
theorem mkP_65 : mchkP 65 = true := by decide +kernel
set_option maxRecDepth 100000 in
theorem mkI_65 : mchkMI 65 = true := by decide +kernel
set_option maxRecDepth 100000 in
theorem mkD_65 : mchkD 65 = true := by decide +kernel
set_option maxRecDepth 100000 in
theorem mkP_66 : mchkP 66 = true := by decide +kernel
set_option maxRecDepth 100000 in
theorem mkI_66 : mchkMI 66 = true := by decide +kernel
set_option maxRecDepth 100000 in
theorem mkD_66 : mchkD 66 = true := by decide +kernel
set_option maxRecDepth 100000 in
theorem mkP_67 : mchkP 67 = true := by decide +kernel
set_option maxRecDepth 100000 in
theorem mkI_67 : mchkMI 67 = true := by decide +kernel
set_option maxRecDepth 100000 in
theorem mkD_67 : mchkD 67 = true := by decide +kernel
set_option maxRecDepth 100000 in
theorem mkP_68 : mchkP 68 = true := by decide +kernel
set_option maxRecDepth 100000 in
theorem mkI_68 : mchkMI 68 = true := by decide +kernel
set_option maxRecDepth 100000 in
theorem mkD_68 : mchkD 68 = true := by decide +kernel
set_option maxRecDepth 100000 in
theorem mkP_69 : mchkP 69 = true := by decide +kernel
set_option maxRecDepth 100000 in
theorem mkI_69 : mchkMI 69 = true := by decide +kernel
set_option maxRecDepth 100000 in
theorem mkD_69 : mchkD 69 = true := by decide +kernel
set_option maxRecDepth 100000 in
theorem mkP_70 : mchkP 70 = true := by decide +kernel
set_option maxRecDepth 100000 in
theorem mkI_70 : mchkMI 70 = true := by decide +kernel
set_option maxRecDepth 100000 in
theorem mkD_70 : mchkD 70 = true := by decide +kernel
set_option maxRecDepth 100000 in
theorem mkP_71 : mchkP 71 = true := by decide +kernel
set_option maxRecDepth 100000 in
theorem mkI_71 : mchkMI 71 = true := by decide +kernel
set_option maxRecDepth 100000 in
theorem mkD_71 : mchkD 71 = true := by decide +kernel
set_option maxRecDepth 100000 in
theorem mkP_72 : mchkP 72 = true := by decide +kernel
set_option maxRecDepth 100000 in
theorem mkI_72 : mchkMI 72 = true := by decide +kernel
set_option maxRecDepth 100000 in
theorem mkD_72 : mchkD 72 = true := by decide +kernel
set_option maxRecDepth 100000 in
theorem mkP_73 : mchkP 73 = true := by decide +kernel
set_option maxRecDepth 100000 in
theorem mkI_73 : mchkMI 73 = true := by decide +kernel
set_option maxRecDepth 100000 in
theorem mkD_73 : mchkD 73 = true := by decide +kernel
set_option maxRecDepth 100000 in
theorem mkP_74 : mchkP 74 = true := by decide +kernel
set_option maxRecDepth 100000 in
theorem mkI_74 : mchkMI 74 = true := by decide +kernel
set_option maxRecDepth 100000 in
theorem mkD_74 : mchkD 74 = true := by decide +kernel
set_option maxRecDepth 100000 in
theorem mkP_75 : mchkP 75 = true := by decide +kernel
set_option maxRecDepth 100000 in
theorem mkI_75 : mchkMI 75 = true := by decide +kernel
set_option maxRecDepth 100000 in
theorem mkD_75 : mchkD 75 = true := by decide +kernel
set_option maxRecDepth 100000 in
theorem mkP_76 : mchkP 76 = true := by decide +kernel
set_option maxRecDepth 100000 in
theorem mkI_76 : mchkMI 76 = true := by decide +kernel
set_option maxRecDepth 100000 in
theorem mkD_76 : mchkD 76 = true := by decide +kernel
set_option maxRecDepth 100000 in
theorem mkP_77 : mchkP 77 = true := by decide +kernel
set_option maxRecDepth 100000 in
theorem mkI_77 : mchkMI 77 = true := by decide +kernel
set_option maxRecDepth 100000 in
theorem mkD_77 : mchkD 77 = true := by decide +kernel
set_option maxRecDepth 100000 in
theorem mkP_78 : mchkP 78 = true := by decide +kernel
set_option maxRecDepth 100000 in
theorem mkI_78 : mchkMI 78 = true := by decide +kernel
set_option maxRecDepth 100000 in
theorem mkD_78 : mchkD 78 = true := by decide +kernel
set_option maxRecDepth 100000 in
theorem mkP_79 : mchkP 79 = true := by decide +kernel
set_option maxRecDepth 100000 in
theorem mkI_79 : mchkMI 79 = true := by decide +kernel
set_option maxRecDepth 100000 in
theorem mkD_79 : mchkD 79 = true := by decide +kernel
set_option maxRecDepth 100000 in
theorem mkP_80 : mchkP 80 = true := by decide +kernel
set_option maxRecDepth 100000 in
theorem mkI_80 : mchkMI 80 = true := by decide +kernel
set_option maxRecDepth 100000 in
theorem mkD_80 : mchkD 80 = true := by decide +kernel
set_option maxRecDepth 100000 in
theorem mkP_81 : mchkP 81 = true := by decide +kernel
set_option maxRecDepth 100000 in
theorem mkI_81 : mchkMI 81 = true := by decide +kernel
set_option maxRecDepth 100000 in
theorem mkD_81 : mchkD 81 = true := by decide +kernel
set_option maxRecDepth 100000 in
theorem mkP_82 : mchkP 82 = true := by decide +kernel
set_option maxRecDepth 100000 in
theorem mkI_82 : mchkMI 82 = true := by decide +kernel
set_option maxRecDepth 100000 in
theorem mkD_82 : mchkD 82 = true := by decide +kernel
set_option maxRecDepth 100000 in
theorem mkP_83 : mchkP 83 = true := by decide +kernel
set_option maxRecDepth 100000 in
theorem mkI_83 : mchkMI 83 = true := by decide +kernel
set_option maxRecDepth 100000 in
theorem mkD_83 : mchkD 83 = true := by decide +kernel
set_option maxRecDepth 100000 in
theorem mkP_84 : mchkP 84 = true := by decide +kernel
set_option maxRecDepth 100000 in
theorem mkI_84 : mchkMI 84 = true := by decide +kernel
set_option maxRecDepth 100000 in
theorem mkD_84 : mchkD 84 = true := by decide +kernel
set_option maxRecDepth 100000 in
theorem mkP_85 : mchkP 85 = true := by decide +kernel
set_option maxRecDepth 100000 in
theorem mkI_85 : mchkMI 85 = true := by decide +kernel
set_option maxRecDepth 100000 in
theorem mkD_85 : mchkD 85 = true := by decide +kernel
set_option maxRecDepth 100000 in
theorem mkP_86 : mchkP 86 = true := by decide +kernel
set_option maxRecDepth 100000 in
theorem mkI_86 : mchkMI 86 = true := by decide +kernel
set_option maxRecDepth 100000 in
theorem mkD_86 : mchkD 86 = true := by decide +kernel
set_option maxRecDepth 100000 in
theorem mkP_87 : mchkP 87 = true := by decide +kernel
set_option maxRecDepth 100000 in
theorem mkI_87 : mchkMI 87 = true := by decide +kernel
set_option maxRecDepth 100000 in
theorem mkD_87 : mchkD 87 = true := by decide +kernel
set_option maxRecDepth 100000 in
theorem mkP_88 : mchkP 88 = true := by decide +kernel
set_option maxRecDepth 100000 in
theorem mkI_88 : mchkMI 88 = true := by decide +kernel
set_option maxRecDepth 100000 in
theorem mkD_88 : mchkD 88 = true := by decide +kernel
set_option maxRecDepth 100000 in
theorem mkP_89 : mchkP 89 = true := by decide +kernel
set_option maxRecDepth 100000 in
theorem mkI_89 : mchkMI 89 = true := by decide +kernel
set_option maxRecDepth 100000 in
theorem mkD_89 : mchkD 89 = true := by decide +kernel
set_option maxRecDepth 100000 in
theorem mkP_90 : mchkP 90 = true := by decide +kernel
set_option maxRecDepth 100000 in
theorem mkI_90 : mchkMI 90 = true := by decide +kernel
set_option maxRecDepth 100000 in
theorem mkD_90 : mchkD 90 = true := by decide +kernel
set_option maxRecDepth 100000 in
theorem mkP_91 : mchkP 91 = true := by decide +kernel
set_option maxRecDepth 100000 in
theorem mkI_91 : mchkMI 91 = true := by decide +kernel
set_option maxRecDepth 100000 in
theorem mkD_91 : mchkD 91 = true := by decide +kernel
set_option maxRecDepth 100000 in
theorem mkP_92 : mchkP 92 = true := by decide +kernel
set_option maxRecDepth 100000 in
theorem mkI_92 : mchkMI 92 = true := by decide +kernel
set_option maxRecDepth 100000 in
theorem mkD_92 : mchkD 92 = true := by decide +kernel
set_option maxRecDepth 100000 in
theorem mkP_93 : mchkP 93 = true := by decide +kernel
set_option maxRecDepth 100000 in
theorem mkI_93 : mchkMI 93 = true := by decide +kernel
set_option maxRecDepth 100000 in
theorem mkD_93 : mchkD 93 = true := by decide +kernel
set_option maxRecDepth 100000 in
theorem mkP_94 : mchkP 94 = true := by decide +kernel
set_option maxRecDepth 100000 in
theorem mkI_94 : mchkMI 94 = true := by decide +kernel
set_option maxRecDepth 100000 in
theorem mkD_94 : mchkD 94 = true := by decide +kernel
set_option maxRecDepth 100000 in
theorem mkP_95 : mchkP 95 = true := by decide +kernel
set_option maxRecDepth 100000 in
theorem mkI_95 : mchkMI 95 = true := by decide +kernel
set_option maxRecDepth 100000 in
theorem mkD_95 : mchkD 95 = true := by decide +kernel
set_option maxRecDepth 100000 in
theorem mkP_96 : mchkP 96 = true := by decide +kernel
set_option maxRecDepth 100000 in
theorem mkI_96 : mchkMI 96 = true := by decide +kernel
set_option maxRecDepth 100000 in
theorem mkD_96 : mchkD 96 = true := by decide +kernel
set_option maxRecDepth 100000 in
theorem mkP_97 : mchkP 97 = true := by decide +kernel
set_option maxRecDepth 100000 in
theorem mkI_97 : mchkMI 97 = true := by decide +kernel
set_option maxRecDepth 100000 in
theorem mkD_97 : mchkD 97 = true := by decide +kernel
set_option maxRecDepth 100000 in
theorem mkP_98 : mchkP 98 = true := by decide +kernel
set_option maxRecDepth 100000 in
theorem mkI_98 : mchkMI 98 = true := by decide +kernel
set_option maxRecDepth 100000 in
theorem mkD_98 : mchkD 98 = true := by decide +kernel
set_option maxRecDepth 100000 in
theorem mkP_99 : mchkP 99 = true := by decide +kernel
set_option maxRecDepth 100000 in
theorem mkI_99 : mchkMI 99 = true := by decide +kernel
set_option maxRecDepth 100000 in
theorem mkD_99 : mchkD 99 = true := by decide +kernel
set_option maxRecDepth 100000 in
theorem mkP_100 : mchkP 100 = true := by decide +kernel
set_option maxRecDepth 100000 in
theorem mkI_100 : mchkMI 100 = true := by decide +kernel
set_option maxRecDepth 100000 in
theorem mkD_100 : mchkD 100 = true := by decide +kernel
set_option maxRecDepth 100000 in
theorem mkP_101 : mchkP 101 = true := by decide +kernel
set_option maxRecDepth 100000 in
theorem mkI_101 : mchkMI 101 = true := by decide +kernel
set_option maxRecDepth 100000 in
theorem mkD_101 : mchkD 101 = true := by decide +kernel
set_option maxRecDepth 100000 in
theorem mkP_102 : mchkP 102 = true := by decide +kernel
set_option maxRecDepth 100000 in
theorem mkI_102 : mchkMI 102 = true := by decide +kernel
set_option maxRecDepth 100000 in
theorem mkD_102 : mchkD 102 = true := by decide +kernel
set_option maxRecDepth 100000 in
theorem mkP_103 : mchkP 103 = true := by decide +kernel
set_option maxRecDepth 100000 in
theorem mkI_103 : mchkMI 103 = true := by decide +kernel
set_option maxRecDepth 100000 in
theorem mkD_103 : mchkD 103 = true := by decide +kernel
set_option maxRecDepth 100000 in
theorem mkP_104 : mchkP 104 = true := by decide +kernel
set_option maxRecDepth 100000 in
theorem mkI_104 : mchkMI 104 = true := by decide +kernel
set_option maxRecDepth 100000 in
theorem mkD_104 : mchkD 104 = true := by decide +kernel
set_option maxRecDepth 100000 in
theorem mkP_105 : mchkP 105 = true := by decide +kernel
set_option maxRecDepth 100000 in
theorem mkI_105 : mchkMI 105 = true := by decide +kernel
set_option maxRecDepth 100000 in
theorem mkD_105 : mchkD 105 = true := by decide +kernel
set_option maxRecDepth 100000 in
theorem mkP_106 : mchkP 106 = true := by decide +kernel
set_option maxRecDepth 100000 in
theorem mkI_106 : mchkMI 106 = true := by decide +kernel
set_option maxRecDepth 100000 in
theorem mkD_106 : mchkD 106 = true := by decide +kernel
set_option maxRecDepth 100000 in
theorem mkP_107 : mchkP 107 = true := by decide +kernel
set_option maxRecDepth 100000 in
theorem mkI_107 : mchkMI 107 = true := by decide +kernel
set_option maxRecDepth 100000 in
theorem mkD_107 : mchkD 107 = true := by decide +kernel
set_option maxRecDepth 100000 in
theorem mkP_108 : mchkP 108 = true := by decide +kernel
set_option maxRecDepth 100000 in
theorem mkI_108 : mchkMI 108 = true := by decide +kernel
set_option maxRecDepth 100000 in
theorem mkD_108 : mchkD 108 = true := by decide +kernel
set_option maxRecDepth 100000 in
theorem mkP_109 : mchkP 109 = true := by decide +kernel
set_option maxRecDepth 100000 in
theorem mkI_109 : mchkMI 109 = true := by decide +kernel
set_option maxRecDepth 100000 in
theorem mkD_109 : mchkD 109 = true := by decide +kernel
set_option maxRecDepth 100000 in
theorem mkP_110 : mchkP 110 = true := by decide +kernel
set_option maxRecDepth 100000 in
theorem mkI_110 : mchkMI 110 = true := by decide +kernel
set_option maxRecDepth 100000 in
theorem mkD_110 : mchkD 110 = true := by decide +kernel
set_option maxRecDepth 100000 in
theorem mkP_111 : mchkP 111 = true := by decide +kernel
set_option maxRecDepth 100000 in
theorem mkI_111 : mchkMI 111 = true := by decide +kernel
set_option maxRecDepth 100000 in
theorem mkD_111 : mchkD 111 = true := by decide +kernel
set_option maxRecDepth 100000 in
theorem mkP_112 : mchkP 112 = true := by decide +kernel
set_option maxRecDepth 100000 in
theorem mkI_112 : mchkMI 112 = true := by decide +kernel
set_option maxRecDepth 100000 in
theorem mkD_112 : mchkD 112 = true := by decide +kernel
set_option maxRecDepth 100000 in
theorem mkP_113 : mchkP 113 = true := by decide +kernel
set_option maxRecDepth 100000 in
theorem mkI_113 : mchkMI 113 = true := by decide +kernel
set_option maxRecDepth 100000 in
theorem mkD_113 : mchkD 113 = true := by decide +kernel
set_option maxRecDepth 100000 in
theorem mkP_114 : mchkP 114 = true := by decide +kernel
set_option maxRecDepth 100000 in
theorem mkI_114 : mchkMI 114 = true := by decide +kernel
set_option maxRecDepth 100000 in
theorem mkD_114 : mchkD 114 = true := by decide +kernel
set_option maxRecDepth 100000 in
theorem mkP_115 : mchkP 115 = true := by decide +kernel
set_option maxRecDepth 100000 in
theorem mkI_115 : mchkMI 115 = true := by decide +kernel
set_option maxRecDepth 100000 in
theorem mkD_115 : mchkD 115 = true := by decide +kernel
set_option maxRecDepth 100000 in
theorem mkP_116 : mchkP 116 = true := by decide +kernel
set_option maxRecDepth 100000 in
theorem mkI_116 : mchkMI 116 = true := by decide +kernel
set_option maxRecDepth 100000 in
theorem mkD_116 : mchkD 116 = true := by decide +kernel
set_option maxRecDepth 100000 in
theorem mkP_117 : mchkP 117 = true := by decide +kernel
set_option maxRecDepth 100000 in
theorem mkI_117 : mchkMI 117 = true := by decide +kernel
set_option maxRecDepth 100000 in
theorem mkD_117 : mchkD 117 = true := by decide +kernel
set_option maxRecDepth 100000 in
theorem mkP_118 : mchkP 118 = true := by decide +kernel
set_option maxRecDepth 100000 in
theorem mkI_118 : mchkMI 118 = true := by decide +kernel
set_option maxRecDepth 100000 in
theorem mkD_118 : mchkD 118 = true := by decide +kernel
set_option maxRecDepth 100000 in
theorem mkP_119 : mchkP 119 = true := by decide +kernel
set_option maxRecDepth 100000 in
theorem mkI_119 : mchkMI 119 = true := by decide +kernel
set_option maxRecDepth 100000 in
theorem mkD_119 : mchkD 119 = true := by decide +kernel
set_option maxRecDepth 100000 in
theorem mkP_120 : mchkP 120 = true := by decide +kernel
set_option maxRecDepth 100000 in
theorem mkI_120 : mchkMI 120 = true := by decide +kernel
set_option maxRecDepth 100000 in
theorem mkD_120 : mchkD 120 = true := by decide +kernel
set_option maxRecDepth 100000 in
theorem mkP_121 : mchkP 121 = true := by decide +kernel
set_option maxRecDepth 100000 in
theorem mkI_121 : mchkMI 121 = true := by decide +kernel
set_option maxRecDepth 100000 in
theorem mkD_121 : mchkD 121 = true := by decide +kernel
set_option maxRecDepth 100000 in
theorem mkP_122 : mchkP 122 = true := by decide +kernel
set_option maxRecDepth 100000 in
theorem mkI_122 : mchkMI 122 = true := by decide +kernel
set_option maxRecDepth 100000 in
theorem mkD_122 : mchkD 122 = true := by decide +kernel
set_option maxRecDepth 100000 in
theorem mkP_123 : mchkP 123 = true := by decide +kernel
set_option maxRecDepth 100000 in
theorem mkI_123 : mchkMI 123 = true := by decide +kernel
set_option maxRecDepth 100000 in
theorem mkD_123 : mchkD 123 = true := by decide +kernel
set_option maxRecDepth 100000 in
theorem mkP_124 : mchkP 124 = true := by decide +kernel
set_option maxRecDepth 100000 in
theorem mkI_124 : mchkMI 124 = true := by decide +kernel
set_option maxRecDepth 100000 in
theorem mkD_124 : mchkD 124 = true := by decide +kernel
set_option maxRecDepth 100000 in
theorem mkP_125 : mchkP 125 = true := by decide +kernel
set_option maxRecDepth 100000 in
theorem mkI_125 : mchkMI 125 = true := by decide +kernel
set_option maxRecDepth 100000 in
theorem mkD_125 : mchkD 125 = true := by decide +kernel
set_option maxRecDepth 100000 in
theorem mkP_126 : mchkP 126 = true := by decide +kernel
set_option maxRecDepth 100000 in
theorem mkI_126 : mchkMI 126 = true := by decide +kernel
set_option maxRecDepth 100000 in
theorem mkD_126 : mchkD 126 = true := by decide +kernel
set_option maxRecDepth 100000 in
theorem mkP_127 : mchkP 127 = true := by decide +kernel
set_option maxRecDepth 100000 in
theorem mkI_127 : mchkMI 127 = true := by decide +kernel
set_option maxRecDepth 100000 in
theorem mkD_127 : mchkD 127 = true := by decide +kernel
set_option maxRecDepth 100000 in
theorem mkP_128 : mchkP 128 = true := by decide +kernel
set_option maxRecDepth 100000 in
theorem mkI_128 : mchkMI 128 = true := by decide +kernel
set_option maxRecDepth 100000 in
theorem mkD_128 : mchkD 128 = true := by decide +kernel
set_option maxRecDepth 100000 in
theorem mkP_129 : mchkP 129 = true := by decide +kernel
set_option maxRecDepth 100000 in
theorem mkI_129 : mchkMI 129 = true := by decide +kernel
set_option maxRecDepth 100000 in
theorem mkD_129 : mchkD 129 = true := by decide +kernel
set_option maxRecDepth 100000 in
theorem mkP_130 : mchkP 130 = true := by decide +kernel
set_option maxRecDepth 100000 in
theorem mkI_130 : mchkMI 130 = true := by decide +kernel
set_option maxRecDepth 100000 in
theorem mkD_130 : mchkD 130 = true := by decide +kernel
set_option maxRecDepth 100000 in
theorem mkP_131 : mchkP 131 = true := by decide +kernel
set_option maxRecDepth 100000 in
theorem mkI_131 : mchkMI 131 = true := by decide +kernel
set_option maxRecDepth 100000 in
theorem mkD_131 : mchkD 131 = true := by decide +kernel
set_option maxRecDepth 100000 in
theorem mkP_132 : mchkP 132 = true := by decide +kernel
set_option maxRecDepth 100000 in
theorem mkI_132 : mchkMI 132 = true := by decide +kernel
set_option maxRecDepth 100000 in
theorem mkD_132 : mchkD 132 = true := by decide +kernel
set_option maxRecDepth 100000 in
theorem mkP_133 : mchkP 133 = true := by decide +kernel
set_option maxRecDepth 100000 in
theorem mkI_133 : mchkMI 133 = true := by decide +kernel
set_option maxRecDepth 100000 in
theorem mkD_133 : mchkD 133 = true := by decide +kernel
set_option maxRecDepth 100000 in
theorem mkP_134 : mchkP 134 = true := by decide +kernel
set_option maxRecDepth 100000 in
theorem mkI_134 : mchkMI 134 = true := by decide +kernel
set_option maxRecDepth 100000 in
theorem mkD_134 : mchkD 134 = true := by decide +kernel
set_option maxRecDepth 100000 in
theorem mkP_135 : mchkP 135 = true := by decide +kernel
set_option maxRecDepth 100000 in
theorem mkI_135 : mchkMI 135 = true := by decide +kernel
set_option maxRecDepth 100000 in
theorem mkD_135 : mchkD 135 = true := by decide +kernel
set_option maxRecDepth 100000 in
theorem mkP_136 : mchkP 136 = true := by decide +kernel
set_option maxRecDepth 100000 in
theorem mkI_136 : mchkMI 136 = true := by decide +kernel
set_option maxRecDepth 100000 in
theorem mkD_136 : mchkD 136 = true := by decide +kernel
set_option maxRecDepth 100000 in
theorem mkP_137 : mchkP 137 = true := by decide +kernel
set_option maxRecDepth 100000 in
theorem mkI_137 : mchkMI 137 = true := by decide +kernel
set_option maxRecDepth 100000 in
theorem mkD_137 : mchkD 137 = true := by decide +kernel
set_option maxRecDepth 100000 in
theorem mkP_138 : mchkP 138 = true := by decide +kernel
set_option maxRecDepth 100000 in
theorem mkI_138 : mchkMI 138 = true := by decide +kernel
set_option maxRecDepth 100000 in
theorem mkD_138 : mchkD 138 = true := by decide +kernel
set_option maxRecDepth 100000 in
theorem mkP_139 : mchkP 139 = true := by decide +kernel
set_option maxRecDepth 100000 in
theorem mkI_139 : mchkMI 139 = true := by decide +kernel
set_option maxRecDepth 100000 in
theorem mkD_139 : mchkD 139 = true := by decide +kernel
set_option maxRecDepth 100000 in
theorem mkP_140 : mchkP 140 = true := by decide +kernel
set_option maxRecDepth 100000 in
theorem mkI_140 : mchkMI 140 = true := by decide +kernel
set_option maxRecDepth 100000 in
theorem mkD_140 : mchkD 140 = true := by decide +kernel
set_option maxRecDepth 100000 in
theorem mkP_141 : mchkP 141 = true := by decide +kernel
set_option maxRecDepth 100000 in
theorem mkI_141 : mchkMI 141 = true := by decide +kernel
set_option maxRecDepth 100000 in
theorem mkD_141 : mchkD 141 = true := by decide +kernel
set_option maxRecDepth 100000 in
theorem mkP_142 : mchkP 142 = true := by decide +kernel
set_option maxRecDepth 100000 in
theorem mkI_142 : mchkMI 142 = true := by decide +kernel
set_option maxRecDepth 100000 in
theorem mkD_142 : mchkD 142 = true := by decide +kernel
set_option maxRecDepth 100000 in
theorem mkP_143 : mchkP 143 = true := by decide +kernel
set_option maxRecDepth 100000 in
theorem mkI_143 : mchkMI 143 = true := by decide +kernel
set_option maxRecDepth 100000 in
theorem mkD_143 : mchkD 143 = true := by decide +kernel
set_option maxRecDepth 100000 in
theorem mkP_144 : mchkP 144 = true := by decide +kernel
set_option maxRecDepth 100000 in
theorem mkI_144 : mchkMI 144 = true := by decide +kernel
set_option maxRecDepth 100000 in
theorem mkD_144 : mchkD 144 = true := by decide +kernel
set_option maxRecDepth 100000 in
theorem mkP_145 : mchkP 145 = true := by decide +kernel
set_option maxRecDepth 100000 in
theorem mkI_145 : mchkMI 145 = true := by decide +kernel
set_option maxRecDepth 100000 in
theorem mkD_145 : mchkD 145 = true := by decide +kernel
set_option maxRecDepth 100000 in
theorem mkP_146 : mchkP 146 = true := by decide +kernel
set_option maxRecDepth 100000 in
theorem mkI_146 : mchkMI 146 = true := by decide +kernel
set_option maxRecDepth 100000 in
theorem mkD_146 : mchkD 146 = true := by decide +kernel
set_option maxRecDepth 100000 in
theorem mkP_147 : mchkP 147 = true := by decide +kernel
set_option maxRecDepth 100000 in
theorem mkI_147 : mchkMI 147 = true := by decide +kernel
set_option maxRecDepth 100000 in
theorem mkD_147 : mchkD 147 = true := by decide +kernel
set_option maxRecDepth 100000 in
theorem mkP_148 : mchkP 148 = true := by decide +kernel
set_option maxRecDepth 100000 in
theorem mkI_148 : mchkMI 148 = true := by decide +kernel
set_option maxRecDepth 100000 in
theorem mkD_148 : mchkD 148 = true := by decide +kernel
set_option maxRecDepth 100000 in
theorem mkP_149 : mchkP 149 = true := by decide +kernel
set_option maxRecDepth 100000 in
theorem mkI_149 : mchkMI 149 = true := by decide +kernel
set_option maxRecDepth 100000 in
theorem mkD_149 : mchkD 149 = true := by decide +kernel
set_option maxRecDepth 100000 in
theorem mkP_150 : mchkP 150 = true := by decide +kernel
set_option maxRecDepth 100000 in
theorem mkI_150 : mchkMI 150 = true := by decide +kernel
set_option maxRecDepth 100000 in
theorem mkD_150 : mchkD 150 = true := by decide +kernel
set_option maxRecDepth 100000 in
theorem mkP_151 : mchkP 151 = true := by decide +kernel
set_option maxRecDepth 100000 in
theorem mkI_151 : mchkMI 151 = true := by decide +kernel
set_option maxRecDepth 100000 in
theorem mkD_151 : mchkD 151 = true := by decide +kernel
set_option maxRecDepth 100000 in
theorem mkP_152 : mchkP 152 = true := by decide +kernel
set_option maxRecDepth 100000 in
theorem mkI_152 : mchkMI 152 = true := by decide +kernel
set_option maxRecDepth 100000 in
theorem mkD_152 : mchkD 152 = true := by decide +kernel
set_option maxRecDepth 100000 in
theorem mkP_153 : mchkP 153 = true := by decide +kernel
set_option maxRecDepth 100000 in
theorem mkI_153 : mchkMI 153 = true := by decide +kernel
set_option maxRecDepth 100000 in
theorem mkD_153 : mchkD 153 = true := by decide +kernel
set_option maxRecDepth 100000 in
theorem mkP_154 : mchkP 154 = true := by decide +kernel
set_option maxRecDepth 100000 in
theorem mkI_154 : mchkMI 154 = true := by decide +kernel
set_option maxRecDepth 100000 in
theorem mkD_154 : mchkD 154 = true := by decide +kernel
set_option maxRecDepth 100000 in
theorem mkP_155 : mchkP 155 = true := by decide +kernel
set_option maxRecDepth 100000 in
theorem mkI_155 : mchkMI 155 = true := by decide +kernel
set_option maxRecDepth 100000 in
theorem mkD_155 : mchkD 155 = true := by decide +kernel
set_option maxRecDepth 100000 in
theorem mkP_156 : mchkP 156 = true := by decide +kernel
set_option maxRecDepth 100000 in
theorem mkI_156 : mchkMI 156 = true := by decide +kernel
set_option maxRecDepth 100000 in
theorem mkD_156 : mchkD 156 = true := by decide +kernel
set_option maxRecDepth 100000 in
theorem mkP_157 : mchkP 157 = true := by decide +kernel
set_option maxRecDepth 100000 in
theorem mkI_157 : mchkMI 157 = true := by decide +kernel
set_option maxRecDepth 100000 in
theorem mkD_157 : mchkD 157 = true := by decide +kernel
set_option maxRecDepth 100000 in
theorem mkP_158 : mchkP 158 = true := by decide +kernel
set_option maxRecDepth 100000 in
theorem mkI_158 : mchkMI 158 = true := by decide +kernel
set_option maxRecDepth 100000 in
theorem mkD_158 : mchkD 158 = true := by decide +kernel
set_option maxRecDepth 100000 in
theorem mkP_159 : mchkP 159 = true := by decide +kernel
set_option maxRecDepth 100000 in
theorem mkI_159 : mchkMI 159 = true := by decide +kernel
set_option maxRecDepth 100000 in
theorem mkD_159 : mchkD 159 = true := by decide +kernel
set_option maxRecDepth 100000 in
theorem mkP_160 : mchkP 160 = true := by decide +kernel
set_option maxRecDepth 100000 in
theorem mkI_160 : mchkMI 160 = true := by decide +kernel
set_option maxRecDepth 100000 in
theorem mkD_160 : mchkD 160 = true := by decide +kernel
set_option maxRecDepth 100000 in
theorem mkP_161 : mchkP 161 = true := by decide +kernel
set_option maxRecDepth 100000 in
theorem mkI_161 : mchkMI 161 = true := by decide +kernel
set_option maxRecDepth 100000 in
theorem mkD_161 : mchkD 161 = true := by decide +kernel
set_option maxRecDepth 100000 in
theorem mkP_162 : mchkP 162 = true := by decide +kernel
set_option maxRecDepth 100000 in
theorem mkI_162 : mchkMI 162 = true := by decide +kernel
set_option maxRecDepth 100000 in
theorem mkD_162 : mchkD 162 = true := by decide +kernel
theorem mkP_to20 : ∀ k, k < 20 → mchkP k = true := lt_s (lt_s (lt_s (lt_s (lt_s (lt_s (lt_s (lt_s (lt_s (lt_s (lt_s (lt_s (lt_s (lt_s (lt_s (lt_s (lt_s (lt_s (lt_s (lt_s (lt_0) mkP_0) mkP_1) mkP_2) mkP_3) mkP_4) mkP_5) mkP_6) mkP_7) mkP_8) mkP_9) mkP_10) mkP_11) mkP_12) mkP_13) mkP_14) mkP_15) mkP_16) mkP_17) mkP_18) mkP_19
theorem mkP_to40 : ∀ k, k < 40 → mchkP k = true := lt_s (lt_s (lt_s (lt_s (lt_s (lt_s (lt_s (lt_s (lt_s (lt_s (lt_s (lt_s (lt_s (lt_s (lt_s (lt_s (lt_s (lt_s (lt_s (lt_s (mkP_to20) mkP_20) mkP_21) mkP_22) mkP_23) mkP_24) mkP_25) mkP_26) mkP_27) mkP_28) mkP_29) mkP_30) mkP_31) mkP_32) mkP_33) mkP_34) mkP_35) mkP_36) mkP_37) mkP_38) mkP_39
theorem mkP_to60 : ∀ k, k < 60 → mchkP k = true := lt_s (lt_s (lt_s (lt_s (lt_s (lt_s (lt_s (lt_s (lt_s (lt_s (lt_s (lt_s (lt_s (lt_s (lt_s (lt_s (lt_s (lt_s (lt_s (lt_s (mkP_to40) mkP_40) mkP_41) mkP_42) mkP_43) mkP_44) mkP_45) mkP_46) mkP_47) mkP_48) mkP_49) mkP_50) mkP_51) mkP_52) mkP_53) mkP_54) mkP_55) mkP_56) mkP_57) mkP_58) mkP_59
theorem mkP_to80 : ∀ k, k < 80 → mchkP k = true := lt_s (lt_s (lt_s (lt_s (lt_s (lt_s (lt_s (lt_s (lt_s (lt_s (lt_s (lt_s (lt_s (lt_s (lt_s (lt_s (lt_s (lt_s (lt_s (lt_s (mkP_to60) mkP_60) mkP_61) mkP_62) mkP_63) mkP_64) mkP_65) mkP_66) mkP_67) mkP_68) mkP_69) mkP_70) mkP_71) mkP_72) mkP_73) mkP_74) mkP_75) mkP_76) mkP_77) mkP_78) mkP_79
theorem mkP_to100 : ∀ k, k < 100 → mchkP k = true := lt_s (lt_s (lt_s (lt_s (lt_s (lt_s (lt_s (lt_s (lt_s (lt_s (lt_s (lt_s (lt_s (lt_s (lt_s (lt_s (lt_s (lt_s (lt_s (lt_s (mkP_to80) mkP_80) mkP_81) mkP_82) mkP_83) mkP_84) mkP_85) mkP_86) mkP_87) mkP_88) mkP_89) mkP_90) mkP_91) mkP_92) mkP_93) mkP_94) mkP_95) mkP_96) mkP_97) mkP_98) mkP_99
theorem mkP_to120 : ∀ k, k < 120 → mchkP k = true := lt_s (lt_s (lt_s (lt_s (lt_s (lt_s (lt_s (lt_s (lt_s (lt_s (lt_s (lt_s (lt_s (lt_s (lt_s (lt_s (lt_s (lt_s (lt_s (lt_s (mkP_to100) mkP_100) mkP_101) mkP_102) mkP_103) mkP_104) mkP_105) mkP_106) mkP_107) mkP_108) mkP_109) mkP_110) mkP_111) mkP_112) mkP_113) mkP_114) mkP_115) mkP_116) mkP_117) mkP_118) mkP_119
theorem mkP_to140 : ∀ k, k < 140 → mchkP k = true := lt_s (lt_s (lt_s (lt_s (lt_s (lt_s (lt_s (lt_s (lt_s (lt_s (lt_s (lt_s (lt_s (lt_s (lt_s (lt_s (lt_s (lt_s (lt_s (lt_s (mkP_to120) mkP_120) mkP_121) mkP_122) mkP_123) mkP_124) mkP_125) mkP_126) mkP_127) mkP_128) mkP_129) mkP_130) mkP_131) mkP_132) mkP_133) mkP_134) mkP_135) mkP_136) mkP_137) mkP_138) mkP_139
theorem mkP_to160 : ∀ k, k < 160 → mchkP k = true := lt_s (lt_s (lt_s (lt_s (lt_s (lt_s (lt_s (lt_s (lt_s (lt_s (lt_s (lt_s (lt_s (lt_s (lt_s (lt_s (lt_s (lt_s (lt_s (lt_s (mkP_to140) mkP_140) mkP_141) mkP_142) mkP_143) mkP_144) mkP_145) mkP_146) mkP_147) mkP_148) mkP_149) mkP_150) mkP_151) mkP_152) mkP_153) mkP_154) mkP_155) mkP_156) mkP_157) mkP_158) mkP_159
theorem mkP_to163 : ∀ k, k < 163 → mchkP k = true := lt_s (lt_s (lt_s (mkP_to160) mkP_160) mkP_161) mkP_162
theorem mkP_all {k : Nat} {y : mMth} (h : mmeth k = some y) : mchkP k = true := mkP_to163 k (Nat.lt_of_lt_of_le (List.getElem?_eq_some_iff.mp h).1 (by decide +kernel))
theorem mkI_to20 : ∀ k, k < 20 → mchkMI k = true := lt_s (lt_s (lt_s (lt_s (lt_s (lt_s (lt_s (lt_s (lt_s (lt_s (lt_s (lt_s (lt_s (lt_s (lt_s (lt_s (lt_s (lt_s (lt_s (lt_s (lt_0) mkI_0) mkI_1) mkI_2) mkI_3) mkI_4) mkI_5) mkI_6) mkI_7) mkI_8) mkI_9) mkI_10) mkI_11) mkI_12) mkI_13) mkI_14) mkI_15) mkI_16) mkI_17) mkI_18) mkI_19
theorem mkI_to40 : ∀ k, k < 40 → mchkMI k = true := lt_s (lt_s (lt_s (lt_s (lt_s (lt_s (lt_s (lt_s (lt_s (lt_s (lt_s (lt_s (lt_s (lt_s (lt_s (lt_s (lt_s (lt_s (lt_s (lt_s (mkI_to20) mkI_20) mkI_21) mkI_22) mkI_23) mkI_24) mkI_25) mkI_26) mkI_27) mkI_28) mkI_29) mkI_30) mkI_31) mkI_32) mkI_33) mkI_34) mkI_35) mkI_36) mkI_37) mkI_38) mkI_39
theorem mkI_to60 : ∀ k, k < 60 → mchkMI k = true := lt_s (lt_s (lt_s (lt_s (lt_s (lt_s (lt_s (lt_s (lt_s (lt_s (lt_s (lt_s (lt_s (lt_s (lt_s (lt_s (lt_s (lt_s (lt_s (lt_s (mkI_to40) mkI_40) mkI_41) mkI_42) mkI_43) mkI_44) mkI_45) mkI_46) mkI_47) mkI_48) mkI_49) mkI_50) mkI_51) mkI_52) mkI_53) mkI_54) mkI_55) mkI_56) mkI_57) mkI_58) mkI_59
theorem mkI_to80 : ∀ k, k < 80 → mchkMI k = true := lt_s (lt_s (lt_s (lt_s (lt_s (lt_s (lt_s (lt_s (lt_s (lt_s (lt_s (lt_s (lt_s (lt_s (lt_s (lt_s (lt_s (lt_s (lt_s (lt_s (mkI_to60) mkI_60) mkI_61) mkI_62) mkI_63) mkI_64) mkI_65) mkI_66) mkI_67) mkI_68) mkI_69) mkI_70) mkI_71) mkI_72) mkI_73) mkI_74) mkI_75) mkI_76) mkI_77) mkI_78) mkI_79
theorem mkI_to100 : ∀ k, k < 100 → mchkMI k = true := lt_s (lt_s (lt_s (lt_s (lt_s (lt_s (lt_s (lt_s (lt_s (lt_s (lt_s (lt_s (lt_s (lt_s (lt_s (lt_s (lt_s (lt_s (lt_s (lt_s (mkI_to80) mkI_80) mkI_81) mkI_82) mkI_83) mkI_84) mkI_85) mkI_86) mkI_87) mkI_88) mkI_89) mkI_90) mkI_91) mkI_92) mkI_93) mkI_94) mkI_95) mkI_96) mkI_97) mkI_98) mkI_99
theorem mkI_to120 : ∀ k, k < 120 → mchkMI k = true := lt_s (lt_s (lt_s (lt_s (lt_s (lt_s (lt_s (lt_s (lt_s (lt_s (lt_s (lt_s (lt_s (lt_s (lt_s (lt_s (lt_s (lt_s (lt_s (lt_s (mkI_to100) mkI_100) mkI_101) mkI_102) mkI_103) mkI_104) mkI_105) mkI_106) mkI_107) mkI_108) mkI_109) mkI_110) mkI_111) mkI_112) mkI_113) mkI_114) mkI_115) mkI_116) mkI_117) mkI_118) mkI_119
theorem mkI_to140 : ∀ k, k < 140 → mchkMI k = true := lt_s (lt_s (lt_s (lt_s (lt_s (lt_s (lt_s (lt_s (lt_s (lt_s (lt_s (lt_s (lt_s (lt_s (lt_s (lt_s (lt_s (lt_s (lt_s (lt_s (mkI_to120) mkI_120) mkI_121) mkI_122) mkI_123) mkI_124) mkI_125) mkI_126) mkI_127) mkI_128) mkI_129) mkI_130) mkI_131) mkI_132) mkI_133) mkI_134) mkI_135) mkI_136) mkI_137) mkI_138) mkI_139
theorem mkI_to160 : ∀ k, k < 160 → mchkMI k = true := lt_s (lt_s (lt_s (lt_s (lt_s (lt_s (lt_s (lt_s (lt_s (lt_s (lt_s (lt_s (lt_s (lt_s (lt_s (lt_s (lt_s (lt_s (lt_s (lt_s (mkI_to140) mkI_140) mkI_141) mkI_142) mkI_143) mkI_144) mkI_145) mkI_146) mkI_147) mkI_148) mkI_149) mkI_150) mkI_151) mkI_152) mkI_153) mkI_154) mkI_155) mkI_156) mkI_157) mkI_158) mkI_159
theorem mkI_to163 : ∀ k, k < 163 → mchkMI k = true := lt_s (lt_s (lt_s (mkI_to160) mkI_160) mkI_161) mkI_162
theorem mkI_all {k : Nat} {y : mMth} (h : mmeth k = some y) : mchkMI k = true := mkI_to163 k (Nat.lt_of_lt_of_le (List.getElem?_eq_some_iff.mp h).1 (by decide +kernel))
theorem mkD_to20 : ∀ k, k < 20 → mchkD k = true := lt_s (lt_s (lt_s (lt_s (lt_s (lt_s (lt_s (lt_s (lt_s (lt_s (lt_s (lt_s (lt_s (lt_s (lt_s (lt_s (lt_s (lt_s (lt_s (lt_s (lt_0) mkD_0) mkD_1) mkD_2) mkD_3) mkD_4) mkD_5) mkD_6) mkD_7) mkD_8) mkD_9) mkD_10) mkD_11) mkD_12) mkD_13) mkD_14) mkD_15) mkD_16) mkD_17) mkD_18) mkD_19
theorem mkD_to40 : ∀ k, k < 40 → mchkD k = true := lt_s (lt_s (lt_s (lt_s (lt_s (lt_s (lt_s (lt_s (lt_s (lt_s (lt_s (lt_s (lt_s (lt_s (lt_s (lt_s (lt_s (lt_s (lt_s (lt_s (mkD_to20) mkD_20) mkD_21) mkD_22) mkD_23) mkD_24) mkD_25) mkD_26) mkD_27) mkD_28) mkD_29) mkD_30) mkD_31) mkD_32) mkD_33) mkD_34) mkD_35) mkD_36) mkD_37) mkD_38) mkD_39
theorem mkD_to60 : ∀ k, k < 60 → mchkD k = true := lt_s (lt_s (lt_s (lt_s (lt_s (lt_s (lt_s (lt_s (lt_s (lt_s (lt_s (lt_s (lt_s (lt_s (lt_s (lt_s (lt_s (lt_s (lt_s (lt_s (mkD_to40) mkD_40) mkD_41) mkD_42) mkD_43) mkD_44) mkD_45) mkD_46) mkD_47) mkD_48) mkD_49) mkD_50) mkD_51) mkD_52) mkD_53) mkD_54) mkD_55) mkD_56) mkD_57) mkD_58) mkD_59
theorem mkD_to80 : ∀ k, k < 80 → mchkD k = true := lt_s (lt_s (lt_s (lt_s (lt_s (lt_s (lt_s (lt_s (lt_s (lt_s (lt_s (lt_s (lt_s (lt_s (lt_s (lt_s (lt_s (lt_s (lt_s (lt_s (mkD_to60) mkD_60) mkD_61) mkD_62) mkD_63) mkD_64) mkD_65) mkD_66) mkD_67) mkD_68) mkD_69) mkD_70) mkD_71) mkD_72) mkD_73) mkD_74) mkD_75) mkD_76) mkD_77) mkD_78) mkD_79
theorem mkD_to100 : ∀ k, k < 100 → mchkD k = true := lt_s (lt_s (lt_s (lt_s (lt_s (lt_s (lt_s (lt_s (lt_s (lt_s (lt_s (lt_s (lt_s (lt_s (lt_s (lt_s (lt_s (lt_s (lt_s (lt_s (mkD_to80) mkD_80) mkD_81) mkD_82) mkD_83) mkD_84) mkD_85) mkD_86) mkD_87) mkD_88) mkD_89) mkD_90) mkD_91) mkD_92) mkD_93) mkD_94) mkD_95) mkD_96) mkD_97) mkD_98) mkD_99
theorem mkD_to120 : ∀ k, k < 120 → mchkD k = true := lt_s (lt_s (lt_s (lt_s (lt_s (lt_s (lt_s (lt_s (lt_s (lt_s (lt_s (lt_s (lt_s (lt_s (lt_s (lt_s (lt_s (lt_s (lt_s (lt_s (mkD_to100) mkD_100) mkD_101) mkD_102) mkD_103) mkD_104) mkD_105) mkD_106) mkD_107) mkD_108) mkD_109) mkD_110) mkD_111) mkD_112) mkD_113) mkD_114) mkD_115) mkD_116) mkD_117) mkD_118) mkD_119
theorem mkD_to140 : ∀ k, k < 140 → mchkD k = true := lt_s (lt_s (lt_s (lt_s (lt_s (lt_s (lt_s (lt_s (lt_s (lt_s (lt_s (lt_s (lt_s (lt_s (lt_s (lt_s (lt_s (lt_s (lt_s (lt_s (mkD_to120) mkD_120) mkD_121) mkD_122) mkD_123) mkD_124) mkD_125) mkD_126) mkD_127) mkD_128) mkD_129) mkD_130) mkD_131) mkD_132) mkD_133) mkD_134) mkD_135) mkD_136) mkD_137) mkD_138) mkD_139
theorem mkD_to160 : ∀ k, k < 160 → mchkD k = true := lt_s (lt_s (lt_s (lt_s (lt_s (lt_s (lt_s (lt_s (lt_s (lt_s (lt_s (lt_s (lt_s (lt_s (lt_s (lt_s (lt_s (lt_s (lt_s (lt_s (mkD_to140) mkD_140) mkD_141) mkD_142) mkD_143) mkD_144) mkD_145) mkD_146) mkD_147) mkD_148) mkD_149) mkD_150) mkD_151) mkD_152) mkD_153) mkD_154) mkD_155) mkD_156) mkD_157) mkD_158) mkD_159
theorem mkD_to163 : ∀ k, k < 163 → mchkD k = true := lt_s (lt_s (lt_s (mkD_to160) mkD_160) mkD_161) mkD_162
theorem mkD_all {k : Nat} {y : mMth} (h : mmeth k = some y) : mchkD k = true := mkD_to163 k (Nat.lt_of_lt_of_le (List.getElem?_eq_some_iff.mp h).1 (by decide +kernel))
