/-! ===== the checks of the tables, method by method ===== -/
set_option maxRecDepth 100000 in
theorem mkP_0 : mchkP 0 = true := by decide +kernel
set_option maxRecDepth 100000 in
theorem mkI_0 : mchkMI 0 = true := by decide +kernel
set_option maxRecDepth 100000 in
theorem mkD_0 : mchkD 0 = true := by decide +kernel
set_option maxRecDepth 100000 in
theorem mkP_1 : mchkP 1 = true := by decide +kernel
set_option maxRecDepth 100000 in
theorem mkI_1 : mchkMI 1 = true := by decide +kernel
set_option maxRecDepth 100000 in
theorem mkD_1 : mchkD 1 = true := by decide +kernel
set_option maxRecDepth 100000 in
theorem mkP_2 : mchkP 2 = true := by decide +kernel
set_option maxRecDepth 100000 in
theorem mkI_2 : mchkMI 2 = true := by decide +kernel
set_option maxRecDepth 100000 in
theorem mkD_2 : mchkD 2 = true := by decide +kernel
set_option maxRecDepth 100000 in
theorem mkP_3 : mchkP 3 = true := by decide +kernel
set_option maxRecDepth 100000 in
theorem mkI_3 : mchkMI 3 = true := by decide +kernel
set_option maxRecDepth 100000 in
theorem mkD_3 : mchkD 3 = true := by decide +kernel
set_option maxRecDepth 100000 in
theorem mkP_4 : mchkP 4 = true := by decide +kernel
set_option maxRecDepth 100000 in
theorem mkI_4 : mchkMI 4 = true := by decide +kernel
set_option maxRecDepth 100000 in
theorem mkD_4 : mchkD 4 = true := by decide +kernel
set_option maxRecDepth 100000 in
theorem mkP_5 : mchkP 5 = true := by decide +kernel
set_option maxRecDepth 100000 in
theorem mkI_5 : mchkMI 5 = true := by decide +kernel
set_option maxRecDepth 100000 in
theorem mkD_5 : mchkD 5 = true := by decide +kernel
set_option maxRecDepth 100000 in
theorem mkP_6 : mchkP 6 = true := by decide +kernel
set_option maxRecDepth 100000 in
theorem mkI_6 : mchkMI 6 = true := by decide +kernel
set_option maxRecDepth 100000 in
theorem mkD_6 : mchkD 6 = true := by decide +kernel
set_option maxRecDepth 100000 in
theorem mkP_7 : mchkP 7 = true := by decide +kernel
set_option maxRecDepth 100000 in
theorem mkI_7 : mchkMI 7 = true := by decide +kernel
set_option maxRecDepth 100000 in
theorem mkD_7 : mchkD 7 = true := by decide +kernel
set_option maxRecDepth 100000 in
theorem mkP_8 : mchkP 8 = true := by decide +kernel
set_option maxRecDepth 100000 in
theorem mkI_8 : mchkMI 8 = true := by decide +kernel
set_option maxRecDepth 100000 in
theorem mkD_8 : mchkD 8 = true := by decide +kernel
set_option maxRecDepth 100000 in
theorem mkP_9 : mchkP 9 = true := by decide +kernel
set_option maxRecDepth 100000 in
theorem mkI_9 : mchkMI 9 = true := by decide +kernel
set_option maxRecDepth 100000 in
theorem mkD_9 : mchkD 9 = true := by decide +kernel
set_option maxRecDepth 100000 in
theorem mkP_10 : mchkP 10 = true := by decide +kernel
set_option maxRecDepth 100000 in
theorem mkI_10 : mchkMI 10 = true := by decide +kernel
set_option maxRecDepth 100000 in
theorem mkD_10 : mchkD 10 = true := by decide +kernel
set_option maxRecDepth 100000 in
theorem mkP_11 : mchkP 11 = true := by decide +kernel
set_option maxRecDepth 100000 in
theorem mkI_11 : mchkMI 11 = true := by decide +kernel
set_option maxRecDepth 100000 in
theorem mkD_11 : mchkD 11 = true := by decide +kernel
set_option maxRecDepth 100000 in
theorem mkP_12 : mchkP 12 = true := by decide +kernel
set_option maxRecDepth 100000 in
theorem mkI_12 : mchkMI 12 = true := by decide +kernel
set_option maxRecDepth 100000 in
theorem mkD_12 : mchkD 12 = true := by decide +kernel
set_option maxRecDepth 100000 in
theorem mkP_13 : mchkP 13 = true := by decide +kernel
set_option maxRecDepth 100000 in
theorem mkI_13 : mchkMI 13 = true := by decide +kernel
set_option maxRecDepth 100000 in
theorem mkD_13 : mchkD 13 = true := by decide +kernel
set_option maxRecDepth 100000 in
theorem mkP_14 : mchkP 14 = true := by decide +kernel
set_option maxRecDepth 100000 in
theorem mkI_14 : mchkMI 14 = true := by decide +kernel
set_option maxRecDepth 100000 in
theorem mkD_14 : mchkD 14 = true := by decide +kernel
set_option maxRecDepth 100000 in
theorem mkP_15 : mchkP 15 = true := by decide +kernel
set_option maxRecDepth 100000 in
theorem mkI_15 : mchkMI 15 = true := by decide +kernel
set_option maxRecDepth 100000 in
theorem mkD_15 : mchkD 15 = true := by decide +kernel
set_option maxRecDepth 100000 in
theorem mkP_16 : mchkP 16 = true := by decide +kernel
set_option maxRecDepth 100000 in
theorem mkI_16 : mchkMI 16 = true := by decide +kernel
set_option maxRecDepth 100000 in
theorem mkD_16 : mchkD 16 = true := by decide +kernel
set_option maxRecDepth 100000 in
theorem mkP_17 : mchkP 17 = true := by decide +kernel
set_option maxRecDepth 100000 in
theorem mkI_17 : mchkMI 17 = true := by decide +kernel
set_option maxRecDepth 100000 in
theorem mkD_17 : mchkD 17 = true := by decide +kernel
set_option maxRecDepth 100000 in
theorem mkP_18 : mchkP 18 = true := by decide +kernel
set_option maxRecDepth 100000 in
theorem mkI_18 : mchkMI 18 = true := by decide +kernel
set_option maxRecDepth 100000 in
theorem mkD_18 : mchkD 18 = true := by decide +kernel
set_option maxRecDepth 100000 in
theorem mkP_19 : mchkP 19 = true := by decide +kernel
set_option maxRecDepth 100000 in
theorem mkI_19 : mchkMI 19 = true := by decide +kernel
set_option maxRecDepth 100000 in
theorem mkD_19 : mchkD 19 = true := by decide +kernel
set_option maxRecDepth 100000 in
theorem mkP_20 : mchkP 20 = true := by decide +kernel
set_option maxRecDepth 100000 in
theorem mkI_20 : mchkMI 20 = true := by decide +kernel
set_option maxRecDepth 100000 in
theorem mkD_20 : mchkD 20 = true := by decide +kernel
set_option maxRecDepth 100000 in
theorem mkP_21 : mchkP 21 = true := by decide +kernel
set_option maxRecDepth 100000 in
theorem mkI_21 : mchkMI 21 = true := by decide +kernel
set_option maxRecDepth 100000 in
theorem mkD_21 : mchkD 21 = true := by decide +kernel
set_option maxRecDepth 100000 in
theorem mkP_22 : mchkP 22 = true := by decide +kernel
set_option maxRecDepth 100000 in
theorem mkI_22 : mchkMI 22 = true := by decide +kernel
set_option maxRecDepth 100000 in
theorem mkD_22 : mchkD 22 = true := by decide +kernel
set_option maxRecDepth 100000 in
theorem mkP_23 : mchkP 23 = true := by decide +kernel
set_option maxRecDepth 100000 in
theorem mkI_23 : mchkMI 23 = true := by decide +kernel
set_option maxRecDepth 100000 in
theorem mkD_23 : mchkD 23 = true := by decide +kernel
set_option maxRecDepth 100000 in
theorem mkP_24 : mchkP 24 = true := by decide +kernel
set_option maxRecDepth 100000 in
theorem mkI_24 : mchkMI 24 = true := by decide +kernel
set_option maxRecDepth 100000 in
theorem mkD_24 : mchkD 24 = true := by decide +kernel
set_option maxRecDepth 100000 in
theorem mkP_25 : mchkP 25 = true := by decide +kernel
set_option maxRecDepth 100000 in
theorem mkI_25 : mchkMI 25 = true := by decide +kernel
set_option maxRecDepth 100000 in
theorem mkD_25 : mchkD 25 = true := by decide +kernel
set_option maxRecDepth 100000 in
theorem mkP_26 : mchkP 26 = true := by decide +kernel
set_option maxRecDepth 100000 in
theorem mkI_26 : mchkMI 26 = true := by decide +kernel
set_option maxRecDepth 100000 in
theorem mkD_26 : mchkD 26 = true := by decide +kernel
set_option maxRecDepth 100000 in
theorem mkP_27 : mchkP 27 = true := by decide +kernel
set_option maxRecDepth 100000 in
theorem mkI_27 : mchkMI 27 = true := by decide +kernel
set_option maxRecDepth 100000 in
theorem mkD_27 : mchkD 27 = true := by decide +kernel
set_option maxRecDepth 100000 in
theorem mkP_28 : mchkP 28 = true := by decide +kernel
set_option maxRecDepth 100000 in
theorem mkI_28 : mchkMI 28 = true := by decide +kernel
set_option maxRecDepth 100000 in
theorem mkD_28 : mchkD 28 = true := by decide +kernel
set_option maxRecDepth 100000 in
theorem mkP_29 : mchkP 29 = true := by decide +kernel
set_option maxRecDepth 100000 in
theorem mkI_29 : mchkMI 29 = true := by decide +kernel
set_option maxRecDepth 100000 in
theorem mkD_29 : mchkD 29 = true := by decide +kernel
set_option maxRecDepth 100000 in
theorem mkP_30 : mchkP 30 = true := by decide +kernel
set_option maxRecDepth 100000 in
theorem mkI_30 : mchkMI 30 = true := by decide +kernel
set_option maxRecDepth 100000 in
theorem mkD_30 : mchkD 30 = true := by decide +kernel
set_option maxRecDepth 100000 in
theorem mkP_31 : mchkP 31 = true := by decide +kernel
set_option maxRecDepth 100000 in
theorem mkI_31 : mchkMI 31 = true := by decide +kernel
set_option maxRecDepth 100000 in
theorem mkD_31 : mchkD 31 = true := by decide +kernel
set_option maxRecDepth 100000 in
theorem mkP_32 : mchkP 32 = true := by decide +kernel
set_option maxRecDepth 100000 in
theorem mkI_32 : mchkMI 32 = true := by decide +kernel
set_option maxRecDepth 100000 in
theorem mkD_32 : mchkD 32 = true := by decide +kernel
set_option maxRecDepth 100000 in
theorem mkP_33 : mchkP 33 = true := by decide +kernel
set_option maxRecDepth 100000 in
theorem mkI_33 : mchkMI 33 = true := by decide +kernel
set_option maxRecDepth 100000 in
theorem mkD_33 : mchkD 33 = true := by decide +kernel
set_option maxRecDepth 100000 in
theorem mkP_34 : mchkP 34 = true := by decide +kernel
set_option maxRecDepth 100000 in
theorem mkI_34 : mchkMI 34 = true := by decide +kernel
set_option maxRecDepth 100000 in
theorem mkD_34 : mchkD 34 = true := by decide +kernel
set_option maxRecDepth 100000 in
theorem mkP_35 : mchkP 35 = true := by decide +kernel
set_option maxRecDepth 100000 in
theorem mkI_35 : mchkMI 35 = true := by decide +kernel
set_option maxRecDepth 100000 in
theorem mkD_35 : mchkD 35 = true := by decide +kernel
set_option maxRecDepth 100000 in
theorem mkP_36 : mchkP 36 = true := by decide +kernel
set_option maxRecDepth 100000 in
theorem mkI_36 : mchkMI 36 = true := by decide +kernel
set_option maxRecDepth 100000 in
theorem mkD_36 : mchkD 36 = true := by decide +kernel
set_option maxRecDepth 100000 in
theorem mkP_37 : mchkP 37 = true := by decide +kernel
set_option maxRecDepth 100000 in
theorem mkI_37 : mchkMI 37 = true := by decide +kernel
set_option maxRecDepth 100000 in
theorem mkD_37 : mchkD 37 = true := by decide +kernel
set_option maxRecDepth 100000 in
theorem mkP_38 : mchkP 38 = true := by decide +kernel
set_option maxRecDepth 100000 in
theorem mkI_38 : mchkMI 38 = true := by decide +kernel
set_option maxRecDepth 100000 in
theorem mkD_38 : mchkD 38 = true := by decide +kernel
set_option maxRecDepth 100000 in
theorem mkP_39 : mchkP 39 = true := by decide +kernel
set_option maxRecDepth 100000 in
theorem mkI_39 : mchkMI 39 = true := by decide +kernel
set_option maxRecDepth 100000 in
theorem mkD_39 : mchkD 39 = true := by decide +kernel
set_option maxRecDepth 100000 in
theorem mkP_40 : mchkP 40 = true := by decide +kernel
set_option maxRecDepth 100000 in
theorem mkI_40 : mchkMI 40 = true := by decide +kernel
set_option maxRecDepth 100000 in
theorem mkD_40 : mchkD 40 = true := by decide +kernel
set_option maxRecDepth 100000 in
theorem mkP_41 : mchkP 41 = true := by decide +kernel
set_option maxRecDepth 100000 in
theorem mkI_41 : mchkMI 41 = true := by decide +kernel
set_option maxRecDepth 100000 in
theorem mkD_41 : mchkD 41 = true := by decide +kernel
set_option maxRecDepth 100000 in
theorem mkP_42 : mchkP 42 = true := by decide +kernel
set_option maxRecDepth 100000 in
theorem mkI_42 : mchkMI 42 = true := by decide +kernel
set_option maxRecDepth 100000 in
theorem mkD_42 : mchkD 42 = true := by decide +kernel
set_option maxRecDepth 100000 in
theorem mkP_43 : mchkP 43 = true := by decide +kernel
set_option maxRecDepth 100000 in
theorem mkI_43 : mchkMI 43 = true := by decide +kernel
set_option maxRecDepth 100000 in
theorem mkD_43 : mchkD 43 = true := by decide +kernel
set_option maxRecDepth 100000 in
theorem mkP_44 : mchkP 44 = true := by decide +kernel
set_option maxRecDepth 100000 in
theorem mkI_44 : mchkMI 44 = true := by decide +kernel
set_option maxRecDepth 100000 in
theorem mkD_44 : mchkD 44 = true := by decide +kernel
