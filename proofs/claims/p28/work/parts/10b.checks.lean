set_option maxRecDepth 100000 in
theorem mkP_45 : mchkP 45 = true := by decide +kernel
set_option maxRecDepth 100000 in
theorem mkI_45 : mchkMI 45 = true := by decide +kernel
set_option maxRecDepth 100000 in
theorem mkD_45 : mchkD 45 = true := by decide +kernel
set_option maxRecDepth 100000 in
theorem mkP_46 : mchkP 46 = true := by decide +kernel
set_option maxRecDepth 100000 in
theorem mkI_46 : mchkMI 46 = true := by decide +kernel
set_option maxRecDepth 100000 in
theorem mkD_46 : mchkD 46 = true := by decide +kernel
set_option maxRecDepth 100000 in
theorem mkP_47 : mchkP 47 = true := by decide +kernel
set_option maxRecDepth 100000 in
theorem mkI_47 : mchkMI 47 = true := by decide +kernel
set_option maxRecDepth 100000 in
theorem mkD_47 : mchkD 47 = true := by decide +kernel
set_option maxRecDepth 100000 in
theorem mkP_48 : mchkP 48 = true := by decide +kernel
set_option maxRecDepth 100000 in
theorem mkI_48 : mchkMI 48 = true := by decide +kernel
set_option maxRecDepth 100000 in
theorem mkD_48 : mchkD 48 = true := by decide +kernel
set_option maxRecDepth 100000 in
theorem mkP_49 : mchkP 49 = true := by decide +kernel
set_option maxRecDepth 100000 in
theorem mkI_49 : mchkMI 49 = true := by decide +kernel
set_option maxRecDepth 100000 in
theorem mkD_49 : mchkD 49 = true := by decide +kernel
set_option maxRecDepth 100000 in
theorem mkP_50 : mchkP 50 = true := by decide +kernel
set_option maxRecDepth 100000 in
theorem mkI_50 : mchkMI 50 = true := by decide +kernel
set_option maxRecDepth 100000 in
theorem mkD_50 : mchkD 50 = true := by decide +kernel
set_option maxRecDepth 100000 in
theorem mkP_51 : mchkP 51 = true := by decide +kernel
set_option maxRecDepth 100000 in
theorem mkI_51 : mchkMI 51 = true := by decide +kernel
set_option maxRecDepth 100000 in
theorem mkD_51 : mchkD 51 = true := by decide +kernel
set_option maxRecDepth 100000 in
theorem mkP_52 : mchkP 52 = true := by decide +kernel
set_option maxRecDepth 100000 in
theorem mkI_52 : mchkMI 52 = true := by decide +kernel
set_option maxRecDepth 100000 in
theorem mkD_52 : mchkD 52 = true := by decide +kernel
set_option maxRecDepth 100000 in
theorem mkP_53 : mchkP 53 = true := by decide +kernel
set_option maxRecDepth 100000 in
theorem mkI_53 : mchkMI 53 = true := by decide +kernel
set_option maxRecDepth 100000 in
theorem mkD_53 : mchkD 53 = true := by decide +kernel
set_option maxRecDepth 100000 in
theorem mkP_54 : mchkP 54 = true := by decide +kernel
set_option maxRecDepth 100000 in
theorem mkI_54 : mchkMI 54 = true := by decide +kernel
set_option maxRecDepth 100000 in
theorem mkD_54 : mchkD 54 = true := by decide +kernel
set_option maxRecDepth 100000 in
theorem mkP_55 : mchkP 55 = true := by decide +kernel
set_option maxRecDepth 100000 in
theorem mkI_55 : mchkMI 55 = true := by decide +kernel
set_option maxRecDepth 100000 in
theorem mkD_55 : mchkD 55 = true := by decide +kernel
set_option maxRecDepth 100000 in
theorem mkP_56 : mchkP 56 = true := by decide +kernel
set_option maxRecDepth 100000 in
theorem mkI_56 : mchkMI 56 = true := by decide +kernel
set_option maxRecDepth 100000 in
theorem mkD_56 : mchkD 56 = true := by decide +kernel
set_option maxRecDepth 100000 in
theorem mkP_57 : mchkP 57 = true := by decide +kernel
set_option maxRecDepth 100000 in
theorem mkI_57 : mchkMI 57 = true := by decide +kernel
set_option maxRecDepth 100000 in
theorem mkD_57 : mchkD 57 = true := by decide +kernel
set_option maxRecDepth 100000 in
theorem mkP_58 : mchkP 58 = true := by decide +kernel
set_option maxRecDepth 100000 in
theorem mkI_58 : mchkMI 58 = true := by decide +kernel
set_option maxRecDepth 100000 in
theorem mkD_58 : mchkD 58 = true := by decide +kernel
set_option maxRecDepth 100000 in
theorem mkP_59 : mchkP 59 = true := by decide +kernel
set_option maxRecDepth 100000 in
theorem mkI_59 : mchkMI 59 = true := by decide +kernel
set_option maxRecDepth 100000 in
theorem mkD_59 : mchkD 59 = true := by decide +kernel
set_option maxRecDepth 100000 in
theorem mkP_60 : mchkP 60 = true := by decide +kernel
set_option maxRecDepth 100000 in
theorem mkI_60 : mchkMI 60 = true := by decide +kernel
set_option maxRecDepth 100000 in
theorem mkD_60 : mchkD 60 = true := by decide +kernel
set_option maxRecDepth 100000 in
theorem mkP_61 : mchkP 61 = true := by decide +kernel
set_option maxRecDepth 100000 in
theorem mkI_61 : mchkMI 61 = true := by decide +kernel
set_option maxRecDepth 100000 in
theorem mkD_61 : mchkD 61 = true := by decide +kernel
set_option maxRecDepth 100000 in
theorem mkP_62 : mchkP 62 = true := by decide +kernel
set_option maxRecDepth 100000 in
theorem mkI_62 : mchkMI 62 = true := by decide +kernel
set_option maxRecDepth 100000 in
theorem mkD_62 : mchkD 62 = true := by decide +kernel
set_option maxRecDepth 100000 in
theorem mkP_63 : mchkP 63 = true := by decide +kernel
set_option maxRecDepth 100000 in
theorem mkI_63 : mchkMI 63 = true := by decide +kernel
set_option maxRecDepth 100000 in
theorem mkD_63 : mchkD 63 = true := by decide +kernel
set_option maxRecDepth 100000 in
theorem mkP_64 : mchkP 64 = true := by decide +kernel
set_option maxRecDepth 100000 in
theorem mkI_64 : mchkMI 64 = true := by decide +kernel
set_option maxRecDepth 100000 in
theorem mkD_64 : mchkD 64 = true := by decide +kernel
set_option maxRecDepth 100000 in
theorem mkP_65 : mchkP 65 = true := by decide +kernel
set_option maxRecDepth 100000 in
theorem mkI_65 : mchkMI 65 = true := by decide +kernel
set_option maxRecDepth 100000 in
theorem mkD_65 : mchkD 65 = true := by decide +kernel
set_option maxRecDepth 100000 in
theorem mkP_66 : mchkP 66 = true := by decide +kernel
set_option maxRecDepth 100000 in
theorem mkI_66 : mchkMI 66 = true := by decide +kernel
set_option maxRecDepth 100000 in
theorem mkD_66 : mchkD 66 = true := by decide +kernel
set_option maxRecDepth 100000 in
theorem mkP_67 : mchkP 67 = true := by decide +kernel
set_option maxRecDepth 100000 in
theorem mkI_67 : mchkMI 67 = true := by decide +kernel
set_option maxRecDepth 100000 in
theorem mkD_67 : mchkD 67 = true := by decide +kernel
set_option maxRecDepth 100000 in
theorem mkP_68 : mchkP 68 = true := by decide +kernel
set_option maxRecDepth 100000 in
theorem mkI_68 : mchkMI 68 = true := by decide +kernel
set_option maxRecDepth 100000 in
theorem mkD_68 : mchkD 68 = true := by decide +kernel
set_option maxRecDepth 100000 in
theorem mkP_69 : mchkP 69 = true := by decide +kernel
set_option maxRecDepth 100000 in
theorem mkI_69 : mchkMI 69 = true := by decide +kernel
set_option maxRecDepth 100000 in
theorem mkD_69 : mchkD 69 = true := by decide +kernel
set_option maxRecDepth 100000 in
theorem mkP_70 : mchkP 70 = true := by decide +kernel
set_option maxRecDepth 100000 in
theorem mkI_70 : mchkMI 70 = true := by decide +kernel
set_option maxRecDepth 100000 in
theorem mkD_70 : mchkD 70 = true := by decide +kernel
set_option maxRecDepth 100000 in
theorem mkP_71 : mchkP 71 = true := by decide +kernel
set_option maxRecDepth 100000 in
theorem mkI_71 : mchkMI 71 = true := by decide +kernel
set_option maxRecDepth 100000 in
theorem mkD_71 : mchkD 71 = true := by decide +kernel
set_option maxRecDepth 100000 in
theorem mkP_72 : mchkP 72 = true := by decide +kernel
set_option maxRecDepth 100000 in
theorem mkI_72 : mchkMI 72 = true := by decide +kernel
set_option maxRecDepth 100000 in
theorem mkD_72 : mchkD 72 = true := by decide +kernel
set_option maxRecDepth 100000 in
theorem mkP_73 : mchkP 73 = true := by decide +kernel
set_option maxRecDepth 100000 in
theorem mkI_73 : mchkMI 73 = true := by decide +kernel
set_option maxRecDepth 100000 in
theorem mkD_73 : mchkD 73 = true := by decide +kernel
set_option maxRecDepth 100000 in
theorem mkP_74 : mchkP 74 = true := by decide +kernel
set_option maxRecDepth 100000 in
theorem mkI_74 : mchkMI 74 = true := by decide +kernel
set_option maxRecDepth 100000 in
theorem mkD_74 : mchkD 74 = true := by decide +kernel
set_option maxRecDepth 100000 in
theorem mkP_75 : mchkP 75 = true := by decide +kernel
set_option maxRecDepth 100000 in
theorem mkI_75 : mchkMI 75 = true := by decide +kernel
set_option maxRecDepth 100000 in
theorem mkD_75 : mchkD 75 = true := by decide +kernel
set_option maxRecDepth 100000 in
theorem mkP_76 : mchkP 76 = true := by decide +kernel
set_option maxRecDepth 100000 in
theorem mkI_76 : mchkMI 76 = true := by decide +kernel
set_option maxRecDepth 100000 in
theorem mkD_76 : mchkD 76 = true := by decide +kernel
set_option maxRecDepth 100000 in
theorem mkP_77 : mchkP 77 = true := by decide +kernel
set_option maxRecDepth 100000 in
theorem mkI_77 : mchkMI 77 = true := by decide +kernel
set_option maxRecDepth 100000 in
theorem mkD_77 : mchkD 77 = true := by decide +kernel
set_option maxRecDepth 100000 in
theorem mkP_78 : mchkP 78 = true := by decide +kernel
set_option maxRecDepth 100000 in
theorem mkI_78 : mchkMI 78 = true := by decide +kernel
set_option maxRecDepth 100000 in
theorem mkD_78 : mchkD 78 = true := by decide +kernel
set_option maxRecDepth 100000 in
theorem mkP_79 : mchkP 79 = true := by decide +kernel
set_option maxRecDepth 100000 in
theorem mkI_79 : mchkMI 79 = true := by decide +kernel
set_option maxRecDepth 100000 in
theorem mkD_79 : mchkD 79 = true := by decide +kernel
set_option maxRecDepth 100000 in
theorem mkP_80 : mchkP 80 = true := by decide +kernel
set_option maxRecDepth 100000 in
theorem mkI_80 : mchkMI 80 = true := by decide +kernel
set_option maxRecDepth 100000 in
theorem mkD_80 : mchkD 80 = true := by decide +kernel
set_option maxRecDepth 100000 in
theorem mkP_81 : mchkP 81 = true := by decide +kernel
set_option maxRecDepth 100000 in
theorem mkI_81 : mchkMI 81 = true := by decide +kernel
set_option maxRecDepth 100000 in
theorem mkD_81 : mchkD 81 = true := by decide +kernel
set_option maxRecDepth 100000 in
theorem mkP_82 : mchkP 82 = true := by decide +kernel
set_option maxRecDepth 100000 in
theorem mkI_82 : mchkMI 82 = true := by decide +kernel
set_option maxRecDepth 100000 in
theorem mkD_82 : mchkD 82 = true := by decide +kernel
set_option maxRecDepth 100000 in
theorem mkP_83 : mchkP 83 = true := by decide +kernel
set_option maxRecDepth 100000 in
theorem mkI_83 : mchkMI 83 = true := by decide +kernel
set_option maxRecDepth 100000 in
theorem mkD_83 : mchkD 83 = true := by decide +kernel
set_option maxRecDepth 100000 in
theorem mkP_84 : mchkP 84 = true := by decide +kernel
set_option maxRecDepth 100000 in
theorem mkI_84 : mchkMI 84 = true := by decide +kernel
set_option maxRecDepth 100000 in
theorem mkD_84 : mchkD 84 = true := by decide +kernel
set_option maxRecDepth 100000 in
theorem mkP_85 : mchkP 85 = true := by decide +kernel
set_option maxRecDepth 100000 in
theorem mkI_85 : mchkMI 85 = true := by decide +kernel
set_option maxRecDepth 100000 in
theorem mkD_85 : mchkD 85 = true := by decide +kernel
set_option maxRecDepth 100000 in
theorem mkP_86 : mchkP 86 = true := by decide +kernel
set_option maxRecDepth 100000 in
theorem mkI_86 : mchkMI 86 = true := by decide +kernel
set_option maxRecDepth 100000 in
theorem mkD_86 : mchkD 86 = true := by decide +kernel
set_option maxRecDepth 100000 in
theorem mkP_87 : mchkP 87 = true := by decide +kernel
set_option maxRecDepth 100000 in
theorem mkI_87 : mchkMI 87 = true := by decide +kernel
set_option maxRecDepth 100000 in
theorem mkD_87 : mchkD 87 = true := by decide +kernel
set_option maxRecDepth 100000 in
theorem mkP_88 : mchkP 88 = true := by decide +kernel
set_option maxRecDepth 100000 in
theorem mkI_88 : mchkMI 88 = true := by decide +kernel
set_option maxRecDepth 100000 in
theorem mkD_88 : mchkD 88 = true := by decide +kernel
set_option maxRecDepth 100000 in
theorem mkP_89 : mchkP 89 = true := by decide +kernel
set_option maxRecDepth 100000 in
theorem mkI_89 : mchkMI 89 = true := by decide +kernel
set_option maxRecDepth 100000 in
theorem mkD_89 : mchkD 89 = true := by decide +kernel
set_option maxRecDepth 100000 in
theorem mkP_90 : mchkP 90 = true := by decide +kernel
set_option maxRecDepth 100000 in
theorem mkI_90 : mchkMI 90 = true := by decide +kernel
set_option maxRecDepth 100000 in
theorem mkD_90 : mchkD 90 = true := by decide +kernel
set_option maxRecDepth 100000 in
theorem mkP_91 : mchkP 91 = true := by decide +kernel
set_option maxRecDepth 100000 in
theorem mkI_91 : mchkMI 91 = true := by decide +kernel
set_option maxRecDepth 100000 in
theorem mkD_91 : mchkD 91 = true := by decide +kernel
set_option maxRecDepth 100000 in
theorem mkP_92 : mchkP 92 = true := by decide +kernel
set_option maxRecDepth 100000 in
theorem mkI_92 : mchkMI 92 = true := by decide +kernel
set_option maxRecDepth 100000 in
theorem mkD_92 : mchkD 92 = true := by decide +kernel
set_option maxRecDepth 100000 in
theorem mkP_93 : mchkP 93 = true := by decide +kernel
set_option maxRecDepth 100000 in
theorem mkI_93 : mchkMI 93 = true := by decide +kernel
set_option maxRecDepth 100000 in
theorem mkD_93 : mchkD 93 = true := by decide +kernel
set_option maxRecDepth 100000 in
theorem mkP_94 : mchkP 94 = true := by decide +kernel
set_option maxRecDepth 100000 in
theorem mkI_94 : mchkMI 94 = true := by decide +kernel
set_option maxRecDepth 100000 in
theorem mkD_94 : mchkD 94 = true := by decide +kernel
set_option maxRecDepth 100000 in
theorem mkP_95 : mchkP 95 = true := by decide +kernel
set_option maxRecDepth 100000 in
theorem mkI_95 : mchkMI 95 = true := by decide +kernel
set_option maxRecDepth 100000 in
theorem mkD_95 : mchkD 95 = true := by decide +kernel
set_option maxRecDepth 100000 in
theorem mkP_96 : mchkP 96 = true := by decide +kernel
set_option maxRecDepth 100000 in
theorem mkI_96 : mchkMI 96 = true := by decide +kernel
set_option maxRecDepth 100000 in
theorem mkD_96 : mchkD 96 = true := by decide +kernel
set_option maxRecDepth 100000 in
theorem mkP_97 : mchkP 97 = true := by decide +kernel
set_option maxRecDepth 100000 in
theorem mkI_97 : mchkMI 97 = true := by decide +kernel
set_option maxRecDepth 100000 in
theorem mkD_97 : mchkD 97 = true := by decide +kernel
set_option maxRecDepth 100000 in
theorem mkP_98 : mchkP 98 = true := by decide +kernel
set_option maxRecDepth 100000 in
theorem mkI_98 : mchkMI 98 = true := by decide +kernel
set_option maxRecDepth 100000 in
theorem mkD_98 : mchkD 98 = true := by decide +kernel
set_option maxRecDepth 100000 in
theorem mkP_99 : mchkP 99 = true := by decide +kernel
set_option maxRecDepth 100000 in
theorem mkI_99 : mchkMI 99 = true := by decide +kernel
set_option maxRecDepth 100000 in
theorem mkD_99 : mchkD 99 = true := by decide +kernel
