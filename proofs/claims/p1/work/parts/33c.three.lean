/-! ===== three numbers, each by how many digits it has: 5 and 6 digits first ===== -/
set_option maxRecDepth 100000 in
theorem qt_4_0 : qdigs.all (fun c => qchk 3 (qiv (2147493648, 2147583647)) (qiv (2147483648, 2147483657)) (qiv c) (qiv (qin 0 45))) = true := by decide +kernel
set_option maxRecDepth 100000 in
theorem qt_4_1 : qdigs.all (fun c => qchk 3 (qiv (2147493648, 2147583647)) (qiv (2147483658, 2147483747)) (qiv c) (qiv (qin 0 45))) = true := by decide +kernel
set_option maxRecDepth 100000 in
theorem qt_4_2 : qdigs.all (fun c => qchk 3 (qiv (2147493648, 2147583647)) (qiv (2147483748, 2147484647)) (qiv c) (qiv (qin 0 45))) = true := by decide +kernel
set_option maxRecDepth 100000 in
theorem qt_4_3 : qdigs.all (fun c => qchk 3 (qiv (2147493648, 2147583647)) (qiv (2147484648, 2147493647)) (qiv c) (qiv (qin 0 45))) = true := by decide +kernel
set_option maxRecDepth 100000 in
theorem qt_4_4 : qdigs.all (fun c => qchk 3 (qiv (2147493648, 2147583647)) (qiv (2147493648, 2147583647)) (qiv c) (qiv (qin 0 45))) = true := by decide +kernel
set_option maxRecDepth 100000 in
theorem qt_4_5 : qdigs.all (fun c => qchk 3 (qiv (2147493648, 2147583647)) (qiv (2147583648, 2148483647)) (qiv c) (qiv (qin 0 45))) = true := by decide +kernel
set_option maxRecDepth 100000 in
theorem qt_4_6 : qdigs.all (fun c => qchk 3 (qiv (2147493648, 2147583647)) (qiv (2148483648, 2157483647)) (qiv c) (qiv (qin 0 45))) = true := by decide +kernel
set_option maxRecDepth 100000 in
theorem qt_4_7 : qdigs.all (fun c => qchk 3 (qiv (2147493648, 2147583647)) (qiv (2157483648, 2247483647)) (qiv c) (qiv (qin 0 45))) = true := by decide +kernel
set_option maxRecDepth 100000 in
theorem qt_4_8 : qdigs.all (fun c => qchk 3 (qiv (2147493648, 2147583647)) (qiv (2247483648, 3147483647)) (qiv c) (qiv (qin 0 45))) = true := by decide +kernel
set_option maxRecDepth 100000 in
theorem qt_4_9 : qdigs.all (fun c => qchk 3 (qiv (2147493648, 2147583647)) (qiv (3147483648, 4294967295)) (qiv c) (qiv (qin 0 45))) = true := by decide +kernel
set_option maxRecDepth 100000 in
theorem qt_5_0 : qdigs.all (fun c => qchk 3 (qiv (2147583648, 2148483647)) (qiv (2147483648, 2147483657)) (qiv c) (qiv (qin 0 45))) = true := by decide +kernel
set_option maxRecDepth 100000 in
theorem qt_5_1 : qdigs.all (fun c => qchk 3 (qiv (2147583648, 2148483647)) (qiv (2147483658, 2147483747)) (qiv c) (qiv (qin 0 45))) = true := by decide +kernel
set_option maxRecDepth 100000 in
theorem qt_5_2 : qdigs.all (fun c => qchk 3 (qiv (2147583648, 2148483647)) (qiv (2147483748, 2147484647)) (qiv c) (qiv (qin 0 45))) = true := by decide +kernel
set_option maxRecDepth 100000 in
theorem qt_5_3 : qdigs.all (fun c => qchk 3 (qiv (2147583648, 2148483647)) (qiv (2147484648, 2147493647)) (qiv c) (qiv (qin 0 45))) = true := by decide +kernel
set_option maxRecDepth 100000 in
theorem qt_5_4 : qdigs.all (fun c => qchk 3 (qiv (2147583648, 2148483647)) (qiv (2147493648, 2147583647)) (qiv c) (qiv (qin 0 45))) = true := by decide +kernel
set_option maxRecDepth 100000 in
theorem qt_5_5 : qdigs.all (fun c => qchk 3 (qiv (2147583648, 2148483647)) (qiv (2147583648, 2148483647)) (qiv c) (qiv (qin 0 45))) = true := by decide +kernel
set_option maxRecDepth 100000 in
theorem qt_5_6 : qdigs.all (fun c => qchk 3 (qiv (2147583648, 2148483647)) (qiv (2148483648, 2157483647)) (qiv c) (qiv (qin 0 45))) = true := by decide +kernel
set_option maxRecDepth 100000 in
theorem qt_5_7 : qdigs.all (fun c => qchk 3 (qiv (2147583648, 2148483647)) (qiv (2157483648, 2247483647)) (qiv c) (qiv (qin 0 45))) = true := by decide +kernel
set_option maxRecDepth 100000 in
theorem qt_5_8 : qdigs.all (fun c => qchk 3 (qiv (2147583648, 2148483647)) (qiv (2247483648, 3147483647)) (qiv c) (qiv (qin 0 45))) = true := by decide +kernel
set_option maxRecDepth 100000 in
theorem qt_5_9 : qdigs.all (fun c => qchk 3 (qiv (2147583648, 2148483647)) (qiv (3147483648, 4294967295)) (qiv c) (qiv (qin 0 45))) = true := by decide +kernel
