/-! ===== three numbers, each by how many digits it has: 9 and 10 digits first ===== -/
set_option maxRecDepth 100000 in
theorem qt_8_0 : qdigs.all (fun c => qchk 3 (qiv (2247483648, 3147483647)) (qiv (2147483648, 2147483657)) (qiv c) (qiv (qin 0 45))) = true := by decide +kernel
set_option maxRecDepth 100000 in
theorem qt_8_1 : qdigs.all (fun c => qchk 3 (qiv (2247483648, 3147483647)) (qiv (2147483658, 2147483747)) (qiv c) (qiv (qin 0 45))) = true := by decide +kernel
set_option maxRecDepth 100000 in
theorem qt_8_2 : qdigs.all (fun c => qchk 3 (qiv (2247483648, 3147483647)) (qiv (2147483748, 2147484647)) (qiv c) (qiv (qin 0 45))) = true := by decide +kernel
set_option maxRecDepth 100000 in
theorem qt_8_3 : qdigs.all (fun c => qchk 3 (qiv (2247483648, 3147483647)) (qiv (2147484648, 2147493647)) (qiv c) (qiv (qin 0 45))) = true := by decide +kernel
set_option maxRecDepth 100000 in
theorem qt_8_4 : qdigs.all (fun c => qchk 3 (qiv (2247483648, 3147483647)) (qiv (2147493648, 2147583647)) (qiv c) (qiv (qin 0 45))) = true := by decide +kernel
set_option maxRecDepth 100000 in
theorem qt_8_5 : qdigs.all (fun c => qchk 3 (qiv (2247483648, 3147483647)) (qiv (2147583648, 2148483647)) (qiv c) (qiv (qin 0 45))) = true := by decide +kernel
set_option maxRecDepth 100000 in
theorem qt_8_6 : qdigs.all (fun c => qchk 3 (qiv (2247483648, 3147483647)) (qiv (2148483648, 2157483647)) (qiv c) (qiv (qin 0 45))) = true := by decide +kernel
set_option maxRecDepth 100000 in
theorem qt_8_7 : qdigs.all (fun c => qchk 3 (qiv (2247483648, 3147483647)) (qiv (2157483648, 2247483647)) (qiv c) (qiv (qin 0 45))) = true := by decide +kernel
set_option maxRecDepth 100000 in
theorem qt_8_8 : qdigs.all (fun c => qchk 3 (qiv (2247483648, 3147483647)) (qiv (2247483648, 3147483647)) (qiv c) (qiv (qin 0 45))) = true := by decide +kernel
set_option maxRecDepth 100000 in
theorem qt_8_9 : qdigs.all (fun c => qchk 3 (qiv (2247483648, 3147483647)) (qiv (3147483648, 4294967295)) (qiv c) (qiv (qin 0 45))) = true := by decide +kernel
set_option maxRecDepth 100000 in
theorem qt_9_0 : qdigs.all (fun c => qchk 3 (qiv (3147483648, 4294967295)) (qiv (2147483648, 2147483657)) (qiv c) (qiv (qin 0 45))) = true := by decide +kernel
set_option maxRecDepth 100000 in
theorem qt_9_1 : qdigs.all (fun c => qchk 3 (qiv (3147483648, 4294967295)) (qiv (2147483658, 2147483747)) (qiv c) (qiv (qin 0 45))) = true := by decide +kernel
set_option maxRecDepth 100000 in
theorem qt_9_2 : qdigs.all (fun c => qchk 3 (qiv (3147483648, 4294967295)) (qiv (2147483748, 2147484647)) (qiv c) (qiv (qin 0 45))) = true := by decide +kernel
set_option maxRecDepth 100000 in
theorem qt_9_3 : qdigs.all (fun c => qchk 3 (qiv (3147483648, 4294967295)) (qiv (2147484648, 2147493647)) (qiv c) (qiv (qin 0 45))) = true := by decide +kernel
set_option maxRecDepth 100000 in
theorem qt_9_4 : qdigs.all (fun c => qchk 3 (qiv (3147483648, 4294967295)) (qiv (2147493648, 2147583647)) (qiv c) (qiv (qin 0 45))) = true := by decide +kernel
set_option maxRecDepth 100000 in
theorem qt_9_5 : qdigs.all (fun c => qchk 3 (qiv (3147483648, 4294967295)) (qiv (2147583648, 2148483647)) (qiv c) (qiv (qin 0 45))) = true := by decide +kernel
set_option maxRecDepth 100000 in
theorem qt_9_6 : qdigs.all (fun c => qchk 3 (qiv (3147483648, 4294967295)) (qiv (2148483648, 2157483647)) (qiv c) (qiv (qin 0 45))) = true := by decide +kernel
set_option maxRecDepth 100000 in
theorem qt_9_7 : qdigs.all (fun c => qchk 3 (qiv (3147483648, 4294967295)) (qiv (2157483648, 2247483647)) (qiv c) (qiv (qin 0 45))) = true := by decide +kernel
set_option maxRecDepth 100000 in
theorem qt_9_8 : qdigs.all (fun c => qchk 3 (qiv (3147483648, 4294967295)) (qiv (2247483648, 3147483647)) (qiv c) (qiv (qin 0 45))) = true := by decide +kernel
set_option maxRecDepth 100000 in
theorem qt_9_9 : qdigs.all (fun c => qchk 3 (qiv (3147483648, 4294967295)) (qiv (3147483648, 4294967295)) (qiv c) (qiv (qin 0 45))) = true := by decide +kernel
