/-! ===== .. all of them ===== -/
theorem qt_0 : ∀ b ∈ qdigs, ∀ c ∈ qdigs, qchk 3 (qiv (2147483648, 2147483657)) (qiv b) (qiv c) (qiv (qin 0 45)) = true := by
  intro b hb
  simp only [qdigs, List.mem_cons, List.not_mem_nil, or_false] at hb
  rcases hb with rfl | rfl | rfl | rfl | rfl | rfl | rfl | rfl | rfl | rfl
  · exact fun c hc => List.all_eq_true.mp qt_0_0 c hc
  · exact fun c hc => List.all_eq_true.mp qt_0_1 c hc
  · exact fun c hc => List.all_eq_true.mp qt_0_2 c hc
  · exact fun c hc => List.all_eq_true.mp qt_0_3 c hc
  · exact fun c hc => List.all_eq_true.mp qt_0_4 c hc
  · exact fun c hc => List.all_eq_true.mp qt_0_5 c hc
  · exact fun c hc => List.all_eq_true.mp qt_0_6 c hc
  · exact fun c hc => List.all_eq_true.mp qt_0_7 c hc
  · exact fun c hc => List.all_eq_true.mp qt_0_8 c hc
  · exact fun c hc => List.all_eq_true.mp qt_0_9 c hc
theorem qt_1 : ∀ b ∈ qdigs, ∀ c ∈ qdigs, qchk 3 (qiv (2147483658, 2147483747)) (qiv b) (qiv c) (qiv (qin 0 45)) = true := by
  intro b hb
  simp only [qdigs, List.mem_cons, List.not_mem_nil, or_false] at hb
  rcases hb with rfl | rfl | rfl | rfl | rfl | rfl | rfl | rfl | rfl | rfl
  · exact fun c hc => List.all_eq_true.mp qt_1_0 c hc
  · exact fun c hc => List.all_eq_true.mp qt_1_1 c hc
  · exact fun c hc => List.all_eq_true.mp qt_1_2 c hc
  · exact fun c hc => List.all_eq_true.mp qt_1_3 c hc
  · exact fun c hc => List.all_eq_true.mp qt_1_4 c hc
  · exact fun c hc => List.all_eq_true.mp qt_1_5 c hc
  · exact fun c hc => List.all_eq_true.mp qt_1_6 c hc
  · exact fun c hc => List.all_eq_true.mp qt_1_7 c hc
  · exact fun c hc => List.all_eq_true.mp qt_1_8 c hc
  · exact fun c hc => List.all_eq_true.mp qt_1_9 c hc
theorem qt_2 : ∀ b ∈ qdigs, ∀ c ∈ qdigs, qchk 3 (qiv (2147483748, 2147484647)) (qiv b) (qiv c) (qiv (qin 0 45)) = true := by
  intro b hb
  simp only [qdigs, List.mem_cons, List.not_mem_nil, or_false] at hb
  rcases hb with rfl | rfl | rfl | rfl | rfl | rfl | rfl | rfl | rfl | rfl
  · exact fun c hc => List.all_eq_true.mp qt_2_0 c hc
  · exact fun c hc => List.all_eq_true.mp qt_2_1 c hc
  · exact fun c hc => List.all_eq_true.mp qt_2_2 c hc
  · exact fun c hc => List.all_eq_true.mp qt_2_3 c hc
  · exact fun c hc => List.all_eq_true.mp qt_2_4 c hc
  · exact fun c hc => List.all_eq_true.mp qt_2_5 c hc
  · exact fun c hc => List.all_eq_true.mp qt_2_6 c hc
  · exact fun c hc => List.all_eq_true.mp qt_2_7 c hc
  · exact fun c hc => List.all_eq_true.mp qt_2_8 c hc
  · exact fun c hc => List.all_eq_true.mp qt_2_9 c hc
theorem qt_3 : ∀ b ∈ qdigs, ∀ c ∈ qdigs, qchk 3 (qiv (2147484648, 2147493647)) (qiv b) (qiv c) (qiv (qin 0 45)) = true := by
  intro b hb
  simp only [qdigs, List.mem_cons, List.not_mem_nil, or_false] at hb
  rcases hb with rfl | rfl | rfl | rfl | rfl | rfl | rfl | rfl | rfl | rfl
  · exact fun c hc => List.all_eq_true.mp qt_3_0 c hc
  · exact fun c hc => List.all_eq_true.mp qt_3_1 c hc
  · exact fun c hc => List.all_eq_true.mp qt_3_2 c hc
  · exact fun c hc => List.all_eq_true.mp qt_3_3 c hc
  · exact fun c hc => List.all_eq_true.mp qt_3_4 c hc
  · exact fun c hc => List.all_eq_true.mp qt_3_5 c hc
  · exact fun c hc => List.all_eq_true.mp qt_3_6 c hc
  · exact fun c hc => List.all_eq_true.mp qt_3_7 c hc
  · exact fun c hc => List.all_eq_true.mp qt_3_8 c hc
  · exact fun c hc => List.all_eq_true.mp qt_3_9 c hc
theorem qt_4 : ∀ b ∈ qdigs, ∀ c ∈ qdigs, qchk 3 (qiv (2147493648, 2147583647)) (qiv b) (qiv c) (qiv (qin 0 45)) = true := by
  intro b hb
  simp only [qdigs, List.mem_cons, List.not_mem_nil, or_false] at hb
  rcases hb with rfl | rfl | rfl | rfl | rfl | rfl | rfl | rfl | rfl | rfl
  · exact fun c hc => List.all_eq_true.mp qt_4_0 c hc
  · exact fun c hc => List.all_eq_true.mp qt_4_1 c hc
  · exact fun c hc => List.all_eq_true.mp qt_4_2 c hc
  · exact fun c hc => List.all_eq_true.mp qt_4_3 c hc
  · exact fun c hc => List.all_eq_true.mp qt_4_4 c hc
  · exact fun c hc => List.all_eq_true.mp qt_4_5 c hc
  · exact fun c hc => List.all_eq_true.mp qt_4_6 c hc
  · exact fun c hc => List.all_eq_true.mp qt_4_7 c hc
  · exact fun c hc => List.all_eq_true.mp qt_4_8 c hc
  · exact fun c hc => List.all_eq_true.mp qt_4_9 c hc
theorem qt_5 : ∀ b ∈ qdigs, ∀ c ∈ qdigs, qchk 3 (qiv (2147583648, 2148483647)) (qiv b) (qiv c) (qiv (qin 0 45)) = true := by
  intro b hb
  simp only [qdigs, List.mem_cons, List.not_mem_nil, or_false] at hb
  rcases hb with rfl | rfl | rfl | rfl | rfl | rfl | rfl | rfl | rfl | rfl
  · exact fun c hc => List.all_eq_true.mp qt_5_0 c hc
  · exact fun c hc => List.all_eq_true.mp qt_5_1 c hc
  · exact fun c hc => List.all_eq_true.mp qt_5_2 c hc
  · exact fun c hc => List.all_eq_true.mp qt_5_3 c hc
  · exact fun c hc => List.all_eq_true.mp qt_5_4 c hc
  · exact fun c hc => List.all_eq_true.mp qt_5_5 c hc
  · exact fun c hc => List.all_eq_true.mp qt_5_6 c hc
  · exact fun c hc => List.all_eq_true.mp qt_5_7 c hc
  · exact fun c hc => List.all_eq_true.mp qt_5_8 c hc
  · exact fun c hc => List.all_eq_true.mp qt_5_9 c hc
theorem qt_6 : ∀ b ∈ qdigs, ∀ c ∈ qdigs, qchk 3 (qiv (2148483648, 2157483647)) (qiv b) (qiv c) (qiv (qin 0 45)) = true := by
  intro b hb
  simp only [qdigs, List.mem_cons, List.not_mem_nil, or_false] at hb
  rcases hb with rfl | rfl | rfl | rfl | rfl | rfl | rfl | rfl | rfl | rfl
  · exact fun c hc => List.all_eq_true.mp qt_6_0 c hc
  · exact fun c hc => List.all_eq_true.mp qt_6_1 c hc
  · exact fun c hc => List.all_eq_true.mp qt_6_2 c hc
  · exact fun c hc => List.all_eq_true.mp qt_6_3 c hc
  · exact fun c hc => List.all_eq_true.mp qt_6_4 c hc
  · exact fun c hc => List.all_eq_true.mp qt_6_5 c hc
  · exact fun c hc => List.all_eq_true.mp qt_6_6 c hc
  · exact fun c hc => List.all_eq_true.mp qt_6_7 c hc
  · exact fun c hc => List.all_eq_true.mp qt_6_8 c hc
  · exact fun c hc => List.all_eq_true.mp qt_6_9 c hc
theorem qt_7 : ∀ b ∈ qdigs, ∀ c ∈ qdigs, qchk 3 (qiv (2157483648, 2247483647)) (qiv b) (qiv c) (qiv (qin 0 45)) = true := by
  intro b hb
  simp only [qdigs, List.mem_cons, List.not_mem_nil, or_false] at hb
  rcases hb with rfl | rfl | rfl | rfl | rfl | rfl | rfl | rfl | rfl | rfl
  · exact fun c hc => List.all_eq_true.mp qt_7_0 c hc
  · exact fun c hc => List.all_eq_true.mp qt_7_1 c hc
  · exact fun c hc => List.all_eq_true.mp qt_7_2 c hc
  · exact fun c hc => List.all_eq_true.mp qt_7_3 c hc
  · exact fun c hc => List.all_eq_true.mp qt_7_4 c hc
  · exact fun c hc => List.all_eq_true.mp qt_7_5 c hc
  · exact fun c hc => List.all_eq_true.mp qt_7_6 c hc
  · exact fun c hc => List.all_eq_true.mp qt_7_7 c hc
  · exact fun c hc => List.all_eq_true.mp qt_7_8 c hc
  · exact fun c hc => List.all_eq_true.mp qt_7_9 c hc
theorem qt_8 : ∀ b ∈ qdigs, ∀ c ∈ qdigs, qchk 3 (qiv (2247483648, 3147483647)) (qiv b) (qiv c) (qiv (qin 0 45)) = true := by
  intro b hb
  simp only [qdigs, List.mem_cons, List.not_mem_nil, or_false] at hb
  rcases hb with rfl | rfl | rfl | rfl | rfl | rfl | rfl | rfl | rfl | rfl
  · exact fun c hc => List.all_eq_true.mp qt_8_0 c hc
  · exact fun c hc => List.all_eq_true.mp qt_8_1 c hc
  · exact fun c hc => List.all_eq_true.mp qt_8_2 c hc
  · exact fun c hc => List.all_eq_true.mp qt_8_3 c hc
  · exact fun c hc => List.all_eq_true.mp qt_8_4 c hc
  · exact fun c hc => List.all_eq_true.mp qt_8_5 c hc
  · exact fun c hc => List.all_eq_true.mp qt_8_6 c hc
  · exact fun c hc => List.all_eq_true.mp qt_8_7 c hc
  · exact fun c hc => List.all_eq_true.mp qt_8_8 c hc
  · exact fun c hc => List.all_eq_true.mp qt_8_9 c hc
theorem qt_9 : ∀ b ∈ qdigs, ∀ c ∈ qdigs, qchk 3 (qiv (3147483648, 4294967295)) (qiv b) (qiv c) (qiv (qin 0 45)) = true := by
  intro b hb
  simp only [qdigs, List.mem_cons, List.not_mem_nil, or_false] at hb
  rcases hb with rfl | rfl | rfl | rfl | rfl | rfl | rfl | rfl | rfl | rfl
  · exact fun c hc => List.all_eq_true.mp qt_9_0 c hc
  · exact fun c hc => List.all_eq_true.mp qt_9_1 c hc
  · exact fun c hc => List.all_eq_true.mp qt_9_2 c hc
  · exact fun c hc => List.all_eq_true.mp qt_9_3 c hc
  · exact fun c hc => List.all_eq_true.mp qt_9_4 c hc
  · exact fun c hc => List.all_eq_true.mp qt_9_5 c hc
  · exact fun c hc => List.all_eq_true.mp qt_9_6 c hc
  · exact fun c hc => List.all_eq_true.mp qt_9_7 c hc
  · exact fun c hc => List.all_eq_true.mp qt_9_8 c hc
  · exact fun c hc => List.all_eq_true.mp qt_9_9 c hc
theorem qb_3all : ∀ a ∈ qdigs, ∀ b ∈ qdigs, ∀ c ∈ qdigs, qchk 3 (qiv a) (qiv b) (qiv c) (qiv (qin 0 45)) = true := by
  intro a ha
  simp only [qdigs, List.mem_cons, List.not_mem_nil, or_false] at ha
  rcases ha with rfl | rfl | rfl | rfl | rfl | rfl | rfl | rfl | rfl | rfl
  · exact qt_0
  · exact qt_1
  · exact qt_2
  · exact qt_3
  · exact qt_4
  · exact qt_5
  · exact qt_6
  · exact qt_7
  · exact qt_8
  · exact qt_9
