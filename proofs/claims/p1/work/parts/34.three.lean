theorem qb_3all : ∀ a ∈ qdigs, ∀ b ∈ qdigs, ∀ c ∈ qdigs, qchk 3 (qiv a) (qiv b) (qiv c) (qiv (qin 0 45)) = true := by sorry
