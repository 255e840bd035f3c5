theorem iLaw_ok : iLaw := by
  sorry
