theorem lgz {x : Int64} : lg_cmp x 0 = 0 ↔ x = 0 := by
  constructor
  · intro h
    by_cases h1 : (0 : Int64) < x
    · simp [lg_cmp, h1] at h
    · by_cases h2 : x = 0
      · exact h2
      · simp [lg_cmp, h1, h2] at h
  · intro h; subst h; decide +kernel
