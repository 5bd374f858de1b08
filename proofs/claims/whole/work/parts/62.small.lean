/-! small trees, as values -/
theorem k_isMember (u : Int32) (M : zMem) : f_X9_isMember u M = some (yB (zIn u 24), M) := by
  unfold f_X9_isMember yB
  have e24 : (24 : Int32).toInt = 24 := by decide +kernel
  have e0 : (0 : Int32).toInt = 0 := by decide +kernel
  by_cases h1 : u < 0
  · have := Int32.lt_iff_toInt_lt.mp h1
    rw [if_pos h1, if_neg (by rw [zIn_iff]; omega)]
  · have h1' := mt Int32.lt_iff_toInt_lt.mpr h1
    by_cases h2 : 24 ≤ u
    · have := Int32.le_iff_toInt_le.mp h2
      rw [if_neg h1, if_pos h2, if_neg (by rw [zIn_iff]; omega)]
    · have h2' := mt Int32.le_iff_toInt_le.mpr h2
      rw [if_neg h1, if_neg h2, if_pos (by rw [zIn_iff]; omega)]
theorem k_isSchool (u : Int32) (M : zMem) : f_X9_isSchool u M = some (yB (zIn u 8), M) := by
  unfold f_X9_isSchool yB
  have e8 : (8 : Int32).toInt = 8 := by decide +kernel
  have e0 : (0 : Int32).toInt = 0 := by decide +kernel
  by_cases h1 : u < 0
  · have := Int32.lt_iff_toInt_lt.mp h1
    rw [if_pos h1, if_neg (by rw [zIn_iff]; omega)]
  · have h1' := mt Int32.lt_iff_toInt_lt.mpr h1
    by_cases h2 : 8 ≤ u
    · have := Int32.le_iff_toInt_le.mp h2
      rw [if_neg h1, if_pos h2, if_neg (by rw [zIn_iff]; omega)]
    · have h2' := mt Int32.le_iff_toInt_le.mpr h2
      rw [if_neg h1, if_neg h2, if_pos (by rw [zIn_iff]; omega)]
theorem k_isKind (u : Int32) (M : zMem) : f_X9_isKind u M = some (yB (zIn u 8), M) := by
  unfold f_X9_isKind yB
  have e8 : (8 : Int32).toInt = 8 := by decide +kernel
  have e0 : (0 : Int32).toInt = 0 := by decide +kernel
  by_cases h1 : u < 0
  · have := Int32.lt_iff_toInt_lt.mp h1
    rw [if_pos h1, if_neg (by rw [zIn_iff]; omega)]
  · have h1' := mt Int32.lt_iff_toInt_lt.mpr h1
    by_cases h2 : 8 ≤ u
    · have := Int32.le_iff_toInt_le.mp h2
      rw [if_neg h1, if_pos h2, if_neg (by rw [zIn_iff]; omega)]
    · have h2' := mt Int32.le_iff_toInt_le.mpr h2
      rw [if_neg h1, if_neg h2, if_pos (by rw [zIn_iff]; omega)]
theorem k_isActNumber (u : Int32) (M : zMem) : f_X9_isActNumber u M = some (yB (zIn u 300), M) := by
  unfold f_X9_isActNumber yB
  have e300 : (300 : Int32).toInt = 300 := by decide +kernel
  have e0 : (0 : Int32).toInt = 0 := by decide +kernel
  by_cases h1 : u < 0
  · have := Int32.lt_iff_toInt_lt.mp h1
    rw [if_pos h1, if_neg (by rw [zIn_iff]; omega)]
  · have h1' := mt Int32.lt_iff_toInt_lt.mpr h1
    by_cases h2 : 300 ≤ u
    · have := Int32.le_iff_toInt_le.mp h2
      rw [if_neg h1, if_pos h2, if_neg (by rw [zIn_iff]; omega)]
    · have h2' := mt Int32.le_iff_toInt_le.mpr h2
      rw [if_neg h1, if_neg h2, if_pos (by rw [zIn_iff]; omega)]
theorem k_in (u a b : Int32) (M : zMem) : f_X10_in u a b M = some (yB (a.toInt ≤ u.toInt ∧ u.toInt ≤ b.toInt), M) := by
  unfold f_X10_in yB
  by_cases h1 : u < a
  · have := Int32.lt_iff_toInt_lt.mp h1
    rw [if_pos h1, if_neg (by omega)]
  · have h1' := mt Int32.lt_iff_toInt_lt.mpr h1
    by_cases h2 : b < u
    · have := Int32.lt_iff_toInt_lt.mp h2
      rw [if_neg h1, if_pos h2, if_neg (by omega)]
    · have h2' := mt Int32.lt_iff_toInt_lt.mpr h2
      rw [if_neg h1, if_neg h2, if_pos (by omega)]
