/-! the session's trees -/
def zCS (o : Nat) (S M : zMem) : Prop := zCR 0 1 o S M ∧ zCF (o + 1) S M ∧ zCM (o + 4) S M ∧ zCP (o + 12) S M ∧ zCR 16 4 (o + 16) S M
def zEv (E M : zMem) : Prop := M 3 = E 3 ∧ M 4 = E 4 ∧ M 5 = E 5 ∧ M 6 = E 6 ∧ M 7 = E 7 ∧ M 14 = E 14
def zLg (M : zMem) (k : Nat) (w m d a b : Int32) : Prop := M 16 k = w ∧ M 17 k = m ∧ M 18 k = d ∧ M 19 k = a ∧ M 20 k = b
theorem zCS_0 {o : Nat} {S M : zMem} (h : zCS o S M) {i : Nat} (h1 : 9 ≤ i) (h2 : i < 16) : M o i = S 0 i := h.1 0 i (by omega) h1 h2
theorem zCS_a {o : Nat} {S M : zMem} (h : zCS o S M) {i : Nat} (j : Nat) (h1 : 16 ≤ j) (h3 : j < 20) (h2 : i < zIx (S 0 9)) : M (o + j) i = S j i := by
  rcases (by omega : j = 16 ∨ j = 17 ∨ j = 18 ∨ j = 19) with e | e | e | e
  · subst e; exact h.2.2.2.2 0 i (by omega) (Nat.zero_le _) h2
  · subst e; exact h.2.2.2.2 1 i (by omega) (Nat.zero_le _) h2
  · subst e; exact h.2.2.2.2 2 i (by omega) (Nat.zero_le _) h2
  · subst e; exact h.2.2.2.2 3 i (by omega) (Nat.zero_le _) h2
theorem zCS_w {o : Nat} {S M : zMem} (h0 : ∀ i, 9 ≤ i → i < 16 → M o i = S 0 i) (ha : ∀ j i, 16 ≤ j → j < 20 → i < zIx (S 0 9) → M (o + j) i = S j i) (hF : zCF (o + 1) S M) (hM : zCM (o + 4) S M) (hP : zCP (o + 12) S M) : zCS o S M := by
  refine ⟨?_, hF, hM, hP, ?_⟩
  · intro j i hj hl hh
    have e : j = 0 := by omega
    subst e
    exact h0 i hl hh
  · intro j i hj hl hh
    rcases (by omega : j = 0 ∨ j = 1 ∨ j = 2 ∨ j = 3) with e | e | e | e
    · subst e; exact ha 16 i (by omega) (by omega) hh
    · subst e; exact ha 17 i (by omega) (by omega) hh
    · subst e; exact ha 18 i (by omega) (by omega) hh
    · subst e; exact ha 19 i (by omega) (by omega) hh
theorem yPc_off {M : zMem} {c a : Nat} {g : Nat → Int32} (h : a ≠ c) : yPc M c g a = M a := by
  funext i
  exact yPc_c h
theorem zCF_fr {f : Nat} {S M S' M' : zMem} (h : zCF f S M) (hM : ∀ j, j < 3 → M' (f + j) = M (f + j)) (hS : ∀ c, 1 ≤ c → c < 4 → S' c = S c) : zCF f S' M' := by
  refine zCF_of ?_ ?_ ?_
  · intro i h1 h2
    have := hM 0 (by omega)
    rw [Nat.add_zero] at this
    rw [this, hS 1 (by omega) (by omega), zCF_1 h h1 h2]
  · intro i hi
    rw [hS 1 (by omega) (by omega)] at hi
    rw [hM 1 (by omega), hS 2 (by omega) (by omega), zCF_q h hi]
  · intro i hi
    rw [hM 2 (by omega), hS 3 (by omega) (by omega), zCF_s h hi]
theorem zCM_fr {f : Nat} {S M S' M' : zMem} (h : zCM f S M) (hM : ∀ j, j < 8 → M' (f + j) = M (f + j)) (hS : ∀ c, 4 ≤ c → c < 12 → S' c = S c) : zCM f S' M' := by
  refine zCM_of ?_ ?_
  · have := hM 0 (by omega)
    rw [Nat.add_zero] at this
    rw [this, hS 4 (by omega) (by omega), zCM_8 h]
  · intro j i h1 h2 hi
    rw [hS 4 (by omega) (by omega)] at hi
    rw [hM j h2, hS (4 + j) (by omega) (by omega), zCM_c h j h1 h2 hi]
theorem zCP_fr {f : Nat} {S M S' M' : zMem} (h : zCP f S M) (hM : ∀ j, j < 4 → M' (f + j) = M (f + j)) (hS : ∀ c, 12 ≤ c → c < 16 → S' c = S c) : zCP f S' M' := by
  refine zCP_of ?_ ?_
  · intro i h1 h2
    have := hM 0 (by omega)
    rw [Nat.add_zero] at this
    rw [this, hS 12 (by omega) (by omega), zCP_0 h h1 h2]
  · intro j i h1 h2 hi
    rw [hS 12 (by omega) (by omega)] at hi
    rw [hM j h2, hS (12 + j) (by omega) (by omega), zCP_c h j h1 h2 hi]
theorem zCS_F {o : Nat} {S M S' M' : zMem} (h : zCS o S M) (hF : zCF (o + 1) S' M') (hM : yFr (o + 1) 3 M M') (hS : ∀ c, c < 1 ∨ 4 ≤ c → S' c = S c) : zCS o S' M' := by
  refine zCS_w ?_ ?_ hF (zCM_fr h.2.2.1 (fun j hj => hM _ (by omega)) (fun c h1 h2 => hS c (by omega))) (zCP_fr h.2.2.2.1 (fun j hj => hM _ (by omega)) (fun c h1 h2 => hS c (by omega)))
  · intro i h1 h2
    rw [hM o (by omega), hS 0 (by omega), zCS_0 h h1 h2]
  · intro j i h1 h2 h3
    rw [hS 0 (by omega)] at h3
    rw [hM _ (by omega), hS j (by omega), zCS_a h j h1 h2 h3]
theorem zCS_M {o : Nat} {S M S' M' : zMem} (h : zCS o S M) (hF : zCM (o + 4) S' M') (hM : yFr (o + 4) 8 M M') (hS : ∀ c, c < 4 ∨ 12 ≤ c → S' c = S c) : zCS o S' M' := by
  refine zCS_w ?_ ?_ (zCF_fr h.2.1 (fun j hj => hM _ (by omega)) (fun c h1 h2 => hS c (by omega))) hF (zCP_fr h.2.2.2.1 (fun j hj => hM _ (by omega)) (fun c h1 h2 => hS c (by omega)))
  · intro i h1 h2
    rw [hM o (by omega), hS 0 (by omega), zCS_0 h h1 h2]
  · intro j i h1 h2 h3
    rw [hS 0 (by omega)] at h3
    rw [hM _ (by omega), hS j (by omega), zCS_a h j h1 h2 h3]
theorem zCS_P {o : Nat} {S M S' M' : zMem} (h : zCS o S M) (hF : zCP (o + 12) S' M') (hM : yFr (o + 12) 4 M M') (hS : ∀ c, c < 12 ∨ 16 ≤ c → S' c = S c) : zCS o S' M' := by
  refine zCS_w ?_ ?_ (zCF_fr h.2.1 (fun j hj => hM _ (by omega)) (fun c h1 h2 => hS c (by omega))) (zCM_fr h.2.2.1 (fun j hj => hM _ (by omega)) (fun c h1 h2 => hS c (by omega))) hF
  · intro i h1 h2
    rw [hM o (by omega), hS 0 (by omega), zCS_0 h h1 h2]
  · intro j i h1 h2 h3
    rw [hS 0 (by omega)] at h3
    rw [hM _ (by omega), hS j (by omega), zCS_a h j h1 h2 h3]
/-- a scalar of the session itself, not the number of acts -/
theorem zCS_u0 {o : Nat} {S M : zMem} (h : zCS o S M) (i : Nat) (v : Int32) (hi : i ≠ 9) : zCS o (zUp S 0 i v) (zUp M o i v) := by
  refine zCS_w ?_ ?_ (zCF_fr h.2.1 (fun j hj => zUp_off (by omega)) (fun c h1 h2 => zUp_off (by omega))) (zCM_fr h.2.2.1 (fun j hj => zUp_off (by omega)) (fun c h1 h2 => zUp_off (by omega))) (zCP_fr h.2.2.2.1 (fun j hj => zUp_off (by omega)) (fun c h1 h2 => zUp_off (by omega)))
  · intro k h1 h2
    by_cases q : k = i
    · subst q; rw [zUp_s, zUp_s]
    · rw [zUp_x q, zUp_x q, zCS_0 h h1 h2]
  · intro j k h1 h2 h3
    rw [zUp_x (fun e => hi e.symm)] at h3
    rw [zUp_c (by omega), zUp_c (by omega), zCS_a h j h1 h2 h3]
theorem zCS_ua {o : Nat} {S M : zMem} (h : zCS o S M) (a i : Nat) (v : Int32) (ha : 16 ≤ a) (ha2 : a < 20) : zCS o (zUp S a i v) (zUp M (o + a) i v) := by
  refine zCS_w ?_ ?_ (zCF_fr h.2.1 (fun j hj => zUp_off (by omega)) (fun c h1 h2 => zUp_off (by omega))) (zCM_fr h.2.2.1 (fun j hj => zUp_off (by omega)) (fun c h1 h2 => zUp_off (by omega))) (zCP_fr h.2.2.2.1 (fun j hj => zUp_off (by omega)) (fun c h1 h2 => zUp_off (by omega)))
  · intro k h1 h2
    rw [zUp_c (by omega), zUp_c (by omega), zCS_0 h h1 h2]
  · intro j k h1 h2 h3
    rw [zUp_c (by omega)] at h3
    by_cases q : j = a
    · subst q
      by_cases q2 : k = i
      · subst q2; rw [zUp_s, zUp_s]
      · rw [zUp_x q2, zUp_x q2, zCS_a h j h1 h2 h3]
    · rw [zUp_c (by omega), zUp_c (by omega), zCS_a h j h1 h2 h3]
theorem k_told {o k : Nat} {S M : zMem} {w m d a b : Int32} (h : zCS o S M) (hk : k < 300) (hl : zLg M k w m d a b) : f_X7_numbersAreAsTold o (nI k) M = some (zT (s_told S w m d a b), M) := by
  obtain ⟨l1, l2, l3, l4, l5⟩ := hl
  have hi : zIn (nI k) 300 := zIn_n hk (by omega)
  rw [f_X7_numbersAreAsTold, zCk_t hi, zCk_t hi, zCk_t hi, zIx_n (by omega), l1, l2, l4, l5, zCS_0 h (by omega) (by omega)]
  simp only [zCk_t hi, k_isMember, k_isKind, zBd_some, yB_T, l3]
  unfold s_told
  by_cases q3 : w = 3
  · rw [if_pos q3, if_pos q3, zT_t trivial]
  rw [if_neg q3, if_neg q3]
  by_cases q4 : w = 4
  · rw [if_pos q4, if_pos q4]
    by_cases c1 : a < 1
    · rw [if_pos c1, zT_f (fun x => Int32.not_le.mpr c1 x.1)]
    rw [if_neg c1]
    by_cases c2 : 9999 < a
    · rw [if_pos c2, zT_f (fun x => Int32.not_le.mpr c2 x.2)]
    · rw [if_neg c2, zT_t ⟨Int32.not_lt.mp c1, Int32.not_lt.mp c2⟩]
  rw [if_neg q4, if_neg q4]
  by_cases q6 : w = 6
  · have q5 : ¬ w = 5 := by rw [q6]; decide
    rw [if_neg q5, if_pos q6, if_pos q6]
    by_cases c1 : zIn m 24
    · rw [zT_t c1, if_neg (by decide)]
      by_cases c2 : zIn d 8
      · rw [zT_t c2, if_neg (by decide)]
        by_cases c3 : a < 0
        · rw [if_pos c3, zT_f (fun x => Int32.not_le.mpr c3 x.2.2.1.1)]
        rw [if_neg c3]
        by_cases c4 : 999 < a
        · rw [if_pos c4, zT_f (fun x => Int32.not_le.mpr c4 x.2.2.1.2)]
        rw [if_neg c4]
        by_cases c5 : b < 0
        · rw [if_pos c5, zT_f (fun x => Int32.not_le.mpr c5 x.2.2.2.1)]
        rw [if_neg c5]
        by_cases c6 : 999 < b
        · rw [if_pos c6, zT_f (fun x => Int32.not_le.mpr c6 x.2.2.2.2)]
        · rw [if_neg c6, zT_t ⟨c1, c2, ⟨Int32.not_lt.mp c3, Int32.not_lt.mp c4⟩, ⟨Int32.not_lt.mp c5, Int32.not_lt.mp c6⟩⟩]
      · rw [zT_f c2, if_pos rfl, zT_f (fun x => c2 x.2.1)]
    · rw [zT_f c1, if_pos rfl, zT_f (fun x => c1 x.1)]
  rw [if_neg q6, if_neg q6]
  by_cases q8 : w = 8
  · have q5 : ¬ w = 5 := by rw [q8]; decide
    have q7 : ¬ w = 7 := by rw [q8]; decide
    rw [if_neg q5, if_neg q7, if_pos q8, if_pos q8]
    by_cases c1 : (a &&& b) = 0
    · rw [if_pos c1]
      by_cases c2 : ((a ||| b) &&& (S 0 11 ^^^ (-1))) = 0
      · rw [if_pos c2, zT_t ⟨c1, c2⟩]
      · rw [if_neg c2, zT_f (fun x => c2 x.2)]
    · rw [if_neg c1, zT_f (fun x => c1 x.1)]
  rw [if_neg q8, if_neg q8]
  by_cases q9 : w = 9
  · have q5 : ¬ w = 5 := by rw [q9]; decide
    have q7 : ¬ w = 7 := by rw [q9]; decide
    rw [if_neg q5, if_neg q7, if_pos q9, if_pos q9]
    by_cases c1 : a = 0
    · rw [if_pos c1, zT_t (Or.inl c1)]
    rw [if_neg c1]
    by_cases c2 : a = 1
    · rw [if_pos c2, zT_t (Or.inr c2)]
    · rw [if_neg c2, zT_f (fun x => x.elim c1 c2)]
  rw [if_neg q9, if_neg q9]
  by_cases q5 : w = 5
  · rw [if_pos q5]
  rw [if_neg q5]
  by_cases q7 : w = 7
  · rw [if_pos q7]
  · rw [if_neg q7]
theorem k_ofm (w : Int32) (M : zMem) : f_X7_isOfMember w M = some (zT (s_ofm w), M) := by
  unfold f_X7_isOfMember s_ofm
  by_cases q3 : w = 3
  · rw [if_pos q3, zT_f (by simp [q3])]
  rw [if_neg q3]
  by_cases q4 : w = 4
  · rw [if_pos q4, zT_f (by simp [q4])]
  rw [if_neg q4]
  by_cases q8 : w = 8
  · rw [if_pos q8, zT_f (by simp [q8])]
  rw [if_neg q8]
  by_cases q9 : w = 9
  · rw [if_pos q9, zT_f (by simp [q9])]
  · rw [if_neg q9, zT_t ⟨q3, q4, q8, q9⟩]
theorem k_sin {o : Nat} {S M : zMem} (h : zCS o S M) (m : Int32) : f_X7_isThere o m M = some (zT (s_in S m), M) := by
  rw [f_X7_isThere, k_isMember, zBd_some, zCS_0 h (by omega) (by omega)]
  unfold s_in
  by_cases q : zIn m 24
  · rw [yB_t q, if_neg (by decide)]
    by_cases q2 : (zUsr (S 0 11) m &&& 1) = 1
    · rw [if_pos q2, zT_t ⟨q, q2⟩]
    · rw [if_neg q2, zT_f (fun x => q2 x.2)]
  · rw [yB_f q, if_pos rfl, zT_f (fun x => q x.1)]
theorem k_wk {o : Nat} {S M : zMem} (h : zCS o S M) (u : Int32) : f_X7_isWorked o u M = some (zT (s_wk S u), M) := by
  rw [f_X7_isWorked, k_isActNumber, zBd_some, zCS_0 h (by omega) (by omega)]
  unfold s_wk
  by_cases q : zIn u 300
  · rw [yB_t q, if_neg (by decide)]
    by_cases q2 : S 0 9 ≤ u
    · rw [if_pos q2, zT_f (fun x => Int32.not_lt.mpr q2 x.2)]
    · rw [if_neg q2, zT_t ⟨q, Int32.not_le.mp q2⟩]
  · rw [yB_f q, if_pos rfl, zT_f (fun x => q x.1)]
