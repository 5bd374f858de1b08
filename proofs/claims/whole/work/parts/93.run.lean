/-! a session begun, and worked -/
def s_init (E : zMem) : zMem := zUp (zUp (zUp (fun _ _ => 0) 1 5 (-1)) 0 10 (-1)) 0 12 (E 3 4)
noncomputable def s_st (E S : zMem) (k : Nat) : zMem := s_step E S k (E 16 k) (E 17 k) (E 18 k) (E 19 k) (E 20 k) (s_rule E S (E 16 k) (E 17 k) (E 18 k) (E 19 k) (E 20 k))
noncomputable def s_rf (E : zMem) : Nat → Nat → zMem → zMem
  | 0, _, S => S
  | j + 1, k, S => s_rf E j (k + 1) (s_st E S k)
noncomputable def s_run (E : zMem) (n : Nat) : zMem := s_rf E n 0 (s_init E)
theorem s_rf_s (E : zMem) : ∀ j k S, s_rf E (j + 1) k S = s_st E (s_rf E j k S) (k + j)
  | 0, _, _ => rfl
  | j + 1, k, S => by
    rw [s_rf, s_rf_s E j (k + 1) (s_st E S k), show k + 1 + j = k + (j + 1) by omega]
    rfl
theorem s_run_s (E : zMem) (n : Nat) : s_run E (n + 1) = s_st E (s_run E n) n := by
  unfold s_run
  rw [s_rf_s, Nat.zero_add]
theorem s_init_0 (E : zMem) (i : Nat) : s_init E 0 i = if i = 12 then E 3 4 else if i = 10 then -1 else 0 := by
  unfold s_init
  by_cases q : i = 12
  · subst q; rw [zUp_s, if_pos rfl]
  · rw [zUp_x q, if_neg q]
    by_cases q2 : i = 10
    · subst q2; rw [zUp_s, if_pos rfl]
    · rw [zUp_x q2, if_neg q2, zUp_c (by omega)]
theorem s_init_1 (E : zMem) (i : Nat) : s_init E 1 i = if i = 5 then -1 else 0 := by
  unfold s_init
  rw [zUp_c (by omega), zUp_c (by omega)]
  by_cases q : i = 5
  · subst q; rw [zUp_s, if_pos rfl]
  · rw [zUp_x q, if_neg q]
theorem s_init_c (E : zMem) (c i : Nat) (h : 2 ≤ c) : s_init E c i = 0 := by
  unfold s_init
  rw [zUp_c (by omega), zUp_c (by omega), zUp_c (by omega)]
theorem zWA_init {E : zMem} (h : 0 < E 3 4) : zWA E (s_init E) 0 0 0 0 := by
  have h24 : z24 (0 : Int32) := fun i _ => b_0 i
  refine zWA_of ⟨⟨by rw [s_init_1]; rfl, by omega, fun i hi => by omega, fun i j _ hj => by omega⟩, ⟨by rw [s_init_c _ _ _ (by omega)]; rfl, by omega, fun i hi => by omega⟩, by rw [s_init_0]; rfl, Or.inl ⟨by rw [s_init_0]; rfl, fun j hj => by omega⟩, by rw [s_init_0]; exact h24, Or.inl ⟨by rw [s_init_1]; rfl, by rw [s_init_1]; rfl, by rw [s_init_1]; rfl⟩, by rw [s_init_0, if_pos rfl]; exact h, by rw [s_init_0, if_neg (by omega), if_neg (by omega)]; decide, by rw [s_init_0]; exact Or.inl rfl, fun i hi => by omega⟩ ⟨⟨by rw [s_init_c _ _ _ (by omega)]; rfl, by omega, fun i hi => by omega, fun i j _ hj => by omega⟩, by rw [s_init_c _ _ _ (by omega), s_pl_nil]; rfl, by rw [s_pl_nil]; simp, fun _ => rfl, Or.inl (by rw [s_init_c _ _ _ (by omega)]), fun n hn => by omega⟩ (by omega)
theorem k_clr_L {o : Nat} : ∀ k i N M, i + k = 24 → k < N → ∃ M', f_X0_clear_L2 o N (nI i) M = f_X0_clear_B21 o M' ∧ (∀ c, c ≠ o + 2 → M' c = M c) ∧ (∀ j, M' (o + 2) j = if i ≤ j ∧ j < 24 then 0 else M (o + 2) j) := by
  intro k
  induction k with
  | zero =>
    intro i N M hi hN
    obtain ⟨N, rfl⟩ : ∃ N', N = N' + 1 := ⟨N - 1, by omega⟩
    refine ⟨M, ?_, fun _ _ => rfl, fun j => by rw [if_neg (by omega)]⟩
    rw [f_X0_clear_L2]
    simp (disch := omega) only [zl_2, zl_3, zl_4, zl_5, zl_6, zl_7, zl_8, zl_12, zl_20, zl_24, zl_28, zl_40, zl_60, zl_300, zl_320, zl_400, zl_600, zd_lt0, zd_l0n, zd_l0y, zd_0lt, zd_1lt, zd_1lty, zd_e0n, zd_e0y, zd_e1n, zd_e1y, zd_nn, zd_ny, zd_mn, zd_my, zd_en, zd_ey, zd_e1, zd_in, zCk_T, zIx_n, nI_1, nI_add, zd_sub, zd_dec, if_true, if_false, ite_true, ite_false]
  | succ k ih =>
    intro i N M hi hN
    obtain ⟨N, rfl⟩ : ∃ N', N = N' + 1 := ⟨N - 1, by omega⟩
    obtain ⟨M', e, a1, a2⟩ := ih (i + 1) N (zUp M (o + 2) i 0) (by omega) (by omega)
    refine ⟨M', ?_, fun c hc => (a1 c hc).trans (zUp_off hc), fun j => ?_⟩
    · rw [f_X0_clear_L2]
      simp (disch := omega) only [zl_2, zl_3, zl_4, zl_5, zl_6, zl_7, zl_8, zl_12, zl_20, zl_24, zl_28, zl_40, zl_60, zl_300, zl_320, zl_400, zl_600, zd_lt0, zd_l0n, zd_l0y, zd_0lt, zd_1lt, zd_1lty, zd_e0n, zd_e0y, zd_e1n, zd_e1y, zd_nn, zd_ny, zd_mn, zd_my, zd_en, zd_ey, zd_e1, zd_in, zCk_T, zIx_n, nI_1, nI_add, zd_sub, zd_dec, if_true, if_false, ite_true, ite_false, zBd_some, zLt_eq, zUp_s, zUp_c, zUp_i, zCk_t]
      exact e
    · rw [a2 j]
      by_cases q : j = i
      · subst q
        rw [if_neg (by omega), zUp_s, if_pos (by omega)]
      · rw [zUp_x q]
        by_cases q2 : i + 1 ≤ j ∧ j < 24
        · rw [if_pos q2, if_pos (by omega)]
        · rw [if_neg q2, if_neg (by omega)]
theorem k_start {o : Nat} {E M : zMem} (ho : 21 ≤ o) (hE : M 3 = E 3) : ∃ M', f_X7_startAnew o M = some (0, M') ∧ zCS o (s_init E) M' ∧ yFr o 20 M M' := by
  obtain ⟨M1, e1, a1, a2⟩ := k_clr_L (o := o + 1) 24 0 zFu M (by omega) (by unfold zFu; omega)
  have e2 : f_X0_clear (o + 1) M = some (0, zUp (zUp (zUp (zUp M1 (o + 1) 4 0) (o + 1) 5 (-1)) (o + 1) 6 0) (o + 1) 7 0) := by
    rw [f_X0_clear]
    show f_X0_clear_L2 (o + 1) zFu (nI 0) M = _
    rw [e1]
    rfl
  refine ⟨zUp (zUp (zUp (zUp (zUp (zUp (zUp (zUp (zUp (zUp (zUp (zUp (zUp (zUp (zUp M1 (o + 1) 4 0) (o + 1) 5 (-1)) (o + 1) 6 0) (o + 1) 7 0) (o + 4) 8 0) (o + 12) 3 0) (o + 12) 4 0) (o + 12) 5 0) o 9 0) o 10 (-1)) o 11 0) o 12 (E 3 4)) o 13 0) o 14 0) o 15 0, ?_, ?_, ?_⟩
  · rw [f_X7_startAnew, e2, zBd_some, zLt_eq, f_X4_takeAway, zLt_eq, zLt_eq, zLt_eq, zBd_some]
    simp only [zLt_eq]
    have e3 : zUp (zUp (zUp (zUp (zUp (zUp (zUp (zUp (zUp (zUp (zUp M1 (o + 1) 4 0) (o + 1) 5 (-1)) (o + 1) 6 0) (o + 1) 7 0) (o + 4) 8 0) (o + 12) 3 0) (o + 12) 4 0) (o + 12) 5 0) o 9 0) o 10 (-1)) o 11 0 3 4 = E 3 4 := by
      simp (disch := omega) only [zUp_c]
      rw [a1 3 (by omega), hE]
    rw [e3]
  · refine zCS_w ?_ ?_ (zCF_of ?_ ?_ ?_) (zCM_of ?_ ?_) (zCP_of ?_ ?_)
    · intro i h1 h2
      rw [s_init_0]
      rcases (by omega : i = 9 ∨ i = 10 ∨ i = 11 ∨ i = 12 ∨ i = 13 ∨ i = 14 ∨ i = 15) with q | q | q | q | q | q | q <;> (subst q; simp (disch := omega) only [zUp_x, zUp_s]; rfl)
    · intro j i _ _ h3
      rw [s_init_0] at h3
      exact absurd h3 (Nat.not_lt_zero _)
    · intro i h1 h2
      rw [s_init_1]
      rcases (by omega : i = 4 ∨ i = 5 ∨ i = 6 ∨ i = 7) with q | q | q | q <;> (subst q; simp (disch := omega) only [zUp_c, zUp_x, zUp_s]; rfl)
    · intro i hi
      rw [s_init_1] at hi
      exact absurd hi (Nat.not_lt_zero _)
    · intro i hi
      simp (disch := omega) only [zUp_c]
      rw [s_init_c _ _ _ (by omega), a2 i, if_pos (by omega)]
    · rw [s_init_c _ _ _ (by omega)]
      simp (disch := omega) only [zUp_c, zUp_s]
    · intro j i _ _ hi
      rw [s_init_c _ _ _ (by omega)] at hi
      exact absurd hi (Nat.not_lt_zero _)
    · intro i h1 h2
      rw [s_init_c _ _ _ (by omega)]
      rcases (by omega : i = 3 ∨ i = 4 ∨ i = 5) with q | q | q <;> (subst q; simp (disch := omega) only [zUp_c, zUp_x, zUp_s])
    · intro j i _ _ hi
      rw [s_init_c _ _ _ (by omega)] at hi
      exact absurd hi (Nat.not_lt_zero _)
  · intro c hc
    simp (disch := omega) only [zUp_off]
    exact a1 c (by omega)
/-! the reference begins -/
theorem g_bg1 : ∀ k i N M, i + k = 24 → k < N → ∃ M', f_X10_begin_L2 N (nI i) M = f_X10_begin_L30 zFu 0 M' ∧ (∀ c, c ≠ 108 → c ≠ 110 → M' c = M c) ∧ (∀ j, M' 108 j = if i ≤ j ∧ j < 24 then 0 else M 108 j) ∧ (∀ j, M' 110 j = if i ≤ j ∧ j < 24 then 0 else M 110 j) := by
  intro k
  induction k with
  | zero =>
    intro i N M hi hN
    obtain ⟨N, rfl⟩ : ∃ N', N = N' + 1 := ⟨N - 1, by omega⟩
    refine ⟨M, ?_, fun _ _ _ => rfl, fun j => by rw [if_neg (by omega)], fun j => by rw [if_neg (by omega)]⟩
    rw [f_X10_begin_L2, if_pos (show (24 : Int32) ≤ nI i from nI_le (a := 24) (by omega) (by omega))]
  | succ k ih =>
    intro i N M hi hN
    obtain ⟨N, rfl⟩ : ∃ N', N = N' + 1 := ⟨N - 1, by omega⟩
    obtain ⟨M', e, a1, a2, a3⟩ := ih (i + 1) N (zUp (zUp M 108 i 0) 110 i 0) (by omega) (by omega)
    refine ⟨M', ?_, fun c h1 h2 => (a1 c h1 h2).trans ((zUp_off h2).trans (zUp_off h1)), fun j => ?_, fun j => ?_⟩
    · rw [f_X10_begin_L2, if_neg (show ¬ (24 : Int32) ≤ nI i from nI_ge (b := 24) (by omega) (by omega)), zCk_t (zIn_n (by omega) (by omega)), zLt_eq, zCk_t (zIn_n (by omega) (by omega)), zLt_eq, zIx_n (by omega), nI_1]
      exact e
    · rw [a2 j, zUp_c (by omega)]
      by_cases q : j = i
      · subst q
        rw [if_neg (by omega), zUp_s, if_pos (by omega)]
      · rw [zUp_x q]
        by_cases q2 : i + 1 ≤ j ∧ j < 24
        · rw [if_pos q2, if_pos (by omega)]
        · rw [if_neg q2, if_neg (by omega)]
    · rw [a3 j]
      by_cases q : j = i
      · subst q
        rw [if_neg (by omega), zUp_s, if_pos (by omega)]
      · rw [zUp_x q, zUp_c (by omega)]
        by_cases q2 : i + 1 ≤ j ∧ j < 24
        · rw [if_pos q2, if_pos (by omega)]
        · rw [if_neg q2, if_neg (by omega)]
theorem g_bg2 {sd : Nat} (hsd : sd < 2) : ∀ k i N M, i + k = 300 → k < N → M 74 25 = nI sd → ∃ M', f_X10_begin_L30 N (nI i) M = f_X10_begin_B62 M' ∧ (∀ c, c ≠ 118 → c ≠ 106 + sd → M' c = M c) ∧ (∀ j, M' 118 j = if i ≤ j ∧ j < 300 then 0 else M 118 j) ∧ (∀ j, M' (106 + sd) j = if i ≤ j ∧ j < 300 then 0 else M (106 + sd) j) := by
  intro k
  induction k with
  | zero =>
    intro i N M hi hN h25
    obtain ⟨N, rfl⟩ : ∃ N', N = N' + 1 := ⟨N - 1, by omega⟩
    refine ⟨M, ?_, fun _ _ _ => rfl, fun j => by rw [if_neg (by omega)], fun j => by rw [if_neg (by omega)]⟩
    rw [f_X10_begin_L30, if_pos (show (300 : Int32) ≤ nI i from nI_le (a := 300) (by omega) (by omega))]
  | succ k ih =>
    intro i N M hi hN h25
    obtain ⟨N, rfl⟩ : ∃ N', N = N' + 1 := ⟨N - 1, by omega⟩
    obtain ⟨M', e, a1, a2, a3⟩ := ih (i + 1) N (zUp (zUp M 118 i 0) (106 + sd) i 0) (by omega) (by omega) (by rw [zUp_c (by omega), zUp_c (by omega), h25])
    refine ⟨M', ?_, fun c h1 h2 => (a1 c h1 h2).trans ((zUp_off h2).trans (zUp_off h1)), fun j => ?_, fun j => ?_⟩
    · have c25 : zUp M 118 i 0 74 25 = nI sd := by rw [zUp_c (by omega), h25]
      rw [f_X10_begin_L30, if_neg (show ¬ (300 : Int32) ≤ nI i from nI_ge (b := 300) (by omega) (by omega)), zCk_t (zIn_n (by omega) (by omega)), zLt_eq, zIx_n (by omega), c25, zCk_t (zIn_n hsd (by omega)), zCk_t (zIn_n (by omega) (by omega)), zLt_eq, zIx_n (by omega), nI_1]
      exact e
    · rw [a2 j, zUp_c (by omega)]
      by_cases q : j = i
      · subst q
        rw [if_neg (by omega), zUp_s, if_pos (by omega)]
      · rw [zUp_x q]
        by_cases q2 : i + 1 ≤ j ∧ j < 300
        · rw [if_pos q2, if_pos (by omega)]
        · rw [if_neg q2, if_neg (by omega)]
    · rw [a3 j]
      by_cases q : j = i
      · subst q
        rw [if_neg (by omega), zUp_s, if_pos (by omega)]
      · rw [zUp_x q, zUp_c (by omega)]
        by_cases q2 : i + 1 ≤ j ∧ j < 300
        · rw [if_pos q2, if_pos (by omega)]
        · rw [if_neg q2, if_neg (by omega)]
theorem g_begin {E M : zMem} {sd : Nat} (hsd : sd < 2) (h25 : M 74 25 = nI sd) (h89 : M 89 0 = E 3 4) : ∃ M', f_X10_begin M = some (0, M') ∧ zMS (s_init E) M' sd 0 0 ∧ zFm M M' := by
  obtain ⟨M1, e1, a1, a2, a3⟩ := g_bg1 24 0 zFu M (by omega) (by unfold zFu; omega)
  obtain ⟨M2, e2, b1, b2, b3⟩ := g_bg2 hsd 300 0 zFu M1 (by omega) (by unfold zFu; omega) (by rw [a1 74 (by omega) (by omega), h25])
  have c89 : M2 89 0 = E 3 4 := by rw [b1 89 (by omega) (by omega), a1 89 (by omega) (by omega), h89]
  refine ⟨zUp (zUp (zUp (zUp (zUp (zUp (zUp (zUp (zUp (zUp (zUp (zUp M2 74 31 0) 74 32 (-1)) 74 33 0) 74 34 (E 3 4)) 74 35 0) 74 36 0) 74 37 0) 74 38 0) 74 39 0) 74 48 0) 74 49 0) 74 50 0, ?_, ⟨?_, ?_, ⟨?_, ?_⟩, ?_, ?_, ⟨?_, ?_⟩, ⟨⟨?_, ?_, ?_, ?_⟩, ?_⟩⟩, ?_⟩
  · rw [f_X10_begin]
    show f_X10_begin_L2 zFu (nI 0) M = _
    rw [e1]
    show f_X10_begin_L30 zFu (nI 0) M1 = _
    rw [e2, f_X10_begin_B62]
    simp only [zLt_eq]
    rw [zUp_c (show (89 : Nat) ≠ 74 by omega), zUp_c (show (89 : Nat) ≠ 74 by omega), zUp_c (show (89 : Nat) ≠ 74 by omega), c89]
  · simp (disch := omega) only [zUp_x]
    rw [b1 74 (by omega) (by omega), a1 74 (by omega) (by omega), h25]
  · unfold zM1
    simp (disch := omega) only [zUp_x, zUp_s]
    rw [s_init_1, s_init_1, s_init_1, s_init_1, s_init_0, s_init_0, s_init_0, s_init_0, s_init_c _ _ _ (by omega)]
    exact ⟨rfl, rfl, rfl, rfl, rfl, rfl, rfl, rfl, rfl⟩
  · intro i hi
    rw [s_init_1] at hi
    exact absurd hi (Nat.not_lt_zero _)
  · intro i hi
    simp (disch := omega) only [zUp_c]
    rw [s_init_c _ _ _ (by omega), b1 110 (by omega) (by omega), a3 i, if_pos (by omega)]
  · intro i hi
    simp (disch := omega) only [zUp_c]
    rw [b1 108 (by omega) (by omega), a2 i, if_pos (by omega), s_init_0, yB_f]
    show ¬ bt 0 i = true
    rw [b_0]
    decide
  · intro i hi
    rw [s_init_c _ _ _ (by omega)] at hi
    exact absurd hi (Nat.not_lt_zero _)
  · intro i hi
    omega
  · intro i hi
    simp (disch := omega) only [zUp_c]
    have hcond : 0 ≤ i ∧ i < 300 := by omega
    rw [b2 i, b3 i, if_pos hcond, if_neg (show ¬ i < 0 by omega), if_neg (show ¬ i < 0 by omega)]
    exact ⟨rfl, if_pos hcond⟩
  · simp (disch := omega) only [zUp_x, zUp_s]
    rw [s_init_c _ _ _ (by omega)]
  · simp (disch := omega) only [zUp_x, zUp_s]
    rw [s_pl_nil]
    rfl
  · rw [zUp_s, s_init_c _ _ _ (by omega)]
  · intro i hi
    rw [s_pl_nil] at hi
    exact absurd hi (Nat.not_lt_zero _)
  · intro n hn
    omega
  · refine zFm_u (zFm_u (zFm_u (zFm_u (zFm_u (zFm_u (zFm_u (zFm_u (zFm_u (zFm_u (zFm_u (zFm_u ⟨fun c hc => ?_, fun i hi => ?_⟩ (by omega)) (by omega)) (by omega)) (by omega)) (by omega)) (by omega)) (by omega)) (by omega)) (by omega)) (by omega)) (by omega)) (by omega)
    · rw [b1 c (by omega) (by omega), a1 c (by omega) (by omega)]
    · rw [b1 74 (by omega) (by omega), a1 74 (by omega) (by omega)]
