/-! what the steps take from the rules is the same where the rules are the same -/
def zSm (E E' : zMem) : Prop := E' 3 = E 3 ∧ E' 4 = E 4 ∧ E' 5 = E 5 ∧ E' 6 = E 6 ∧ E' 7 = E 7 ∧ E' 14 = E 14
theorem s_rule_c {E E' : zMem} (h : zSm E E') (S : zMem) (w m d a b : Int32) : s_rule E' S w m d a b = s_rule E S w m d a b := by
  obtain ⟨h3, h4, h5, h6, h7, h14⟩ := h
  unfold s_rule s_ord s_mv s_dec
  rw [h3, h4, h5]
theorem s_step_c {E E' : zMem} (h : zSm E E') (S : zMem) (k : Nat) (w m d a b r : Int32) : s_step E' S k w m d a b r = s_step E S k w m d a b r := by
  obtain ⟨h3, h4, h5, h6, h7, h14⟩ := h
  unfold s_step s_do s_call s_nx s_spk s_push s_decide s_votes s_carr
  rw [h3, h5, h6, h7, h14]
theorem s_st_c {E E' : zMem} (h : zSm E E') (S : zMem) {k : Nat} (hl : ∀ c, 16 ≤ c → c ≤ 20 → E' c k = E c k) : s_st E' S k = s_st E S k := by
  unfold s_st
  rw [hl 16 (by omega) (by omega), hl 17 (by omega) (by omega), hl 18 (by omega) (by omega), hl 19 (by omega) (by omega), hl 20 (by omega) (by omega), s_rule_c h, s_step_c h]
theorem s_run_c {E E' : zMem} (h : zSm E E') : ∀ n, (∀ c i, 16 ≤ c → c ≤ 20 → i < n → E' c i = E c i) → s_run E' n = s_run E n
  | 0, _ => by
    show s_init E' = s_init E
    unfold s_init
    rw [h.1]
  | n + 1, hl => by
    rw [s_run_s, s_run_s, s_run_c h n (fun c i a b hi => hl c i a b (by omega)), s_st_c h _ (fun c a b => hl c n a b (by omega))]
theorem zWA_c {E E' S : zMem} {k nq nm e : Nat} (h : zSm E E') (hl : ∀ i, i < k → E' 16 i = E 16 i) (hW : zWA E S k nq nm e) : zWA E' S k nq nm e := by
  obtain ⟨⟨hF, ⟨hm, hm8, hmo⟩, hO, h9⟩, hP, hR, hrest⟩ := hW
  refine ⟨⟨hF, ⟨hm, hm8, fun i hi => by rw [h.2.1]; exact hmo i hi⟩, hO, h9⟩, hP, ?_, hrest⟩
  rcases hR with ⟨d1, d2⟩ | ⟨j, d1, d2, d3, d4⟩
  · exact Or.inl ⟨d1, fun i hi => by rw [hl i hi]; exact d2 i hi⟩
  · exact Or.inr ⟨j, d1, d2, by rw [hl j d1]; exact d3, fun i hi1 hi2 => by rw [hl i hi2]; exact d4 i hi1 hi2⟩
/-- both logs hold the acts of E -/
def zLM (E M : zMem) (n : Nat) : Prop := ∀ i, i < n → M 94 i = E 16 i ∧ M 95 i = E 17 i ∧ M 96 i = E 18 i ∧ M 97 i = E 19 i ∧ M 98 i = E 20 i ∧ zIn (E 16 i) 10
theorem zLM_fm {E M M' : zMem} {n : Nat} (h : zLM E M n) (hf : ∀ c, 94 ≤ c → c ≤ 98 → M' c = M c) : zLM E M' n := by
  intro i hi
  rw [hf 94 (by omega) (by omega), hf 95 (by omega) (by omega), hf 96 (by omega) (by omega), hf 97 (by omega) (by omega), hf 98 (by omega) (by omega)]
  exact h i hi
/-- the reference works all acts from k on -/
theorem g_ag {E : zMem} {sd n : Nat} {u v : Int32} (hsd : sd < 2) (hn : n ≤ 300) (hWE : zWE E) : ∀ j k N S M nq nm e, k + j = n → j < N → zMv E M → zLM E M n → M 74 16 = nI n → (sd = 1 → ∀ i, k ≤ i → i < n → nI i ≠ M 74 26) → zMS S M sd k e → zWA E S k nq nm e → ∃ M' nq' nm' e', f_X10_again_L21 u v N (nI k) M = some (0, M') ∧ zMS (s_rf E j k S) M' sd n e' ∧ zWA E (s_rf E j k S) n nq' nm' e' ∧ zFm M M' := by
  intro j
  induction j with
  | zero =>
    intro k N S M nq nm e hk hN hE hL h16 hf h hW
    obtain ⟨N, rfl⟩ : ∃ N', N = N' + 1 := ⟨N - 1, by omega⟩
    obtain rfl : k = n := by omega
    refine ⟨M, nq, nm, e, ?_, h, hW, zFm_r⟩
    rw [f_X10_again_L21, h16, if_pos (nI_le (Nat.le_refl _) (by omega))]
  | succ j ih =>
    intro k N S M nq nm e hk hN hE hL h16 hf h hW
    obtain ⟨N, rfl⟩ : ∃ N', N = N' + 1 := ⟨N - 1, by omega⟩
    have hlk := hL k (by omega)
    obtain ⟨M1, nq1, nm1, e1, x1, x2, x3, x4⟩ := g_works0 hsd (by omega) hWE hE h ⟨hlk.1, hlk.2.1, hlk.2.2.1, hlk.2.2.2.1, hlk.2.2.2.2.1⟩ (fun i hi => (hL i (by omega)).1) rfl hW hlk.2.2.2.2.2 (fun y => hf y k (by omega) (by omega))
    obtain ⟨M2, nq2, nm2, e2, y1, y2, y3, y4⟩ := ih (k + 1) N (s_st E S k) M1 nq1 nm1 e1 (by omega) (by omega) (zMv_fm hE x4) (zLM_fm hL (fun c _ _ => x4.1 c (by omega))) (by rw [x4.2 16 (by omega), h16]) (fun y i hi1 hi2 => by rw [x4.2 26 (by omega)]; exact hf y i (by omega) hi2) x2 x3
    refine ⟨M2, nq2, nm2, e2, ?_, y2, y3, zFm_t x4 y4⟩
    rw [f_X10_again_L21, h16, if_neg (nI_ge (by omega) (by omega)), x1, zBd_some, nI_1]
    exact y1
/-- the reference works its session anew, as it is ruled -/
theorem g_again0 {E M : zMem} {n : Nat} (hn : n ≤ 300) (hWE : zWE E) (hE : zMv E M) (hL : zLM E M n) (h16 : M 74 16 = nI n) : ∃ M' nq nm e, f_X10_again 0 (-1) M = some (0, M') ∧ zMS (s_run E n) M' 0 n e ∧ zWA E (s_run E n) n nq nm e ∧ (∀ c, c < 74 ∨ (74 < c ∧ c < 100) ∨ (121 < c ∧ c < 141) → M' c = M c) ∧ (∀ i, i < 25 → M' 74 i = M 74 i) := by
  have hE0 : zMv E (zUp (zUp (zUp M 74 25 0) 74 26 (-1)) 74 27 0) := by
    unfold zMv
    simp (disch := omega) only [zUp_off]
    exact hE
  obtain ⟨M1, e1, a1, a2⟩ := g_begin (E := E) (M := zUp (zUp (zUp M 74 25 0) 74 26 (-1)) 74 27 0) (sd := 0) (by omega) (by simp (disch := omega) only [zUp_x, zUp_s]; rfl) hE0.2.1
  obtain ⟨M2, nq, nm, e, x1, x2, x3, x4⟩ := g_ag (E := E) (sd := 0) (u := 0) (v := -1) (by omega) hn hWE n 0 zFu (s_init E) M1 0 0 0 (by omega) (by unfold zFu; omega) (zMv_fm hE0 a2) (zLM_fm hL (fun c _ _ => by rw [a2.1 c (by omega)]; simp (disch := omega) only [zUp_off])) (by rw [a2.2 16 (by omega)]; simp (disch := omega) only [zUp_x]; exact h16) (fun y => by omega) a1 (zWA_init hWE.2.1)
  refine ⟨M2, nq, nm, e, ?_, x2, x3, fun c hc => ?_, fun i hi => ?_⟩
  · rw [f_X10_again, zLt_eq, zLt_eq, zLt_eq, e1, zBd_some]
    exact x1
  · rw [x4.1 c hc, a2.1 c hc]
    simp (disch := omega) only [zUp_off]
  · rw [x4.2 i (by omega), a2.2 i (by omega)]
    simp (disch := omega) only [zUp_x]
/-- the session that is worked with one ruling the other one -/
noncomputable def s_ot (E S : zMem) (k : Nat) : zMem := s_step E S k (E 16 k) (E 17 k) (E 18 k) (E 19 k) (E 20 k) (if s_rule E S (E 16 k) (E 17 k) (E 18 k) (E 19 k) (E 20 k) = 0 then 6 else 0)
def s_can (E S : zMem) (k : Nat) : Prop := s_oth E S (E 16 k) (E 18 k) (s_rule E S (E 16 k) (E 17 k) (E 18 k) (E 19 k) (E 20 k))
noncomputable def s_bes (E : zMem) (F n : Nat) : zMem := s_rf E (n - F - 1) (F + 1) (s_ot E (s_run E F) F)
/-- the reference's work anew with act F's other ruling -/
theorem g_again1 {E M : zMem} {n F : Nat} (hn : n ≤ 300) (hF : F < n) (hWE : zWE E) (hE : zMv E M) (hL : zLM E M n) (h16 : M 74 16 = nI n) : ∃ M', f_X10_again 1 (nI F) M = some (0, M') ∧ (∀ c, c < 74 ∨ (74 < c ∧ c < 100) ∨ (121 < c ∧ c < 141) → M' c = M c) ∧ (∀ i, i < 25 → M' 74 i = M 74 i) ∧ (s_can E (s_run E F) F → M' 74 27 = 0 ∧ ∃ nq nm e, zMS (s_bes E F n) M' 1 n e ∧ zWA E (s_bes E F n) n nq nm e) ∧ (¬ s_can E (s_run E F) F → M' 74 27 = 1) := by
  have hE0 : zMv E (zUp (zUp (zUp M 74 25 1) 74 26 (nI F)) 74 27 0) := by
    unfold zMv
    simp (disch := omega) only [zUp_off]
    exact hE
  obtain ⟨M1, e1, a1, a2⟩ := g_begin (E := E) (M := zUp (zUp (zUp M 74 25 1) 74 26 (nI F)) 74 27 0) (sd := 1) (by omega) (by simp (disch := omega) only [zUp_x, zUp_s]; rfl) hE0.2.1
  have c26 : M1 74 26 = nI F := by
    rw [a2.2 26 (by omega)]
    simp (disch := omega) only [zUp_x, zUp_s]
  have c27 : M1 74 27 = 0 := by rw [a2.2 27 (by omega), zUp_s]
  have c16 : M1 74 16 = nI n := by
    rw [a2.2 16 (by omega)]
    simp (disch := omega) only [zUp_x]
    exact h16
  have hL1 : zLM E M1 n := zLM_fm hL (fun c _ _ => by rw [a2.1 c (by omega)]; simp (disch := omega) only [zUp_off])
  -- up to F as it is ruled
  have hpre : ∀ j k N S M nq nm e, k + j = F → n < N + k → zMv E M → zLM E M n → M 74 16 = nI n → M 74 26 = nI F → zMS S M 1 k e → zWA E S k nq nm e → ∃ M' nq' nm' e' N', n < N' + F ∧ f_X10_again_L21 1 (nI F) N (nI k) M = f_X10_again_L21 1 (nI F) N' (nI F) M' ∧ zMS (s_rf E j k S) M' 1 F e' ∧ zWA E (s_rf E j k S) F nq' nm' e' ∧ zFm M M' := by
    intro j
    induction j with
    | zero =>
      intro k N S M nq nm e hk hN hE hL h16 h26 h hW
      obtain rfl : k = F := by omega
      exact ⟨M, nq, nm, e, N, hN, rfl, h, hW, zFm_r⟩
    | succ j ih =>
      intro k N S M nq nm e hk hN hE hL h16 h26 h hW
      obtain ⟨N, rfl⟩ : ∃ N', N = N' + 1 := ⟨N - 1, by omega⟩
      have hlk := hL k (by omega)
      obtain ⟨M1, nq1, nm1, e1, x1, x2, x3, x4⟩ := g_works0 (sd := 1) (by omega) (by omega) hWE hE h ⟨hlk.1, hlk.2.1, hlk.2.2.1, hlk.2.2.2.1, hlk.2.2.2.2.1⟩ (fun i hi => (hL i (by omega)).1) rfl hW hlk.2.2.2.2.2 (fun _ => by
        rw [h26, Ne, nI_eq (by omega) (by omega)]
        omega)
      obtain ⟨M2, nq2, nm2, e2, N2, y0, y1, y2, y3, y4⟩ := ih (k + 1) N (s_st E S k) M1 nq1 nm1 e1 (by omega) (by omega) (zMv_fm hE x4) (zLM_fm hL (fun c _ _ => x4.1 c (by omega))) (by rw [x4.2 16 (by omega), h16]) (by rw [x4.2 26 (by omega), h26]) x2 x3
      refine ⟨M2, nq2, nm2, e2, N2, y0, ?_, y2, y3, zFm_t x4 y4⟩
      rw [f_X10_again_L21, h16, if_neg (nI_ge (by omega) (by omega)), x1, zBd_some, nI_1]
      exact y1
  obtain ⟨M2, nq2, nm2, e2, N2, y0, y1, y2, y3, y4⟩ := hpre F 0 zFu (s_init E) M1 0 0 0 (by omega) (by unfold zFu; omega) (zMv_fm hE0 a2) hL1 c16 c26 a1 (zWA_init hWE.2.1)
  obtain ⟨N2, rfl⟩ : ∃ N', N2 = N' + 1 := ⟨N2 - 1, by omega⟩
  have hlF := (zLM_fm hL1 (fun c _ _ => y4.1 c (by omega))) F hF
  have hL2 := zLM_fm hL1 (fun c _ _ => y4.1 c (by omega) : ∀ c, 94 ≤ c → c ≤ 98 → M2 c = M1 c)
  obtain ⟨M3, nq3, nm3, e3, r, z1, z2, z3, z4, z5, z6, z7⟩ := g_works1 (by omega) hWE (zMv_fm (zMv_fm hE0 a2) y4) y2 ⟨hlF.1, hlF.2.1, hlF.2.2.1, hlF.2.2.2.1, hlF.2.2.2.2.1⟩ (fun i hi => (hL2 i (by omega)).1) rfl y3 hlF.2.2.2.2.2 (by rw [y4.2 26 (by omega), c26]) (by rw [y4.2 27 (by omega), c27])
  have hE3 : zMv E M3 := by
    have := zMv_fm (zMv_fm hE0 a2) y4
    unfold zMv at this ⊢
    rw [z4 78 (by omega), z4 84 (by omega), z4 87 (by omega), z4 81 (by omega), z4 89 (by omega), z4 90 (by omega), z4 91 (by omega), z4 92 (by omega), z4 93 (by omega)]
    exact this
  have hL3 : zLM E M3 n := zLM_fm hL2 (fun c _ _ => z4 c (by omega))
  obtain ⟨M4, nq4, nm4, e4, t1, t2, t3, t4⟩ := g_ag (E := E) (sd := 1) (u := 1) (v := nI F) (by omega) hn hWE (n - F - 1) (F + 1) N2 _ M3 nq3 nm3 e3 (by omega) (by omega) hE3 hL3 (by rw [z5 16 (by omega), y4.2 16 (by omega), c16]) (fun _ i hi1 hi2 => by
    rw [z5 26 (by omega), y4.2 26 (by omega), c26, Ne, nI_eq (by omega) (by omega)]
    omega) z2 z3
  refine ⟨M4, ?_, fun c hc => ?_, fun i hi => ?_, fun q => ?_, fun q => ?_⟩
  · rw [f_X10_again, zLt_eq, zLt_eq, zLt_eq, e1, zBd_some]
    show f_X10_again_L21 1 (nI F) zFu (nI 0) M1 = _
    rw [y1, f_X10_again_L21, y4.2 16 (by omega), c16, if_neg (nI_ge hF (by omega)), z1, zBd_some, nI_1]
    exact t1
  · rw [t4.1 c hc, z4 c hc, y4.1 c hc, a2.1 c hc]
    simp (disch := omega) only [zUp_off]
  · rw [t4.2 i (by omega), z5 i (by omega), y4.2 i (by omega), a2.2 i (by omega)]
    simp (disch := omega) only [zUp_x]
  · have z8 := z6 q
    refine ⟨by rw [t4.2 27 (by omega)]; exact z8.1, nq4, nm4, e4, ?_, ?_⟩
    · have := t2
      rw [z8.2] at this
      exact this
    · have := t3
      rw [z8.2] at this
      exact this
  · rw [t4.2 27 (by omega)]
    exact z7 q
