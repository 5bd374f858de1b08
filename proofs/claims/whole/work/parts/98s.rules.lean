/-! ===== the rules taken ===== -/
theorem nI_ex (x : Int32) : ∃ k, x = nI k := ⟨x.toBitVec.toNat, by
  unfold nI
  apply Int32.toBitVec_inj.mp
  simp⟩
theorem k_copyL {P0 : zMem} (hb : ∀ j, j < 8 → (P0 11 j = 0 ∨ P0 11 j = 1) ∧ (P0 12 j = 0 ∨ P0 12 j = 1)) : ∀ k i N P, i + k = 8 → k < N → (∀ c, 8 ≤ c → c ≤ 12 → P c = P0 c) → ∃ P', f_X6_copyFrom_L2 3 8 N (nI i) P = f_X6_copyFrom_B62 3 8 P' ∧ (∀ c, c < 4 ∨ 7 < c → P' c = P c) ∧ (∀ j, j < 8 → (i ≤ j → P' 4 j = P0 9 j ∧ P' 5 j = P0 10 j ∧ P' 6 j = P0 11 j ∧ P' 7 j = P0 12 j) ∧ (j < i → P' 4 j = P 4 j ∧ P' 5 j = P 5 j ∧ P' 6 j = P 6 j ∧ P' 7 j = P 7 j)) := by
  intro k
  induction k with
  | zero =>
    intro i N P hi hN h0
    obtain ⟨N, rfl⟩ : ∃ N', N = N' + 1 := ⟨N - 1, by omega⟩
    refine ⟨P, ?_, fun _ _ => rfl, fun j hj => ⟨fun x => by omega, fun _ => ⟨rfl, rfl, rfl, rfl⟩⟩⟩
    rw [f_X6_copyFrom_L2, if_pos (show (8 : Int32) ≤ nI i from nI_le (a := 8) (by omega) (by omega))]
  | succ k ih =>
    intro i N P hi hN h0
    obtain ⟨N, rfl⟩ : ∃ N', N = N' + 1 := ⟨N - 1, by omega⟩
    obtain ⟨b1, b2⟩ := hb i (by omega)
    obtain ⟨P', e, a1, a2⟩ := ih (i + 1) N (zUp (zUp (zUp (zUp P 4 i (P0 9 i)) 5 i (P0 10 i)) 6 i (P0 11 i)) 7 i (P0 12 i)) (by omega) (by omega) (fun c h1 h2 => by rw [zUp_off (by omega), zUp_off (by omega), zUp_off (by omega), zUp_off (by omega), h0 c h1 h2])
    refine ⟨P', ?_, fun c hc => ?_, fun j hj => ⟨fun x => ?_, fun x => ?_⟩⟩
    · rw [f_X6_copyFrom_L2, if_neg (show ¬ (8 : Int32) ≤ nI i from nI_ge (b := 8) (by omega) (by omega)), zCk_t (zIn_n (by omega) (by omega)), zCk_t (zIn_n (by omega) (by omega)), zLt_eq, zCk_t (zIn_n (by omega) (by omega)), zCk_t (zIn_n (by omega) (by omega)), zLt_eq, zIx_n (by omega)]
      simp only [show (3 + 1 : Nat) = 4 from rfl, show (3 + 2 : Nat) = 5 from rfl, show (3 + 3 : Nat) = 6 from rfl, show (3 + 4 : Nat) = 7 from rfl, show (8 + 1 : Nat) = 9 from rfl, show (8 + 2 : Nat) = 10 from rfl, show (8 + 3 : Nat) = 11 from rfl, show (8 + 4 : Nat) = 12 from rfl]
      have g9 : P 9 i = P0 9 i := by rw [h0 9 (by omega) (by omega)]
      have g10 : zUp P 4 i (P 9 i) 10 i = P0 10 i := by rw [zUp_c (by omega), h0 10 (by omega) (by omega)]
      have g11 : zUp (zUp P 4 i (P 9 i)) 5 i (zUp P 4 i (P 9 i) 10 i) 11 i = P0 11 i := by rw [zUp_c (by omega), zUp_c (by omega), h0 11 (by omega) (by omega)]
      have g12 : zUp (zUp (zUp P 4 i (P0 9 i)) 5 i (P0 10 i)) 6 i (P0 11 i) 12 i = P0 12 i := by rw [zUp_c (by omega), zUp_c (by omega), zUp_c (by omega), h0 12 (by omega) (by omega)]
      rw [g11, g10, g9, zCk_t (zIn_n (by omega) (by omega)), zCk_t (zIn_n (by omega) (by omega)), zCk_t b1, zLt_eq, zCk_t (zIn_n (by omega) (by omega)), zCk_t (zIn_n (by omega) (by omega)), g12, zCk_t b2, zLt_eq, nI_1]
      exact e
    · rw [a1 c hc, zUp_off (by omega), zUp_off (by omega), zUp_off (by omega), zUp_off (by omega)]
    · by_cases q : j = i
      · subst q
        obtain ⟨c1, c2, c3, c4⟩ := (a2 j hj).2 (by omega)
        rw [c1, c2, c3, c4]
        simp (disch := omega) only [zUp_c, zUp_s]
        exact ⟨trivial, trivial, trivial, trivial⟩
      · exact (a2 j hj).1 (by omega)
    · obtain ⟨c1, c2, c3, c4⟩ := (a2 j hj).2 (by omega)
      rw [c1, c2, c3, c4]
      simp (disch := omega) only [zUp_c, zUp_i]
      exact ⟨trivial, trivial, trivial, trivial⟩
theorem k_copy {P : zMem} (hb : ∀ j, j < 8 → (P 11 j = 0 ∨ P 11 j = 1) ∧ (P 12 j = 0 ∨ P 12 j = 1)) (h6 : P 8 6 = 0 ∨ P 8 6 = 1) (h7 : P 8 7 = 0 ∨ P 8 7 = 1) : ∃ P', f_X6_copyFrom 3 8 P = some (0, P') ∧ (∀ c, c < 3 ∨ 7 < c → P' c = P c) ∧ (∀ j, j < 8 → P' 4 j = P 9 j ∧ P' 5 j = P 10 j ∧ P' 6 j = P 11 j ∧ P' 7 j = P 12 j) ∧ P' 3 4 = P 8 4 ∧ P' 3 5 = P 8 5 ∧ P' 3 6 = P 8 6 ∧ P' 3 7 = P 8 7 := by
  obtain ⟨P1, e1, a1, a2⟩ := k_copyL hb 8 0 zFu P (by omega) (by unfold zFu; omega) (fun _ _ _ => rfl)
  have g8 : P1 8 = P 8 := a1 8 (by omega)
  refine ⟨zUp (zUp (zUp (zUp P1 3 4 (P 8 4)) 3 5 (P 8 5)) 3 6 (P 8 6)) 3 7 (P 8 7), ?_, fun c hc => ?_, fun j hj => ?_, ?_, ?_, ?_, ?_⟩
  · rw [f_X6_copyFrom]
    show f_X6_copyFrom_L2 3 8 zFu (nI 0) P = _
    rw [e1, f_X6_copyFrom_B62]
    simp (disch := omega) only [zLt_eq, zUp_c, g8]
    rw [zCk_t h6, zCk_t h7]
  · rw [zUp_off (by omega), zUp_off (by omega), zUp_off (by omega), zUp_off (by omega), a1 c (by omega)]
  · simp (disch := omega) only [zUp_c]
    exact (a2 j hj).1 (by omega)
  · simp (disch := omega) only [zUp_i, zUp_s]
  · simp (disch := omega) only [zUp_i, zUp_s]
  · simp (disch := omega) only [zUp_i, zUp_s]
  · exact zUp_s
theorem g_copyL {Q0 : zMem} (hb : ∀ j, j < 8 → (Q0 85 j = 0 ∨ Q0 85 j = 1) ∧ (Q0 88 j = 0 ∨ Q0 88 j = 1)) : ∀ k i N Q, i + k = 8 → k < N → (∀ c, c = 79 ∨ c = 82 ∨ c = 85 ∨ c = 88 → Q c = Q0 c) → ∃ Q', f_X10_rules_L197 N (nI i) Q = f_X10_rules_B273 Q' ∧ (∀ c, c ≠ 78 → c ≠ 81 → c ≠ 84 → c ≠ 87 → Q' c = Q c) ∧ (∀ j, j < 8 → (i ≤ j → Q' 78 j = Q0 79 j ∧ Q' 81 j = Q0 82 j ∧ Q' 84 j = Q0 85 j ∧ Q' 87 j = Q0 88 j) ∧ (j < i → Q' 78 j = Q 78 j ∧ Q' 81 j = Q 81 j ∧ Q' 84 j = Q 84 j ∧ Q' 87 j = Q 87 j)) := by
  intro k
  induction k with
  | zero =>
    intro i N Q hi hN h0
    obtain ⟨N, rfl⟩ : ∃ N', N = N' + 1 := ⟨N - 1, by omega⟩
    refine ⟨Q, ?_, fun _ _ _ _ _ => rfl, fun j hj => ⟨fun x => by omega, fun _ => ⟨rfl, rfl, rfl, rfl⟩⟩⟩
    rw [f_X10_rules_L197, if_pos (show (8 : Int32) ≤ nI i from nI_le (a := 8) (by omega) (by omega))]
  | succ k ih =>
    intro i N Q hi hN h0
    obtain ⟨N, rfl⟩ : ∃ N', N = N' + 1 := ⟨N - 1, by omega⟩
    obtain ⟨b1, b2⟩ := hb i (by omega)
    obtain ⟨Q', e, a1, a2⟩ := ih (i + 1) N (zUp (zUp (zUp (zUp Q 78 i (Q0 79 i)) 81 i (Q0 82 i)) 84 i (Q0 85 i)) 87 i (Q0 88 i)) (by omega) (by omega) (fun c h1 => by rw [zUp_off (by omega), zUp_off (by omega), zUp_off (by omega), zUp_off (by omega), h0 c h1])
    refine ⟨Q', ?_, fun c h1 h2 h3 h4 => ?_, fun j hj => ⟨fun x => ?_, fun x => ?_⟩⟩
    · have g1 : Q 79 i = Q0 79 i := by rw [h0 79 (by omega)]
      have g2 : zUp Q 78 i (Q0 79 i) 82 i = Q0 82 i := by rw [zUp_c (by omega), h0 82 (by omega)]
      have g3 : zUp (zUp Q 78 i (Q0 79 i)) 81 i (Q0 82 i) 85 i = Q0 85 i := by rw [zUp_c (by omega), zUp_c (by omega), h0 85 (by omega)]
      have g4 : zUp (zUp (zUp Q 78 i (Q0 79 i)) 81 i (Q0 82 i)) 84 i (Q0 85 i) 88 i = Q0 88 i := by rw [zUp_c (by omega), zUp_c (by omega), zUp_c (by omega), h0 88 (by omega)]
      rw [f_X10_rules_L197, if_neg (show ¬ (8 : Int32) ≤ nI i from nI_ge (b := 8) (by omega) (by omega)), zCk_t (zIn_n (by omega) (by omega)), zCk_t (zIn_n (by omega) (by omega)), zLt_eq, zIx_n (by omega), g1, zCk_t (zIn_n (by omega) (by omega)), zCk_t (zIn_n (by omega) (by omega)), zLt_eq, g2, zCk_t (zIn_n (by omega) (by omega)), zCk_t (zIn_n (by omega) (by omega)), g3, zCk_t b1, zLt_eq, zCk_t (zIn_n (by omega) (by omega)), zCk_t (zIn_n (by omega) (by omega)), g4, zCk_t b2, zLt_eq, nI_1]
      exact e
    · rw [a1 c h1 h2 h3 h4, zUp_off h4, zUp_off h3, zUp_off h2, zUp_off h1]
    · by_cases q : j = i
      · subst q
        obtain ⟨c1, c2, c3, c4⟩ := (a2 j hj).2 (by omega)
        rw [c1, c2, c3, c4]
        simp (disch := omega) only [zUp_c, zUp_s]
        exact ⟨trivial, trivial, trivial, trivial⟩
      · exact (a2 j hj).1 (by omega)
    · obtain ⟨c1, c2, c3, c4⟩ := (a2 j hj).2 (by omega)
      rw [c1, c2, c3, c4]
      simp (disch := omega) only [zUp_c, zUp_i]
      exact ⟨trivial, trivial, trivial, trivial⟩
/-- the reference's own beginning of rules -/
theorem g_rin {B : Nat → Int32} {t : Nat} {Q : zMem} (h : zTq B t Q) : ∃ Q' q, f_X10_rules_L11 zFu 0 Q = f_X10_rules_L110 zFu Q' ∧ zQs B t Q' 0 q 0 ∧ zOr Q Q' ∧ (∀ j, j < 8 → Q' 79 j = 0 ∧ Q' 85 j = 0 ∧ Q' 88 j = 0) ∧ (∀ j, j < 12 → Q' 76 j = 0) ∧ Q' 89 1 = 60 ∧ Q' 90 1 = 0 ∧ Q' 91 1 = 0 ∧ Q' 92 1 = 1 := by
  obtain ⟨Q1, e1, a1, a2⟩ := g_r11 8 0 zFu Q (by omega) (by unfold zFu; omega)
  obtain ⟨Q2, e2, b1, b2⟩ := g_r81 12 0 zFu (zUp (zUp (zUp (zUp Q1 89 1 60) 90 1 0) 91 1 0) 92 1 1) (by omega) (by unfold zFu; omega)
  obtain ⟨q, hq⟩ := nI_ex (Q 74 4)
  have h74 : ∀ i, Q2 74 i = Q 74 i := fun i => by
    rw [b1 74 (by omega), zUp_c (by omega), zUp_c (by omega), zUp_c (by omega), zUp_c (by omega), a1 74 (by omega) (by omega) (by omega)]
  have h75 : ∀ i, Q2 75 i = Q 75 i := fun i => by
    rw [b1 75 (by omega), zUp_c (by omega), zUp_c (by omega), zUp_c (by omega), zUp_c (by omega), a1 75 (by omega) (by omega) (by omega)]
  refine ⟨zUp (zUp Q2 74 3 0) 74 5 0, q, ?_, ⟨zTq_c h (fun c i hc => ?_), ?_, Nat.zero_le _, ?_, zUp_s⟩, fun c i hr => ?_, fun j hj => ?_, fun j hj => ?_, ?_, ?_, ?_, ?_⟩
  · show f_X10_rules_L11 zFu (nI 0) Q = _
    rw [e1, f_X10_rules_B50, zLt_eq, zLt_eq, zLt_eq, zLt_eq]
    exact e2
  · rcases hc with ⟨h1, h2⟩ | h1
    · subst h1; subst h2
      rw [zUp_i (by omega), zUp_i (by omega), h74]
    · subst h1
      rw [zUp_c (by omega), zUp_c (by omega), h75]
  · rw [zUp_i (by omega), zUp_s]
    rfl
  · rw [zUp_i (by omega), zUp_i (by omega), h74, hq]
  · unfold zRr at hr
    by_cases x : c = 74
    · subst x
      rw [zUp_i (by omega), zUp_i (by omega), h74]
    · rw [zUp_c x, zUp_c x, b1 c (by omega)]
      by_cases y : 89 ≤ c ∧ c ≤ 92
      · rw [zUp_x (by omega), zUp_x (by omega), zUp_x (by omega), zUp_x (by omega), a1 c (by omega) (by omega) (by omega)]
      · rw [zUp_c (by omega), zUp_c (by omega), zUp_c (by omega), zUp_c (by omega), a1 c (by omega) (by omega) (by omega)]
  · simp (disch := omega) only [zUp_c]
    rw [b1 79 (by omega), b1 85 (by omega), b1 88 (by omega)]
    simp (disch := omega) only [zUp_c]
    exact (a2 j hj).1 (by omega)
  · simp (disch := omega) only [zUp_c]
    exact (b2 j hj).1 (by omega)
  · simp (disch := omega) only [zUp_c]
    rw [b1 89 (by omega)]
    simp (disch := omega) only [zUp_c, zUp_s]
  · simp (disch := omega) only [zUp_c]
    rw [b1 90 (by omega)]
    simp (disch := omega) only [zUp_c, zUp_s]
  · simp (disch := omega) only [zUp_c]
    rw [b1 91 (by omega)]
    simp (disch := omega) only [zUp_c, zUp_s]
  · simp (disch := omega) only [zUp_c]
    rw [b1 92 (by omega)]
    simp (disch := omega) only [zUp_s]
theorem s_init_e {E E' : zMem} (h : E' 3 4 = E 3 4) : s_init E' = s_init E := by
  unfold s_init
  rw [h]
theorem q_rules : zCall f_X9_rules f_X10_rules := by
  rintro M hI
  obtain ⟨n, nq, nm, e, t, hL, hE, ⟨hC, hS, hW⟩, hT, hJ⟩ := id hI
  have ht := hT.2.2.1
  by_cases hn : 0 < n
  · have hn3 := hL.2.2.1
    refine ⟨-1, M, M, ?_, ?_, hI⟩
    · rw [f_X9_rules, hL.1, if_neg (nI_nle hn (by omega))]
    · rw [f_X10_rules, hL.2.1, if_neg (nI_nle hn (by omega))]
  have en : n = 0 := by omega
  subst en
  have hB : ∃ B : Nat → Int32, (∀ i, i < t → B i = M 2 i &&& 255) ∧ (∀ i, t ≤ i → B i = -1) := ⟨fun i => if i < t then M 2 i &&& 255 else -1, fun i hi => if_pos hi, fun i hi => if_neg (by omega)⟩
  obtain ⟨B, hB1, hB2⟩ := hB
  obtain ⟨M5, e5, c1, c2, c3, c4, c5, c6, c7⟩ := k_clear 8 (zUp (zUp (zUp M 13 2 0) 13 3 0) 13 4 0)
  have f5 : ∀ c i, c < 8 ∨ 13 < c → M5 c i = M c i := fun c i hc => by
    rw [c1 c (by omega), zUp_c (by omega), zUp_c (by omega), zUp_c (by omega)]
  have hP5 : zPs B t M5 0 0 := by
    refine ⟨⟨by rw [f5 1 1 (by omega)]; exact hT.1, ht, fun i hi => by rw [f5 2 i (by omega), hB1 i hi], hB2⟩, ?_, Nat.zero_le _, ?_⟩
    · rw [c1 13 (by omega), zUp_i (by omega), zUp_i (by omega), zUp_s]
      rfl
    · rw [c1 13 (by omega), zUp_i (by omega), zUp_s]
  obtain ⟨M7, e7, d1, d2⟩ := k_skip hP5
  have hs := yS_le (B := B) (Nat.zero_le t)
  have hTq : ∀ Q : zMem, (∀ i, Q 75 i = M 75 i) → Q 74 2 = nI t → zTq B t Q := fun Q h1 h2 => ⟨h2, ht, fun i hi => by
    obtain ⟨x1, x2, x3⟩ := hT.2.2.2 i hi
    rw [h1 i, x1, hB1 i hi]
    exact c_and x2 x3, hB2⟩
  have hDr : ∀ Q : zMem, (∀ j, j < 8 → Q 79 j = 0 ∧ Q 85 j = 0 ∧ Q 88 j = 0) → (∀ j, j < 12 → Q 76 j = 0) → Q 89 1 = 60 → Q 90 1 = 0 → Q 91 1 = 0 → Q 92 1 = 1 → zDr M7 Q := by
    intro Q h1 h2 h3 h4 h5 h6
    refine zDr_o (P := M5) ⟨fun k hk => ?_, ?_⟩ d2 zOq_r
    · obtain ⟨x1, x2, x3, x4⟩ := c7 k hk
      obtain ⟨y1, y2, y3⟩ := h1 k hk
      exact ⟨0, by omega, x1, y1, by rw [h2 (4 + k) (by omega), if_pos rfl], by rw [y2]; exact x3, Or.inl x3, by rw [y3]; exact x4, Or.inl x4, fun z => absurd rfl z, fun _ => x2⟩
    · refine ⟨0, by omega, by rw [c1 13 (by omega), zUp_s]; rfl, fun c hc => by rw [h2 c (by omega), Nat.zero_testBit, if_neg (by decide)], ?_⟩
      rw [c3, c4, c5, c6, h3, h4, h5, h6]
      exact ⟨rfl, by decide, rfl, rfl, Or.inl rfl, rfl, Or.inr rfl⟩
  obtain ⟨QA, qa, _, ga1, _, ga2, ga3, ga4, ga5, ga6, ga7⟩ := g_rin (hTq M (fun _ => rfl) hT.2.1)
  obtain ⟨P8, QB, g, e8, _, r1, _, _, r2⟩ := t_loop (t - yS B t 0) (yS B t 0) 0 0 zFu zFu M7 QA qa (by omega) (by unfold zFu; omega) (by unfold zFu; omega) (by omega) (yS_id (Nat.zero_le _)) rfl d1 ga1 (hDr QA ga2 ga3 ga4 ga5 ga6 ga7)
  have eT : f_X5_readTape M = some (g, P8) := by
    rw [f_X5_readTape, zLt_eq, zLt_eq, zLt_eq, e5, zBd_some, e7, zBd_some]
    exact e8
  have f8 : ∀ c i, c < 8 ∨ 13 < c → P8 c i = M c i := fun c i hc => by
    rw [r1 c (by omega), d2 c i (by omega), f5 c i hc]
  -- the reference, on what the program left
  have ref : ∀ M1 : zMem, (∀ i, M1 75 i = M 75 i) → M1 74 2 = nI t → M1 74 16 = nI 0 → ∃ Q', f_X10_rules M1 = f_X10_rules_B178 Q' ∧ zOr M1 Q' ∧ Q' 74 5 = g ∧ (g = 0 → zDr P8 Q') := by
    intro M1 h1 h2 h3
    obtain ⟨QC, qc, eC, gc1, gc8, gc2, gc3, gc4, gc5, gc6, gc7⟩ := g_rin (hTq M1 h1 h2)
    obtain ⟨P9, QD, g2, e9, eD, _, s1, s2, s3⟩ := t_loop (t - yS B t 0) (yS B t 0) 0 0 zFu zFu M7 QC qc (by omega) (by unfold zFu; omega) (by unfold zFu; omega) (by omega) (yS_id (Nat.zero_le _)) rfl d1 gc1 (hDr QC gc2 gc3 gc4 gc5 gc6 gc7)
    rw [e8] at e9
    have e10 := Option.some.inj e9
    have eg : g = g2 := congrArg Prod.fst e10
    have eP : P8 = P9 := congrArg Prod.snd e10
    subst eg; subst eP
    refine ⟨QD, ?_, zOr_t gc8 s1, s2, fun h0 => ?_⟩
    · rw [f_X10_rules, h3, if_pos (by decide), eC]
      exact eD
    · rcases s3 with s3 | ⟨n, n1, n2, n3⟩
      · exact s3.2
      · rw [h0] at n3
        exact absurd n3.symm (nI_ne0 n1 (by omega))
  have hg0 : f_X9_rules M = zLt (zUp P8 1 1 0) (fun M3 => if g = 0 then zBd (f_X6_copyFrom 3 8 M3) (fun _ M5 => zBd (f_X7_startAnew 21 M5) (fun _ M7 => some (g, M7))) else some (g, M3)) := by
    rw [f_X9_rules, hL.1, if_pos (by decide), eT, zBd_some]
  rcases r2 with ⟨g0, hD⟩ | ⟨n, n1, n2, gn⟩
  · subst g0
    have hbk : ∀ j, j < 8 → (zUp P8 1 1 0 11 j = 0 ∨ zUp P8 1 1 0 11 j = 1) ∧ (zUp P8 1 1 0 12 j = 0 ∨ zUp P8 1 1 0 12 j = 1) := fun j hj => by
      obtain ⟨a, _, _, _, _, _, x6, _, x8, _⟩ := hD.1 j hj
      rw [zUp_c (by omega), zUp_c (by omega)]
      exact ⟨x6, x8⟩
    obtain ⟨_, _, _, _, y4, y5, y6, y7, y8, y9, y10⟩ := hD.2
    obtain ⟨M9, e9, k1, k2, k3, k4, k5, k6⟩ := k_copy (P := zUp P8 1 1 0) hbk (by rw [zUp_c (by omega)]; exact y8) (by rw [zUp_c (by omega)]; exact y10)
    simp (disch := omega) only [zUp_c] at k2 k3 k4 k5 k6
    obtain ⟨M1, e10, l1, l2⟩ := k_start (o := 21) (E := M9) (M := M9) (by omega) rfl
    have f1 : ∀ c i, c = 0 ∨ c = 2 ∨ (14 ≤ c ∧ c ≤ 20) ∨ 41 ≤ c → M1 c i = M c i := fun c i hc => by
      rw [l2 c (by omega), k1 c (by omega), zUp_c (by omega), f8 c i (by omega)]
    obtain ⟨Q', eQ, o1, o2, o3⟩ := ref M1 (fun i => f1 75 i (by omega)) (by rw [f1 74 2 (by omega)]; exact hT.2.1) (by rw [f1 74 16 (by omega)]; exact hL.2.1)
    have hD' := o3 rfl
    have hbq : ∀ j, j < 8 → (zUp Q' 74 2 0 85 j = 0 ∨ zUp Q' 74 2 0 85 j = 1) ∧ (zUp Q' 74 2 0 88 j = 0 ∨ zUp Q' 74 2 0 88 j = 1) := fun j hj => by
      obtain ⟨a, _, _, _, _, x5, x6, x7, x8, _⟩ := hD'.1 j hj
      rw [zUp_c (by omega), zUp_c (by omega), ← x5, ← x7]
      exact ⟨x6, x8⟩
    obtain ⟨Q2, e11, p1, p2⟩ := g_copyL hbq 8 0 zFu (zUp Q' 74 2 0) (by omega) (by unfold zFu; omega) (fun _ _ => rfl)
    obtain ⟨_, _, _, _, v4, v5, v6, v7, v8, v9, v10⟩ := hD'.2
    have q2 : ∀ c i, c ≠ 74 → c ≠ 78 → c ≠ 81 → c ≠ 84 → c ≠ 87 → Q2 c i = Q' c i := fun c i h1 h2 h3 h4 h5 => by
      rw [p1 c h2 h3 h4 h5, zUp_c h1]
    have w3 : M1 3 = M9 3 := l2 3 (by omega)
    have a89 : Q2 89 1 = M1 3 4 := by rw [q2 89 1 (by omega) (by omega) (by omega) (by omega) (by omega), ← v4, w3, k3]
    have a90 : Q2 90 1 = M1 3 5 := by rw [q2 90 1 (by omega) (by omega) (by omega) (by omega) (by omega), ← v6, w3, k4]
    have a91 : Q2 91 1 = M1 3 6 := by rw [q2 91 1 (by omega) (by omega) (by omega) (by omega) (by omega), ← v7, w3, k5]
    have a92 : Q2 92 1 = M1 3 7 := by rw [q2 92 1 (by omega) (by omega) (by omega) (by omega) (by omega), ← v9, w3, k6]
    have m34 : M1 3 4 = P8 8 4 := by rw [w3, k3]
    have m36 : M1 3 6 = P8 8 6 := by rw [w3, k5]
    have m37 : M1 3 7 = P8 8 7 := by rw [w3, k6]
    obtain ⟨Q3, hQ3⟩ : ∃ Q3, Q3 = zUp (zUp (zUp (zUp Q2 89 0 (M1 3 4)) 90 0 (M1 3 5)) 91 0 (M1 3 6)) 92 0 (M1 3 7) := ⟨_, rfl⟩
    have q3 : ∀ c i, c < 89 ∨ 92 < c → Q3 c i = Q2 c i := fun c i hc => by
      rw [hQ3, zUp_c (by omega), zUp_c (by omega), zUp_c (by omega), zUp_c (by omega)]
    have q74 : ∀ i, i ≠ 2 → i ≠ 3 → i ≠ 4 → i ≠ 5 → Q3 74 i = M 74 i := fun i h2 h3 h4 h5 => by
      rw [q3 74 i (by omega), p1 74 (by omega) (by omega) (by omega) (by omega), zUp_i h2, o1 74 i (by unfold zRr; omega), f1 74 i (by omega)]
    have c89 : Q3 89 0 = M1 3 4 := by
      rw [hQ3]
      simp (disch := omega) only [zUp_c, zUp_s]
    have c90 : Q3 90 0 = M1 3 5 := by
      rw [hQ3]
      simp (disch := omega) only [zUp_c, zUp_s]
    have c91 : Q3 91 0 = M1 3 6 := by
      rw [hQ3]
      simp (disch := omega) only [zUp_c, zUp_s]
    have c92 : Q3 92 0 = M1 3 7 := by
      rw [hQ3]
      exact zUp_s
    obtain ⟨M2, e12, n1, n2, n3⟩ := g_begin (E := M1) (sd := 0) (M := Q3) (by omega) (by rw [q74 25 (by omega) (by omega) (by omega) (by omega)]; exact hS.1) c89
    -- cells of the last memory
    have z1 : ∀ c i, zRr c i → c ≠ 74 → c < 78 ∨ (92 < c ∧ c < 100) ∨ (121 < c ∧ c < 141) → M2 c i = M1 c i := fun c i hr h1 h2 => by
      rw [n2 c (by omega), q3 c i (by omega), q2 c i h1 (by omega) (by omega) (by omega) (by omega), o1 c i hr]
    have z2 : ∀ c i, c < 74 → M2 c i = M1 c i := fun c i hc => z1 c i (by unfold zRr; omega) (by omega) (by omega)
    have z3 : ∀ c, c < 74 → M2 c = M1 c := fun c hc => by
      funext i
      exact z2 c i hc
    have zd : ∀ j, j < 8 → ∃ a, a ≤ 99 ∧ M2 4 j = nI a ∧ M2 78 j = nI a ∧ M2 84 j = M2 6 j ∧ (M2 6 j = 0 ∨ M2 6 j = 1) ∧ M2 87 j = M2 7 j ∧ (M2 7 j = 0 ∨ M2 7 j = 1) ∧ (a ≠ 0 → ∃ w, w < 4 ∧ M2 5 j = nI w ∧ M2 81 j = nI w) ∧ (a = 0 → M2 5 j = -1) := by
      intro j hj
      obtain ⟨a, x1, x2, x3, x4, x5, x6, x7, x8, x9, x10⟩ := hD'.1 j hj
      obtain ⟨y1, y2, y3, y4⟩ := (p2 j hj).1 (by omega)
      rw [zUp_c (by omega)] at y1 y2 y3 y4
      obtain ⟨u1, u2, u3, u4⟩ := k2 j hj
      have g4 : M2 4 j = P8 9 j := by rw [z2 4 j (by omega), l2 4 (by omega), u1]
      have g5 : M2 5 j = P8 10 j := by rw [z2 5 j (by omega), l2 5 (by omega), u2]
      have g6 : M2 6 j = P8 11 j := by rw [z2 6 j (by omega), l2 6 (by omega), u3]
      have g7 : M2 7 j = P8 12 j := by rw [z2 7 j (by omega), l2 7 (by omega), u4]
      have h78 : M2 78 j = Q' 79 j := by rw [n2 78 (by omega), q3 78 j (by omega), y1]
      have h81 : M2 81 j = Q' 82 j := by rw [n2 81 (by omega), q3 81 j (by omega), y2]
      have h84 : M2 84 j = Q' 85 j := by rw [n2 84 (by omega), q3 84 j (by omega), y3]
      have h87 : M2 87 j = Q' 88 j := by rw [n2 87 (by omega), q3 87 j (by omega), y4]
      rw [g4, g5, g6, g7, h78, h81, h84, h87]
      exact ⟨a, x1, x2, x3, x5.symm, x6, x7.symm, x8, x9, x10⟩
    have g34 : M2 3 4 = M1 3 4 := z2 3 4 (by omega)
    refine ⟨0, M1, M2, ?_, ?_, ?_⟩
    · rw [hg0, zLt_eq, if_pos rfl, e9, zBd_some, e10, zBd_some]
    · have x1 : zUp Q2 89 0 (M1 3 4) 90 1 = M1 3 5 := by rw [zUp_c (by omega), a90]
      have x2 : zUp (zUp Q2 89 0 (M1 3 4)) 90 0 (M1 3 5) 91 1 = M1 3 6 := by rw [zUp_c (by omega), zUp_c (by omega), a91]
      have x3 : zUp (zUp (zUp Q2 89 0 (M1 3 4)) 90 0 (M1 3 5)) 91 0 (M1 3 6) 92 1 = M1 3 7 := by rw [zUp_c (by omega), zUp_c (by omega), zUp_c (by omega), a92]
      rw [eQ, f_X10_rules_B178, zLt_eq, zUp_i (by omega), o2, if_pos (by decide)]
      show f_X10_rules_L197 zFu (nI 0) (zUp Q' 74 2 0) = _
      rw [e11, f_X10_rules_B273, zLt_eq, a89, zLt_eq, x1, x2, zCk_t (by rw [m36]; exact y8), zLt_eq, x3, zCk_t (by rw [m37]; exact y10), zLt_eq, ← hQ3, e12, zBd_some]
    · refine ⟨0, 0, 0, 0, 0, ⟨?_, ?_, by omega, fun i hi => by omega⟩, ⟨⟨fun d hd => ?_, ?_, ?_, ?_⟩, ⟨fun k hk => ?_, ?_, ?_, ?_, ?_, fun m hm => ?_⟩, fun d hd h0 => ?_⟩, ⟨?_, ?_, ?_⟩, ⟨?_, ?_, by omega, fun i hi => by omega⟩, ⟨fun j hj => ?_, fun j m hj hm => ?_⟩⟩
      · rw [z2 15 5 (by omega), f1 15 5 (by omega)]
        exact hL.1
      · rw [n3 16 (by omega), q74 16 (by omega) (by omega) (by omega) (by omega)]
        exact hL.2.1
      · obtain ⟨a, x1, x2, x3, x4, x5, x6, x7, x8, x9⟩ := zd d hd
        refine ⟨by rw [x2]; exact nI_pos' (by omega), fun h => ?_, x5, x7⟩
        obtain ⟨w, w1, w2, w3⟩ := x8 (fun y => by
          rw [x2, y] at h
          exact absurd h (by decide))
        rw [w2]
        rcases (by omega : w = 0 ∨ w = 1 ∨ w = 2 ∨ w = 3) with y | y | y | y
        · left; rw [y]; rfl
        · right; left; rw [y]; rfl
        · right; right; left; rw [y]; rfl
        · right; right; right; rw [y]; rfl
      · rw [g34, m34]
        exact y5
      · rw [z2 3 6 (by omega), m36]
        exact y8
      · rw [z2 3 7 (by omega), m37]
        exact y10
      · obtain ⟨a, x1, x2, x3, x4, x5, x6, x7, x8, x9⟩ := zd k hk
        refine ⟨by rw [x3, x2], x4, x6, fun h => ?_⟩
        obtain ⟨w, w1, w2, w3⟩ := x8 (fun y => h (by rw [x2, y]; rfl))
        rw [w2, w3]
      · rw [n2 89 (by omega), c89, g34]
      · rw [n2 90 (by omega), c90, z2 3 5 (by omega)]
      · rw [n2 91 (by omega), c91, z2 3 6 (by omega)]
      · rw [n2 92 (by omega), c92, z2 3 7 (by omega)]
      · rw [z1 93 m (by unfold zRr; omega) (by omega) (by omega), f1 93 m (by omega), z2 14 m (by omega), f1 14 m (by omega)]
        exact hE.2.1.2.2.2.2.2 m hm
      · obtain ⟨a, x1, x2, x3, x4, x5, x6, x7, x8, x9⟩ := zd d hd
        rw [x2] at h0
        exact x9 (by
          by_cases y : a = 0
          · exact y
          · exact absurd h0 (nI_ne0 (by omega) (by omega)))
      · show zCS 21 (s_init M2) M2
        rw [s_init_e (E := M9) (by rw [g34, w3])]
        exact zCS_c l1 (fun c h1 h2 => z3 c (by omega))
      · show zMS (s_init M2) M2 0 0 0
        rw [s_init_e g34]
        exact n1
      · show zWA M2 (s_init M2) 0 0 0 0
        exact zWA_init (by rw [g34, m34]; exact y5)
      · rw [z2 1 1 (by omega), l2 1 (by omega), k1 1 (by omega), zUp_s]
        rfl
      · rw [n3 2 (by omega), q3 74 2 (by omega), p1 74 (by omega) (by omega) (by omega) (by omega), zUp_s]
        rfl
      · rw [z1 124 j (by unfold zRr; omega) (by omega) (by omega), f1 124 j (by omega), z2 65 j (by omega), f1 65 j (by omega)]
        exact hJ.1 j hj
      · rw [z1 (133 + j) m (by unfold zRr; omega) (by omega) (by omega), f1 (133 + j) m (by omega), z1 (126 + j) m (by unfold zRr; omega) (by omega) (by omega), f1 (126 + j) m (by omega), z2 (67 + j) m (by omega), f1 (67 + j) m (by omega)]
        exact hJ.2 j m hj hm
  · subst gn
    have f1 : ∀ c i, (c ≠ 1 ∨ i ≠ 1) → c < 8 ∨ 13 < c → zUp P8 1 1 0 c i = M c i := fun c i h1 h2 => by
      rw [show zUp P8 1 1 0 c i = P8 c i from if_neg (by omega), f8 c i h2]
    obtain ⟨Q', eQ, o1, o2, _⟩ := ref (zUp P8 1 1 0) (fun i => f1 75 i (by omega) (by omega)) (by rw [f1 74 2 (by omega) (by omega)]; exact hT.2.1) (by rw [f1 74 16 (by omega) (by omega)]; exact hL.2.1)
    refine ⟨nI n, zUp P8 1 1 0, zUp Q' 74 2 0, ?_, ?_, ?_⟩
    · rw [hg0, zLt_eq, if_neg (nI_ne0 n1 (by omega))]
    · rw [eQ, f_X10_rules_B178, zLt_eq, zUp_i (by omega), o2, if_neg (nI_nl n1 n2)]
    · refine zInv_c hL hE ⟨hC, hS, hW⟩ hJ (t := 0) (fun c i hk => ?_) ⟨?_, zUp_s, by omega, fun i hi => by omega⟩
      · unfold zKp at hk
        rw [show zUp Q' 74 2 0 c i = Q' c i from if_neg (by omega), o1 c i (by unfold zRr; omega), f1 c i (by omega) (by omega)]
      · rw [zUp_c (by omega), o1 1 1 (by unfold zRr; omega), zUp_s]
        rfl
