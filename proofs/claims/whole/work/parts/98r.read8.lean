/-! ===== the text read to its end, both in step ===== -/
theorem t_loop {B : Nat → Int32} {t : Nat} : ∀ d p p0 i N N' P Q q0, p + d = t → d + 1 < N → d + 1 < N' → i ≤ p → yS B t p = p → yS B t p0 = p → zPs B t P p 0 → zQs B t Q p0 q0 0 → zDr P Q → ∃ P' Q' g, f_X5_readTape_L28 N (nI i) P = some (g, P') ∧ f_X10_rules_L110 N' Q = f_X10_rules_B178 Q' ∧ yFr 8 6 P P' ∧ zOr Q Q' ∧ Q' 74 5 = g ∧ ((g = 0 ∧ zDr P' Q') ∨ ∃ n, 0 < n ∧ n < 4000 ∧ g = nI n) := by
  intro d
  induction d using Nat.strongRecOn with
  | ind d ih =>
    intro p p0 i N N' P Q q0 hd hN hN' hi hp hp0 hP hQ hD
    obtain ⟨N, rfl⟩ : ∃ n, N = n + 1 := ⟨N - 1, by omega⟩
    obtain ⟨N', rfl⟩ : ∃ n, N' = n + 1 := ⟨N' - 1, by omega⟩
    have ht := hP.1.2.1
    obtain ⟨Q1, e1, a1, a2⟩ := g_end hQ
    rw [hp0] at e1 a1
    rw [f_X5_readTape_L28, f_X10_rules_L110, hQ.2.2.2.2, if_pos y_00, e1, zBd_some, hP.2.2.2, hP.2.1, hP.1.1]
    by_cases x : p = t
    · refine ⟨P, Q1, 0, ?_, by rw [yB_t x, if_neg (by decide)], yFr_r, zOr_q a2, a1.2.2.2.2, Or.inl ⟨rfl, zDr_o hD zOp_r a2⟩⟩
      rw [if_pos y_00, if_pos (nI_le (a := t) (b := p) (by omega) (by omega))]
      by_cases y : (600 : Int32) ≤ nI i
      · rw [if_pos y]
      · rw [if_neg y]
    obtain ⟨P2, Q2, e2, e3, h⟩ := c_all hp hP a1 (zDr_o hD zOp_r a2)
    rw [if_neg (show ¬ (600 : Int32) ≤ nI i from nI_ge (b := 600) (by omega) (by omega)), if_pos y_00, if_neg (nI_ge (a := p) (b := t) (by omega) (by omega)), e2, zBd_some, yB_f x, if_pos y_00, e3, zBd_some]
    obtain ⟨M, rfl⟩ : ∃ n, N = n + 1 := ⟨N - 1, by omega⟩
    obtain ⟨M', rfl⟩ : ∃ n, N' = n + 1 := ⟨N' - 1, by omega⟩
    have stopP : ∀ (P3 : zMem) (p3 n : Nat), 0 < n → n < 4000 → zPs B t P3 p3 (nI n) → ∃ P4, zBd (f_X5_skipBlanks P3) (fun _ M13 => f_X5_readTape_L28 (M + 1) (nI i + 1) M13) = some (nI n, P4) ∧ yFr 8 6 P3 P4 := by
      intro P3 p3 n n1 n2 h3
      obtain ⟨P4, e4, b1, b2⟩ := k_skip h3
      refine ⟨P4, ?_, zOp_fr b2⟩
      rw [e4, zBd_some, f_X5_readTape_L28, b1.2.2.2, if_neg (nI_ne0 n1 (by omega))]
      by_cases y : (600 : Int32) ≤ nI i + 1
      · rw [if_pos y]
      · rw [if_neg y]
    have stopQ : ∀ (Q3 : zMem) (n : Nat), 0 < n → n < 4000 → Q3 74 5 = nI n → f_X10_rules_L110 (M' + 1) Q3 = f_X10_rules_B178 Q3 := by
      intro Q3 n n1 n2 h3
      rw [f_X10_rules_L110, h3, if_neg (nI_ne0 n1 (by omega))]
    rcases h with ⟨h1, h2, n, p', n1, n2, h3, h4⟩ | ⟨h1, h2, p', q', h3, h4, h5, h6⟩
    · obtain ⟨P3, p3, f3, e4, b1, b2, b3, _⟩ := k_semi h3
      rw [b3 (nI_ne0 n1 (by omega))] at b1
      obtain ⟨P4, e5, b4⟩ := stopP P3 p3 n n1 n2 b1
      rw [e4, zBd_some, e5, h4, if_neg (nI_ne0 n1 (by omega)), stopQ Q2 n n1 n2 h4]
      exact ⟨P4, Q2, nI n, rfl, rfl, yFr_t h1 (yFr_t (zOp_fr b2) b4), zOr_t (zOr_q a2) h2, h4, Or.inr ⟨n, n1, n2, rfl⟩⟩
    · obtain ⟨P3, p3, f3, e4, b1, b2, b3, b4, b5⟩ := k_semi h4
      obtain ⟨Q3, e5, c1, c2⟩ := g_end h5
      have hs := yS_le (B := B) h4.2.2.1
      rw [e4, zBd_some, h5.2.2.2.2, if_pos y_00, e5, zBd_some]
      by_cases y : B (yS B t p') = 59
      · obtain ⟨b6, b7⟩ := b4 y
        subst b6; subst b7
        have hlt : yS B t p' < t := b1.2.2.1
        have hb := h5.1.2.2.1 _ hlt
        have ey := (yBy_e hb (v := 59) (by decide +kernel) (by decide +kernel)).mpr y
        obtain ⟨P4, e6, d1, d2⟩ := k_skip b1
        have hs2 := yS_le (B := B) b1.2.2.1
        have oQ : zOq Q2 (zUp Q3 74 3 (nI (yS B t p' + 1))) := zOq_t c2 (zOq_u (by omega))
        obtain ⟨P5, Q5, g, r1, r2, r3, r4, r5, r6⟩ := ih (t - yS B t (yS B t p' + 1)) (by omega) (yS B t (yS B t p' + 1)) (yS B t p' + 1) (i + 1) (M + 1) (M' + 1) P4 (zUp Q3 74 3 (nI (yS B t p' + 1))) _ (by omega) (by omega) (by omega) (by omega) (yS_id b1.2.2.1) rfl d1 (zQs_at c1 hlt) (zDr_o h6 (zOp_t b2 d2) oQ)
        refine ⟨P5, Q5, g, ?_, ?_, yFr_t h1 (yFr_t (zOp_fr (zOp_t b2 d2)) r3), zOr_t (zOr_t (zOr_q a2) (zOr_t h2 (zOr_q oQ))) r4, r5, r6⟩
        · rw [e6, zBd_some, nI_1]
          exact r1
        · rw [yB_f (by omega), if_pos rfl, c1.2.1, zCk_t (zIn_n (by omega) (by omega)), zIx_n (by omega), c2 75 _ (by omega), if_pos ey, f_X10_rules_B165, zLt_eq, c1.2.1, nI_1]
          exact r2
      · have b6 := b5 y rfl
        rw [zf_1 (by omega)] at b6
        subst b6
        obtain ⟨P4, e6, d1⟩ := stopP P3 p3 _ (by omega) (by omega) b1
        obtain ⟨Q4, f4, e7, g1, g2, g3, g4⟩ := g_fail 1 (nI (yS B t p')) 0 c1
        have g5 := g4 rfl
        rw [zf_1 (by omega)] at g5
        subst g5
        have e8 : f_X10_rules_B156 (fun M => f_X10_rules_L110 (M' + 1) M) Q3 = f_X10_rules_B178 (zUp Q4 74 3 (Q4 74 3 + 1)) := by
          rw [f_X10_rules_B156, c1.2.1, e7, zBd_some, f_X10_rules_B165, zLt_eq]
          exact stopQ _ (1 + 4 * yS B t p') (by omega) (by omega) (by rw [zUp_x (by omega)]; exact g1.2.2.2.2)
        refine ⟨P4, zUp Q4 74 3 (Q4 74 3 + 1), _, e6, ?_, yFr_t h1 (yFr_t (zOp_fr b2) d1), zOr_t (zOr_q a2) (zOr_t h2 (zOr_q (zOq_t c2 (zOq_t g2 (zOq_u (by omega)))))), by rw [zUp_x (by omega)]; exact g1.2.2.2.2, Or.inr ⟨_, by omega, by omega, rfl⟩⟩
        by_cases w : yS B t p' = t
        · rw [yB_t w, if_neg (by decide)]
          exact e8
        · have hb := h5.1.2.2.1 (yS B t p') (by omega)
          have ey := yBy_e hb (v := 59) (by decide +kernel) (by decide +kernel)
          rw [yB_f w, if_pos rfl, c1.2.1, zCk_t (zIn_n (by omega) (by omega)), zIx_n (by omega), c2 75 _ (by omega), if_neg (fun v => y (ey.mp v))]
          exact e8
/-! the drafts begun -/
theorem k_clear_L {o : Nat} : ∀ k i N M, i + k = 8 → k < N → ∃ M', f_X6_clear_L2 o N (nI i) M = f_X6_clear_B42 o M' ∧ (∀ c, c < o + 1 ∨ o + 4 < c → M' c = M c) ∧ (∀ j, j < 8 → (i ≤ j → M' (o + 1) j = 0 ∧ M' (o + 2) j = -1 ∧ M' (o + 3) j = 0 ∧ M' (o + 4) j = 0) ∧ (j < i → M' (o + 1) j = M (o + 1) j ∧ M' (o + 2) j = M (o + 2) j ∧ M' (o + 3) j = M (o + 3) j ∧ M' (o + 4) j = M (o + 4) j)) := by
  intro k
  induction k with
  | zero =>
    intro i N M hi hN
    obtain ⟨N, rfl⟩ : ∃ N', N = N' + 1 := ⟨N - 1, by omega⟩
    refine ⟨M, ?_, fun _ _ => rfl, fun j hj => ⟨fun x => by omega, fun _ => ⟨rfl, rfl, rfl, rfl⟩⟩⟩
    rw [f_X6_clear_L2, if_pos (show (8 : Int32) ≤ nI i from nI_le (a := 8) (by omega) (by omega))]
  | succ k ih =>
    intro i N M hi hN
    obtain ⟨N, rfl⟩ : ∃ N', N = N' + 1 := ⟨N - 1, by omega⟩
    obtain ⟨M', e, a1, a2⟩ := ih (i + 1) N (zUp (zUp (zUp (zUp M (o + 1) i 0) (o + 2) i (-1)) (o + 3) i 0) (o + 4) i 0) (by omega) (by omega)
    refine ⟨M', ?_, fun c hc => ?_, fun j hj => ⟨fun x => ?_, fun x => ?_⟩⟩
    · rw [f_X6_clear_L2, if_neg (show ¬ (8 : Int32) ≤ nI i from nI_ge (b := 8) (by omega) (by omega)), zCk_t (zIn_n (by omega) (by omega)), zLt_eq, zCk_t (zIn_n (by omega) (by omega)), zLt_eq, zCk_t (zIn_n (by omega) (by omega)), zLt_eq, zCk_t (zIn_n (by omega) (by omega)), zLt_eq, zIx_n (by omega), nI_1]
      exact e
    · rw [a1 c hc, zUp_off (by omega), zUp_off (by omega), zUp_off (by omega), zUp_off (by omega)]
    · by_cases q : j = i
      · subst q
        obtain ⟨b1, b2, b3, b4⟩ := (a2 j hj).2 (by omega)
        rw [b1, b2, b3, b4]
        simp (disch := omega) only [zUp_c, zUp_s]
        exact ⟨trivial, trivial, trivial, trivial⟩
      · exact (a2 j hj).1 (by omega)
    · obtain ⟨b1, b2, b3, b4⟩ := (a2 j hj).2 (by omega)
      rw [b1, b2, b3, b4]
      simp (disch := omega) only [zUp_c, zUp_i]
      exact ⟨trivial, trivial, trivial, trivial⟩
theorem k_clear (o : Nat) (M : zMem) : ∃ M', f_X6_clear o M = some (0, M') ∧ (∀ c, c < o ∨ o + 4 < c → M' c = M c) ∧ (∀ i, i < 4 ∨ 7 < i → M' o i = M o i) ∧ M' o 4 = 60 ∧ M' o 5 = 0 ∧ M' o 6 = 0 ∧ M' o 7 = 1 ∧ (∀ j, j < 8 → M' (o + 1) j = 0 ∧ M' (o + 2) j = -1 ∧ M' (o + 3) j = 0 ∧ M' (o + 4) j = 0) := by
  obtain ⟨M1, e1, a1, a2⟩ := k_clear_L (o := o) 8 0 zFu M (by omega) (by unfold zFu; omega)
  refine ⟨zUp (zUp (zUp (zUp M1 o 4 60) o 5 0) o 6 0) o 7 1, ?_, fun c hc => ?_, fun i hi => ?_, ?_, ?_, ?_, ?_, fun j hj => ?_⟩
  · rw [f_X6_clear]
    show f_X6_clear_L2 o zFu (nI 0) M = _
    rw [e1, f_X6_clear_B42, zLt_eq, zLt_eq, zLt_eq, zLt_eq]
  · rw [zUp_off (by omega), zUp_off (by omega), zUp_off (by omega), zUp_off (by omega), a1 c (by omega)]
  · rw [zUp_i (by omega), zUp_i (by omega), zUp_i (by omega), zUp_i (by omega), a1 o (by omega)]
  · simp (disch := omega) only [zUp_i, zUp_s]
  · simp (disch := omega) only [zUp_i, zUp_s]
  · simp (disch := omega) only [zUp_i, zUp_s]
  · exact zUp_s
  · simp (disch := omega) only [zUp_c]
    exact (a2 j hj).1 (by omega)
theorem g_r11 : ∀ k i N Q, i + k = 8 → k < N → ∃ Q', f_X10_rules_L11 N (nI i) Q = f_X10_rules_B50 Q' ∧ (∀ c, c ≠ 79 → c ≠ 85 → c ≠ 88 → Q' c = Q c) ∧ (∀ j, j < 8 → (i ≤ j → Q' 79 j = 0 ∧ Q' 85 j = 0 ∧ Q' 88 j = 0) ∧ (j < i → Q' 79 j = Q 79 j ∧ Q' 85 j = Q 85 j ∧ Q' 88 j = Q 88 j)) := by
  intro k
  induction k with
  | zero =>
    intro i N Q hi hN
    obtain ⟨N, rfl⟩ : ∃ N', N = N' + 1 := ⟨N - 1, by omega⟩
    refine ⟨Q, ?_, fun _ _ _ _ => rfl, fun j hj => ⟨fun x => by omega, fun _ => ⟨rfl, rfl, rfl⟩⟩⟩
    rw [f_X10_rules_L11, if_pos (show (8 : Int32) ≤ nI i from nI_le (a := 8) (by omega) (by omega))]
  | succ k ih =>
    intro i N Q hi hN
    obtain ⟨N, rfl⟩ : ∃ N', N = N' + 1 := ⟨N - 1, by omega⟩
    obtain ⟨Q', e, a1, a2⟩ := ih (i + 1) N (zUp (zUp (zUp Q 79 i 0) 85 i 0) 88 i 0) (by omega) (by omega)
    refine ⟨Q', ?_, fun c h1 h2 h3 => ?_, fun j hj => ⟨fun x => ?_, fun x => ?_⟩⟩
    · rw [f_X10_rules_L11, if_neg (show ¬ (8 : Int32) ≤ nI i from nI_ge (b := 8) (by omega) (by omega)), zCk_t (zIn_n (by omega) (by omega)), zLt_eq, zCk_t (zIn_n (by omega) (by omega)), zLt_eq, zCk_t (zIn_n (by omega) (by omega)), zLt_eq, zIx_n (by omega), nI_1]
      exact e
    · rw [a1 c h1 h2 h3, zUp_off h3, zUp_off h2, zUp_off h1]
    · by_cases q : j = i
      · subst q
        obtain ⟨b1, b2, b3⟩ := (a2 j hj).2 (by omega)
        rw [b1, b2, b3]
        simp (disch := omega) only [zUp_c, zUp_s]
        exact ⟨trivial, trivial, trivial⟩
      · exact (a2 j hj).1 (by omega)
    · obtain ⟨b1, b2, b3⟩ := (a2 j hj).2 (by omega)
      rw [b1, b2, b3]
      simp (disch := omega) only [zUp_c, zUp_i]
      exact ⟨trivial, trivial, trivial⟩
theorem g_r81 : ∀ k i N Q, i + k = 12 → k < N → ∃ Q', f_X10_rules_L81 N (nI i) Q = f_X10_rules_L110 zFu (zUp (zUp Q' 74 3 0) 74 5 0) ∧ (∀ c, c ≠ 76 → Q' c = Q c) ∧ (∀ j, j < 12 → (i ≤ j → Q' 76 j = 0) ∧ (j < i → Q' 76 j = Q 76 j)) := by
  intro k
  induction k with
  | zero =>
    intro i N Q hi hN
    obtain ⟨N, rfl⟩ : ∃ N', N = N' + 1 := ⟨N - 1, by omega⟩
    refine ⟨Q, ?_, fun _ _ => rfl, fun j hj => ⟨fun x => by omega, fun _ => rfl⟩⟩
    rw [f_X10_rules_L81, if_pos (show (12 : Int32) ≤ nI i from nI_le (a := 12) (by omega) (by omega)), zLt_eq, zLt_eq]
  | succ k ih =>
    intro i N Q hi hN
    obtain ⟨N, rfl⟩ : ∃ N', N = N' + 1 := ⟨N - 1, by omega⟩
    obtain ⟨Q', e, a1, a2⟩ := ih (i + 1) N (zUp Q 76 i 0) (by omega) (by omega)
    refine ⟨Q', ?_, fun c h1 => ?_, fun j hj => ⟨fun x => ?_, fun x => ?_⟩⟩
    · rw [f_X10_rules_L81, if_neg (show ¬ (12 : Int32) ≤ nI i from nI_ge (b := 12) (by omega) (by omega)), zCk_t (zIn_n (by omega) (by omega)), zLt_eq, zIx_n (by omega), nI_1]
      exact e
    · rw [a1 c h1, zUp_off h1]
    · by_cases q : j = i
      · subst q
        rw [(a2 j hj).2 (by omega), zUp_s]
      · exact (a2 j hj).1 (by omega)
    · rw [(a2 j hj).2 (by omega), zUp_i (by omega)]
