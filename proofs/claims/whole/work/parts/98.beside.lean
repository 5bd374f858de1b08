/-! beside: the session worked anew with one ruling the other one -/
def yPr (E : zMem) (n F k : Nat) (S : zMem) : Prop := ∃ M nq nm e, zMS S M 1 k e ∧ zWA E S k nq nm e ∧ zMv E M ∧ zLM E M n ∧ M 74 26 = nI F ∧ (k ≤ F → M 74 27 = 0)
theorem pr_init {E M : zMem} {n F : Nat} (hWE : zWE E) (hE : zMv E M) (hL : zLM E M n) : yPr E n F 0 (s_init E) := by
  have hE0 : zMv E (zUp (zUp (zUp M 74 25 1) 74 26 (nI F)) 74 27 0) := by
    unfold zMv
    simp (disch := omega) only [zUp_off]
    exact hE
  obtain ⟨M1, e1, a1, a2⟩ := g_begin (E := E) (M := zUp (zUp (zUp M 74 25 1) 74 26 (nI F)) 74 27 0) (sd := 1) (by omega) (by simp (disch := omega) only [zUp_x, zUp_s]; rfl) hE0.2.1
  refine ⟨M1, 0, 0, 0, a1, zWA_init hWE.2.1, zMv_fm hE0 a2, zLM_fm hL (fun c _ _ => by rw [a2.1 c (by omega)]; simp (disch := omega) only [zUp_off]), ?_, fun _ => by rw [a2.2 27 (by omega), zUp_s]⟩
  rw [a2.2 26 (by omega)]
  simp (disch := omega) only [zUp_x, zUp_s]
theorem pr_st {E S : zMem} {n F k : Nat} (hn : n ≤ 300) (hWE : zWE E) (h : yPr E n F k S) (hF : F < n) (hk : k < n) (hne : k ≠ F) : yPr E n F (k + 1) (s_st E S k) := by
  obtain ⟨M, nq, nm, e, hS, hW, hE, hL, h26, h27⟩ := h
  have hlk := hL k hk
  obtain ⟨M1, nq1, nm1, e1, x1, x2, x3, x4⟩ := g_works0 (sd := 1) (by omega) (by omega) hWE hE hS ⟨hlk.1, hlk.2.1, hlk.2.2.1, hlk.2.2.2.1, hlk.2.2.2.2.1⟩ (fun i hi => (hL i (by omega)).1) rfl hW hlk.2.2.2.2.2 (fun _ => by
    rw [h26, Ne, nI_eq (by omega) (by omega)]
    exact hne)
  exact ⟨M1, nq1, nm1, e1, x2, x3, zMv_fm hE x4, zLM_fm hL (fun c _ _ => x4.1 c (by omega)), by rw [x4.2 26 (by omega), h26], fun y => by rw [x4.2 27 (by omega)]; exact h27 (by omega)⟩
theorem pr_ot {E S : zMem} {n F : Nat} (hn : n ≤ 300) (hWE : zWE E) (h : yPr E n F F S) (hF : F < n) (hc : s_can E S F) : yPr E n F (F + 1) (s_ot E S F) := by
  obtain ⟨M, nq, nm, e, hS, hW, hE, hL, h26, h27⟩ := h
  have hlk := hL F hF
  obtain ⟨M3, nq3, nm3, e3, r, z1, z2, z3, z4, z5, z6, z7⟩ := g_works1 (by omega) hWE hE hS ⟨hlk.1, hlk.2.1, hlk.2.2.1, hlk.2.2.2.1, hlk.2.2.2.2.1⟩ (fun i hi => (hL i (by omega)).1) rfl hW hlk.2.2.2.2.2 h26 (h27 (Nat.le_refl _))
  have hr := (z6 hc).2
  rw [hr] at z2 z3
  refine ⟨M3, nq3, nm3, e3, z2, z3, ?_, zLM_fm hL (fun c _ _ => z4 c (by omega)), by rw [z5 26 (by omega), h26], fun y => by omega⟩
  unfold zMv at hE ⊢
  rw [z4 78 (by omega), z4 84 (by omega), z4 87 (by omega), z4 81 (by omega), z4 89 (by omega), z4 90 (by omega), z4 91 (by omega), z4 92 (by omega), z4 93 (by omega)]
  exact hE
theorem zEv_fr4 {E M M' : zMem} (h : zEv E M) (hf : yFr 41 20 M M') : zEv E M' := zEv_fr (o := 41) (by omega) h hf
/-- the acts behind F, by the program -/
theorem c_ag {E : zMem} {n F : Nat} {v : Int32} (hn : n ≤ 300) (hF : F < n) (hWE : zWE E) (h10 : ∀ i, i < n → zIn (E 16 i) 10) : ∀ j k N S M, k + j = n → j < N → F < k → yPr E n F k S → zCS 41 S M → zEv E M → M 15 5 = nI n → (∀ c, 16 ≤ c → c ≤ 20 → M c = E c) → ∃ M', f_X9_beside_L26 (nI F) v N (nI k) M = f_X9_beside_B66 (nI F) v M' ∧ zCS 41 (s_rf E j k S) M' ∧ yPr E n F n (s_rf E j k S) ∧ yFr 41 20 M M' := by
  intro j
  induction j with
  | zero =>
    intro k N S M hk hN hFk hp hC hE h15 hl
    obtain ⟨N, rfl⟩ : ∃ N', N = N' + 1 := ⟨N - 1, by omega⟩
    obtain rfl : k = n := by omega
    refine ⟨M, ?_, hC, hp, yFr_r⟩
    rw [f_X9_beside_L26, h15, if_pos (nI_le (Nat.le_refl _) (by omega))]
  | succ j ih =>
    intro k N S M hk hN hFk hp hC hE h15 hl
    obtain ⟨N, rfl⟩ : ∃ N', N = N' + 1 := ⟨N - 1, by omega⟩
    obtain ⟨_, nq, nm, e, _, hW, _⟩ := id hp
    obtain ⟨M1, e1, a1, a2⟩ := k_work0 (o := 41) (by omega) (by omega) hW.1 (fun y => zPf_rule hW (h10 k (by omega)) (Or.inl y)) hC hE ⟨by rw [hl 16 (by omega) (by omega)], by rw [hl 17 (by omega) (by omega)], by rw [hl 18 (by omega) (by omega)], by rw [hl 19 (by omega) (by omega)], by rw [hl 20 (by omega) (by omega)]⟩
    obtain ⟨M2, e2, b1, b2, b3⟩ := ih (k + 1) N (s_st E S k) M1 (by omega) (by omega) (by omega) (pr_st hn hWE hp hF (by omega) (by omega)) a1 (zEv_fr4 hE a2) (by rw [a2 15 (by omega), h15]) (fun c h1 h2 => by rw [a2 c (by omega), hl c h1 h2])
    refine ⟨M2, ?_, b1, b2, yFr_t a2 b3⟩
    rw [f_X9_beside_L26, h15, if_neg (nI_ge (by omega) (by omega)), if_neg (show ¬ nI k = nI F by rw [nI_eq (by omega) (by omega)]; omega), f_X9_beside_B52, e1, zBd_some, if_neg (by decide), nI_1]
    exact e2
/-- all of it, by the program -/
theorem c_beside {E : zMem} {n F : Nat} {v : Int32} (hn : n ≤ 300) (hF : F < n) (hWE : zWE E) (h10 : ∀ i, i < n → zIn (E 16 i) 10) : ∀ j k N S M, k + j = F → n < N + k → yPr E n F k S → zCS 41 S M → zEv E M → M 15 5 = nI n → (∀ c, 16 ≤ c → c ≤ 20 → M c = E c) → (s_can E (s_rf E j k S) F → ∃ M', f_X9_beside_L26 (nI F) v N (nI k) M = f_X9_beside_B66 (nI F) v M' ∧ zCS 41 (s_rf E (n - F - 1) (F + 1) (s_ot E (s_rf E j k S) F)) M' ∧ yFr 41 20 M M') ∧ (¬ s_can E (s_rf E j k S) F → ∃ M', f_X9_beside_L26 (nI F) v N (nI k) M = some (-1, M') ∧ yFr 41 20 M M') := by
  intro j
  induction j with
  | zero =>
    intro k N S M hk hN hp hC hE h15 hl
    obtain ⟨N, rfl⟩ : ∃ N', N = N' + 1 := ⟨N - 1, by omega⟩
    obtain rfl : k = F := by omega
    obtain ⟨_, nq, nm, e, _, hW, _⟩ := id hp
    have hk1 := k_work1 (o := 41) (k := k) (w := E 16 k) (m := E 17 k) (d := E 18 k) (a := E 19 k) (b := E 20 k) (by omega) (by omega) hW.1 (fun y z => zPf_rule hW (h10 k (by omega)) (by
      rcases z with z | z
      · exact Or.inl z
      · exact Or.inr ⟨z.1, Or.inr z⟩)) hC hE ⟨by rw [hl 16 (by omega) (by omega)], by rw [hl 17 (by omega) (by omega)], by rw [hl 18 (by omega) (by omega)], by rw [hl 19 (by omega) (by omega)], by rw [hl 20 (by omega) (by omega)]⟩
    have hst : f_X9_beside_L26 (nI k) v (N + 1) (nI k) M = zBd (f_X7_work 41 (nI k) 1 M) (fun r11 M12 => if r11 = 0 then some (-1, M12) else f_X9_beside_L26 (nI k) v N (nI (k + 1)) M12) := by
      rw [f_X9_beside_L26, h15, if_neg (nI_ge hF (by omega)), if_pos rfl, f_X9_beside_B52, nI_1]
    refine ⟨fun hc => ?_, fun hc => ?_⟩
    · obtain ⟨M1, e1, a1, a2⟩ := hk1.1 hc
      obtain ⟨M2, e2, b1, b2, b3⟩ := c_ag (v := v) hn hF hWE h10 (n - k - 1) (k + 1) N (s_ot E S k) M1 (by omega) (by omega) (by omega) (pr_ot hn hWE hp hF hc) a1 (zEv_fr4 hE a2) (by rw [a2 15 (by omega), h15]) (fun c h1 h2 => by rw [a2 c (by omega), hl c h1 h2])
      exact ⟨M2, by rw [hst, e1, zBd_some, if_neg (by decide)]; exact e2, b1, yFr_t a2 b3⟩
    · exact ⟨M, by rw [hst, hk1.2 hc, zBd_some, if_pos rfl], yFr_r⟩
  | succ j ih =>
    intro k N S M hk hN hp hC hE h15 hl
    obtain ⟨N, rfl⟩ : ∃ N', N = N' + 1 := ⟨N - 1, by omega⟩
    obtain ⟨_, nq, nm, e, _, hW, _⟩ := id hp
    obtain ⟨M1, e1, a1, a2⟩ := k_work0 (o := 41) (by omega) (by omega) hW.1 (fun y => zPf_rule hW (h10 k (by omega)) (Or.inl y)) hC hE ⟨by rw [hl 16 (by omega) (by omega)], by rw [hl 17 (by omega) (by omega)], by rw [hl 18 (by omega) (by omega)], by rw [hl 19 (by omega) (by omega)], by rw [hl 20 (by omega) (by omega)]⟩
    have hi := ih (k + 1) N (s_st E S k) M1 (by omega) (by omega) (pr_st hn hWE hp hF (by omega) (by omega)) a1 (zEv_fr4 hE a2) (by rw [a2 15 (by omega), h15]) (fun c h1 h2 => by rw [a2 c (by omega), hl c h1 h2])
    have hst : f_X9_beside_L26 (nI F) v (N + 1) (nI k) M = f_X9_beside_L26 (nI F) v N (nI (k + 1)) M1 := by
      rw [f_X9_beside_L26, h15, if_neg (nI_ge (by omega) (by omega)), if_neg (show ¬ nI k = nI F by rw [nI_eq (by omega) (by omega)]; omega), f_X9_beside_B52, e1, zBd_some, if_neg (by decide), nI_1]
    rw [hst]
    refine ⟨fun hc => ?_, fun hc => ?_⟩
    · obtain ⟨M2, y1, y2, y3⟩ := hi.1 hc
      exact ⟨M2, y1, y2, yFr_t a2 y3⟩
    · obtain ⟨M2, y1, y3⟩ := hi.2 hc
      exact ⟨M2, y1, yFr_t a2 y3⟩
theorem q_beside (u v : Int32) : zCall (f_X9_beside u v) (f_X10_beside u v) := by
  rintro M hI
  obtain ⟨n, nq, nm, e, t, hL, hE, ⟨hC, hS, hW⟩, hT, hJ⟩ := id hI
  have hn := hL.2.2.1
  by_cases q : zIn u n
  · obtain ⟨F, hF, eF⟩ := zIn_of q
    subst eF
    have h10 : ∀ i, i < n → zIn (M 16 i) 10 := fun i hi => (hL.2.2.2 i hi).2.2.2.2.2
    obtain ⟨M0, e0, a0, f0⟩ := k_start (o := 41) (E := M) (M := M) (by omega) rfl
    have hb := c_beside (E := M) (n := n) (F := F) (v := v) hn hF hE.1 h10 F 0 zFu (s_init M) M0 (by omega) (by unfold zFu; omega) (pr_init hE.1 hE.2.1 hL.2.2.2) a0 ⟨f0 3 (by omega), f0 4 (by omega), f0 5 (by omega), f0 6 (by omega), f0 7 (by omega), f0 14 (by omega)⟩ (by rw [f0 15 (by omega), hL.1]) (fun c _ _ => f0 c (by omega))
    have hpg : f_X9_beside (nI F) v M = f_X9_beside_L26 (nI F) v zFu (nI 0) M0 := by
      rw [f_X9_beside, if_neg (nI_pos (by omega)), hL.1, if_pos (nI_lt hF (by omega)), e0, zBd_some]
      rfl
    -- what the reference does then
    have hmod : ∀ M1, (∀ c, c < 41 ∨ 61 ≤ c → M1 c = M c) → ∃ M2 M3, f_X10_again 1 (nI F) M1 = some (0, M2) ∧ f_X10_again 0 (-1) M2 = some (0, M3) ∧ zInv M3 ∧ M2 74 16 = nI n ∧ (s_can M (s_run M F) F → M2 74 27 = 0 ∧ ∃ nq nm e, zMS (s_bes M F n) M2 1 n e ∧ zWA M (s_bes M F n) n nq nm e) ∧ (¬ s_can M (s_run M F) F → M2 74 27 = 1) := by
      intro M1 f1
      have hE1 : zMv M M1 := by
        have := hE.2.1
        unfold zMv at this ⊢
        rw [f1 78 (by omega), f1 84 (by omega), f1 87 (by omega), f1 81 (by omega), f1 89 (by omega), f1 90 (by omega), f1 91 (by omega), f1 92 (by omega), f1 93 (by omega)]
        exact this
      have hL1 : zLM M M1 n := zLM_fm hL.2.2.2 (fun c _ _ => f1 c (by omega))
      obtain ⟨M2, x1, x2, x3, x4, x5⟩ := g_again1 hn hF hE.1 hE1 hL1 (by rw [f1 74 (by omega), hL.2.1])
      have hE2 : zMv M M2 := by
        unfold zMv at hE1 ⊢
        rw [x2 78 (by omega), x2 84 (by omega), x2 87 (by omega), x2 81 (by omega), x2 89 (by omega), x2 90 (by omega), x2 91 (by omega), x2 92 (by omega), x2 93 (by omega)]
        exact hE1
      have c16 : M2 74 16 = nI n := by rw [x3 16 (by omega), f1 74 (by omega), hL.2.1]
      obtain ⟨M3, nq3, nm3, e3, y1, y2, y3, y4, y5⟩ := g_again0 hn hE.1 hE2 (zLM_fm hL1 (fun c _ _ => x2 c (by omega))) c16
      refine ⟨M2, M3, x1, y1, ?_, c16, x4, x5⟩
      have g : ∀ c, c < 41 ∨ (61 ≤ c ∧ c < 74) ∨ (74 < c ∧ c < 100) ∨ (121 < c ∧ c < 141) → M3 c = M c := fun c hc => by rw [y4 c (by omega), x2 c (by omega), f1 c (by omega)]
      have g74 : ∀ i, i < 25 → M3 74 i = M 74 i := fun i hi => by rw [y5 i hi, x3 i hi, f1 74 (by omega)]
      have hsm : zSm M M3 := ⟨g 3 (by omega), g 4 (by omega), g 5 (by omega), g 6 (by omega), g 7 (by omega), g 14 (by omega)⟩
      have hrun : s_run M3 n = s_run M n := s_run_c hsm n (fun c i h1 h2 _ => by rw [g c (by omega)])
      refine ⟨n, nq3, nm3, e3, t, ⟨by rw [g 15 (by omega)]; exact hL.1, by rw [g74 16 (by omega)]; exact hL.2.1, hn, fun i hi => ?_⟩, zIE_c hE (fun c i hc => by rw [g c (by omega)]), ⟨?_, ?_, ?_⟩, ?_, ?_⟩
      · rw [g 94 (by omega), g 95 (by omega), g 96 (by omega), g 97 (by omega), g 98 (by omega), g 16 (by omega), g 17 (by omega), g 18 (by omega), g 19 (by omega), g 20 (by omega)]
        exact hL.2.2.2 i hi
      · rw [hrun]
        exact zCS_c hC (fun c _ _ => g c (by omega))
      · rw [hrun]
        exact y2
      · rw [hrun]
        exact zWA_c hsm (fun i _ => by rw [g 16 (by omega)]) y3
      · refine ⟨by rw [g 1 (by omega)]; exact hT.1, by rw [g74 2 (by omega)]; exact hT.2.1, hT.2.2.1, fun i hi => ?_⟩
        rw [g 75 (by omega), g 2 (by omega)]
        exact hT.2.2.2 i hi
      · refine ⟨fun j hj => ?_, fun j m hj hm => ?_⟩
        · rw [g 124 (by omega), g 65 (by omega)]
          exact hJ.1 j hj
        · rw [g (133 + j) (by omega), g (126 + j) (by omega), g (67 + j) (by omega)]
          exact hJ.2 j m hj hm
    have hmid : ∀ M1 : zMem, (∀ c, c < 41 ∨ 61 ≤ c → M1 c = M c) → f_X10_beside (nI F) v M1 = zBd (f_X10_again 1 (nI F) M1) (fun _ M4 => if (M4 74 27) = 0 then zBd (f_X10_in v 0 10 M4) (fun r5 M6 => if r5 = 0 then zBd (f_X10_in v 11 (10 + (M6 74 16)) M6) (fun r7 M8 => if r7 = 0 then zBd (f_X10_in v 400 (399 + (M8 74 49)) M8) (fun r9 M10 => if r9 = 0 then f_X10_beside_B113 (nI F) v (-1) M10 else zCk (zIn (v - 400) 60) (f_X10_beside_B113 (nI F) v (M10 120 (zIx (v - 400))) M10)) else zCk (zIn (v - 11) 300) (f_X10_beside_B113 (nI F) v (M8 101 (zIx (v - 11))) M8)) else zBd (f_X10_state v M6) (fun r15 M16 => f_X10_beside_B113 (nI F) v r15 M16)) else f_X10_beside_B113 (nI F) v (-1) M4) := by
      intro M1 f1
      rw [f_X10_beside, f1 74 (by omega), hL.2.1, k_in, zBd_some, yB_t ((in_n (by omega)).mpr q), if_neg (by decide)]
    by_cases hc : s_can M (s_run M F) F
    · obtain ⟨M1, e1, a1, f1⟩ := hb.1 hc
      have g1 : ∀ c, c < 41 ∨ 61 ≤ c → M1 c = M c := fun c hcc => by rw [f1 c (by omega), f0 c (by omega)]
      obtain ⟨M2, M3, x1, x2, x3, x4, x5, x6⟩ := hmod M1 g1
      obtain ⟨c27, nqb, nmb, eb, hSb, hWb⟩ := x5 hc
      have hP := hWb.2.1
      obtain ⟨hO, h5, h40, h30, h31, hcc⟩ := id hP
      have h320 := hO.2.1
      have hxO := zO_x hO.1 hO.2.1
      have h9 := hWb.1.2.2.2
      have hgo : ∃ r, f_X9_beside_B66 (nI F) v M1 = some (r, M1) ∧ f_X10_beside (nI F) v M1 = some (r, M3) := by
        have e10 : (10 : Int32).toInt = 10 := by decide +kernel
        have e11 : (11 : Int32).toInt = 11 := by decide +kernel
        have ez : (0 : Int32).toInt = 0 := by decide +kernel
        have e4 : (400 : Int32).toInt = 400 := by decide +kernel
        have hn10 : (10 + nI n).toInt = 10 + n := by
          rw [show (10 : Int32) = nI 10 from rfl, nI_add, nI_toInt (by omega)]
          omega
        have hl39 : (399 + nI (s_pl (s_bes M F n) eb 0).length).toInt = 399 + ((s_pl (s_bes M F n) eb 0).length : Int) := by
          rw [show (399 : Int32) = nI 399 from rfl, nI_add, nI_toInt (by omega)]
          omega
        have m49 := hSb.2.2.2.2.2.2.1.2.1
        have a9 : zCS 41 (s_bes M F n) M1 := a1
        obtain ⟨r, t1, t2⟩ := tell_eq hn a9 hSb hWb x4 v
        have hmm : f_X10_beside (nI F) v M1 = if yB ((0 : Int32).toInt ≤ v.toInt ∧ v.toInt ≤ (10 : Int32).toInt) = 0 then (if yB ((11 : Int32).toInt ≤ v.toInt ∧ v.toInt ≤ (10 + nI n).toInt) = 0 then (if yB ((400 : Int32).toInt ≤ v.toInt ∧ v.toInt ≤ (399 + nI (s_pl (s_bes M F n) eb 0).length).toInt) = 0 then f_X10_beside_B113 (nI F) v (-1) M2 else zCk (zIn (v - 400) 60) (f_X10_beside_B113 (nI F) v (M2 120 (zIx (v - 400))) M2)) else zCk (zIn (v - 11) 300) (f_X10_beside_B113 (nI F) v (M2 101 (zIx (v - 11))) M2)) else f_X10_beside_B113 (nI F) v r M2 := by
          rw [hmid M1 g1, x1, zBd_some, c27, if_pos rfl, k_in, zBd_some, k_in, zBd_some, x4, k_in, zBd_some, m49, t2, zBd_some]
        have h113 : ∀ y, f_X10_beside_B113 (nI F) v y M2 = some (y, M3) := fun y => by rw [f_X10_beside_B113, x2, zBd_some]
        rw [hmm]
        simp only [h113]
        by_cases q0 : (0 : Int32).toInt ≤ v.toInt ∧ v.toInt ≤ (10 : Int32).toInt
        · refine ⟨r, ?_, ?_⟩
          · rw [f_X9_beside_B66, if_pos (show v < 400 from Int32.lt_iff_toInt_lt.mpr (by omega)), if_pos (show v < 11 from Int32.lt_iff_toInt_lt.mpr (by omega)), t1, zBd_some]
          · rw [yB_t q0, if_neg (by decide)]
        rw [yB_f q0, if_pos rfl]
        by_cases q1 : (11 : Int32).toInt ≤ v.toInt ∧ v.toInt ≤ (10 + nI n).toInt
        · have hs : (v - 11).toInt = v.toInt - 11 := by
            rw [Int32.toInt_sub, e11, Int.bmod_eq_of_le (by omega) (by omega)]
          have hz : zIn (v - 11) n := ⟨by omega, by omega⟩
          have hz3 : zIn (v - 11) 300 := ⟨hz.1, by have := hz.2; omega⟩
          have hj := zIx_lt hz
          refine ⟨s_bes M F n 16 (zIx (v - 11)), ?_, ?_⟩
          · rw [f_X9_beside_B66, if_pos (show v < 400 from Int32.lt_iff_toInt_lt.mpr (by omega)), if_neg (show ¬ v < 11 from fun y => by have := Int32.lt_iff_toInt_lt.mp y; omega), f_X7_rulingOf, k_wk a9, zBd_some, zT_t ((wk_in hn h9).mpr hz), if_neg (by decide), zCk_t hz3, zBd_some, zCS_a a9 16 (by omega) (by omega) (by rw [h9, zIx_n (by omega)]; exact hj)]
          · rw [yB_t q1, if_neg (by decide), zCk_t hz3]
            show some (M2 (100 + 1) (zIx (v - 11)), M3) = _
            rw [(hSb.2.2.2.2.2.1.1 _ hj).1]
        rw [yB_f q1, if_pos rfl]
        by_cases q2 : (400 : Int32).toInt ≤ v.toInt ∧ v.toInt ≤ (399 + nI (s_pl (s_bes M F n) eb 0).length).toInt
        · have hs : (v - 400).toInt = v.toInt - 400 := by
            rw [Int32.toInt_sub, e4, Int.bmod_eq_of_le (by omega) (by omega)]
          have hz : zIn (v - 400) (s_pl (s_bes M F n) eb 0).length := ⟨by omega, by omega⟩
          have hz6 : zIn (v - 400) 60 := ⟨hz.1, by have := hz.2; omega⟩
          have hj := zIx_lt hz
          have hmem := (s_pl_in hO).mp (zL_mem hj)
          have htx : s_txt (s_bes M F n) (nI ((s_pl (s_bes M F n) eb 0).getD (zIx (v - 400)) 0)) = s_bes M F n 14 ((s_pl (s_bes M F n) eb 0).getD (zIx (v - 400)) 0) := by
            unfold s_txt
            rw [hxO, zIx_n (by omega), if_pos ⟨zIn_n hmem.1 (by omega), hmem.2⟩]
          refine ⟨s_bes M F n 14 ((s_pl (s_bes M F n) eb 0).getD (zIx (v - 400)) 0), ?_, ?_⟩
          · rw [f_X9_beside_B66, if_neg (show ¬ v < 400 from fun y => by have := Int32.lt_iff_toInt_lt.mp y; omega), k_numberAt a9.2.2.2.1 hO, zBd_some, zAt_eq (by omega), if_pos hz, k_txt a9.2.2.2.1 hO.1 hO.2.1, zBd_some, htx]
          · rw [yB_t q2, if_neg (by decide), zCk_t hz6, (hSb.2.2.2.2.2.2.1.2.2.2 _ hj).2]
        rw [yB_f q2, if_pos rfl]
        refine ⟨-1, ?_, rfl⟩
        rw [f_X9_beside_B66]
        by_cases c4 : v < 400
        · rw [if_pos c4]
          have c4' := Int32.lt_iff_toInt_lt.mp c4
          by_cases c11 : v < 11
          · have c11' := Int32.lt_iff_toInt_lt.mp c11
            have hneg : v.toInt < 0 := by omega
            have ne : ∀ k : Nat, k < 11 → ¬ v = nI k := fun k hk y => by
              rw [y, nI_toInt (by omega)] at hneg
              omega
            rw [if_pos c11, f_X7_tell, if_neg (show ¬ v = 0 from ne 0 (by omega)), if_neg (show ¬ v = 1 from ne 1 (by omega)), if_neg (show ¬ v = 2 from ne 2 (by omega)), if_neg (show ¬ v = 3 from ne 3 (by omega)), if_neg (show ¬ v = 4 from ne 4 (by omega)), if_neg (show ¬ v = 5 from ne 5 (by omega)), if_neg (show ¬ v = 6 from ne 6 (by omega)), if_neg (show ¬ v = 7 from ne 7 (by omega)), if_neg (show ¬ v = 8 from ne 8 (by omega)), if_neg (show ¬ v = 9 from ne 9 (by omega)), if_neg (show ¬ v = 10 from ne 10 (by omega)), zBd_some]
          · have c11' := mt Int32.lt_iff_toInt_lt.mpr c11
            have hs : (v - 11).toInt = v.toInt - 11 := by
              rw [Int32.toInt_sub, e11, Int.bmod_eq_of_le (by omega) (by omega)]
            rw [if_neg c11, f_X7_rulingOf, k_wk a9, zBd_some, zT_f (fun y => by
              have := (wk_in hn h9).mp y
              have y1 := this.1
              have y2 := this.2
              exact q1 ⟨by omega, by omega⟩), if_pos rfl, zBd_some]
        · have c4' := mt Int32.lt_iff_toInt_lt.mpr c4
          have hs : (v - 400).toInt = v.toInt - 400 := by
            have := v.toInt_lt
            rw [Int32.toInt_sub, e4, Int.bmod_eq_of_le (by omega) (by omega)]
          have htx : s_txt (s_bes M F n) (-1) = -1 := by
            unfold s_txt
            rw [if_neg]
            intro y
            exact absurd y.1.1 (by decide +kernel)
          rw [if_neg c4, k_numberAt a9.2.2.2.1 hO, zBd_some, zAt_eq (by omega), if_neg (fun y => q2 ⟨by have := y.1; omega, by have := y.2; omega⟩), k_txt a9.2.2.2.1 hO.1 hO.2.1, zBd_some, htx]
      obtain ⟨r, r1, r2⟩ := hgo
      exact ⟨r, M1, M3, by rw [hpg, e1, r1], r2, x3⟩
    · obtain ⟨M1, e1, f1⟩ := hb.2 hc
      have g1 : ∀ c, c < 41 ∨ 61 ≤ c → M1 c = M c := fun c hcc => by rw [f1 c (by omega), f0 c (by omega)]
      obtain ⟨M2, M3, x1, x2, x3, x4, x5, x6⟩ := hmod M1 g1
      refine ⟨-1, M1, M3, by rw [hpg, e1], ?_, x3⟩
      rw [hmid M1 g1, x1, zBd_some, x6 hc, if_neg (by decide), f_X10_beside_B113, x2, zBd_some]
  · refine ⟨-1, M, M, ?_, ?_, hI⟩
    · rw [f_X9_beside]
      by_cases c1 : u < 0
      · rw [if_pos c1]
      · obtain ⟨j, hj, ej⟩ := nI_of c1
        subst ej
        rw [if_neg c1, hL.1, if_neg]
        intro y
        exact q (zIn_n ((nI_ltI hj (by omega)).mp y) (by omega))
    · rw [f_X10_beside, hL.2.1, k_in, zBd_some, yB_f (fun y => q ((in_n (by omega)).mp y)), if_pos rfl]
