/-! ===== a clause of the rules, both in step ===== -/
def y_R2 (x1 : Int32) (M : zMem) : zTr := zBd (f_X10_word M) (fun _ M15 => zBd (f_X10_is 35 M15) (fun r16 M17 => zCk (zIn x1 8) (zLt (zUp M17 85 (zIx x1) r16) (fun M18 => zCk (zIn x1 8) (if (M18 85 (zIx x1)) = 0 then f_X10_motion_B149 x1 M18 else zBd (f_X10_word M18) (fun _ M43 => f_X10_motion_B149 x1 M43))))))
def y_R1 (x1 : Int32) (M : zMem) : zTr := zBd (f_X10_number 1 99 M) (fun r10 M11 => zCk (zIn x1 8) (zLt (zUp M11 79 (zIx x1) r10) (fun M12 => if (M12 74 5) ≤ 0 then y_R2 x1 M12 else some (0, M12))))
theorem y_R0 (x1 : Int32) (M : zMem) : f_X10_motion_B30 x1 M = if (M 74 5) ≤ 0 then (if x1 = 8 then zBd (f_X10_fails 1 (M 74 4) M) (fun _ M4 => some (0, M4)) else zCk (zIn (4 + x1) 12) (if (M 76 (zIx (4 + x1))) = 0 then zCk (zIn (4 + x1) 12) (zLt (zUp M 76 (zIx (4 + x1)) 1) (fun M6 => zBd (f_X10_one 34 34 M6) (fun r8 M9 => y_R1 x1 M9))) else zBd (f_X10_fails 3 (M 74 4) M) (fun _ M45 => some (0, M45)))) else some (0, M) := rfl
theorem m_2 {B : Nat → Int32} {t p q0 k : Nat} {P Q : zMem} (hk : k < 8) (hP : zPs B t P p 0) (hQ : zQs B t Q p q0 0) : ∃ P' Q', y_M2 (nI k) P = some (0, P') ∧ y_R2 (nI k) Q = some (0, Q') ∧ (yFa B t P Q P' Q' ∨ ∃ p' q' w s d, p ≤ p' ∧ w < 4 ∧ (s = 0 ∨ s = 1) ∧ (d = 0 ∨ d = 1) ∧ zPs B t P' p' 0 ∧ zQs B t Q' p' q' 0 ∧ zOp (zUp (zUp (zUp P 11 k s) 12 k d) 10 k (nI w)) P' ∧ zOq (zUp (zUp (zUp Q 85 k s) 88 k d) 82 k (nI w)) Q') := by
  obtain ⟨Q1, e1, a1, a2⟩ := g_word hQ
  obtain ⟨P2, p2, s, Q2, e2, b1, b2, b3, b4, e3, b5, b6, b7⟩ := m_opt (u := 10) (v := 35) (w := 10) 85 k (by omega) (by omega) rfl rfl (by omega) hP a1
  obtain ⟨P3, p3, d, Q3, e4, c1, c2, c3, c4, e5, c5, c6, c7⟩ := m_opt (u := 11) (v := 36) (w := 11) 88 k (by omega) (by omega) rfl rfl (by omega) (zPs_u (c := 11) (i := k) (v := s) b1 (by omega) (by omega)) b6
  obtain ⟨P4, Q4, e6, e7, h⟩ := m_3 hk (zPs_u (c := 12) (i := k) (v := d) c1 (by omega) (by omega)) c6
  have oP : zOp (zUp P 11 k s) P3 := zOp_t (zOp_up b2) c2
  have oQ : zOq (zUp Q 85 k s) Q2 := zOq_t (zOq_up a2) b7
  have oQ2 : zOq (zUp (zUp Q 85 k s) 88 k d) Q3 := zOq_t (zOq_up oQ) c7
  refine ⟨P4, Q4, ?_, ?_, ?_⟩
  · rw [y_M2, e2, zBd_some, zCk_t (zIn_n hk (by omega)), zLt_eq, zIx_n (by omega), e4, zBd_some, zCk_t (zIn_n hk (by omega)), zLt_eq, e6]
  · rw [y_R2, e1, zBd_some, e3, zBd_some, zCk_t (zIn_n hk (by omega)), zLt_eq, zIx_n (by omega), zCk_t (zIn_n hk (by omega)), b5 (f_X10_motion_B149 (nI k)), f_X10_motion_B149, e5, zBd_some, zCk_t (zIn_n hk (by omega)), zLt_eq, zIx_n (by omega), zCk_t (zIn_n hk (by omega)), c5 (f_X10_motion_B178 (nI k)), e7]
  · rcases h with ⟨h1, h2, h3⟩ | ⟨p', q', w, h1, h2, h3, h4, h5, h6⟩
    · exact Or.inl ⟨yFr_t (yFr_86 (yFr_t (yFr_86 (zOp_fr b2) (by omega) (by omega)) (zOp_fr c2)) (by omega) (by omega)) h1, zOr_t (zOr_t (zOr_u (by unfold zRr; omega)) (zOr_t (zOr_u (by unfold zRr; omega)) (zOr_q oQ2))) h2, h3⟩
    · exact Or.inr ⟨p', q', w, s, d, by omega, h2, b4, c4, h3, h4, zOp_t (zOp_up (zOp_up oP)) h5, zOq_t (zOq_up oQ2) h6⟩
theorem zNf_n {B : Nat → Int32} {t q : Nat} {u1 u2 : Int32} (hq : q ≤ 600) (h : ¬ zNf B t q u1 u2 = 0) : ∃ n, 0 < n ∧ n < 4000 ∧ zNf B t q u1 u2 = nI n := by
  unfold zNf at h ⊢
  by_cases x : yG B t q = q
  · rw [if_pos x, zf_1 hq]
    exact ⟨_, by omega, by omega, rfl⟩
  rw [if_neg x] at h ⊢
  by_cases y : yG B t q - q ≤ 4 ∧ u1.toInt ≤ (zNv B q (yG B t q - q)).toInt ∧ (zNv B q (yG B t q - q)).toInt ≤ u2.toInt
  · rw [if_pos y] at h
    exact absurd rfl h
  · rw [if_neg y, zf_2 hq]
    exact ⟨_, by omega, by omega, rfl⟩
theorem m_1 {B : Nat → Int32} {t p q0 k : Nat} {P Q : zMem} (hk : k < 8) (hP : zPs B t P p 0) (hQ : zQs B t Q p q0 0) : ∃ P' Q', y_M1 (nI k) P = some (0, P') ∧ y_R1 (nI k) Q = some (0, Q') ∧ (yFa B t P Q P' Q' ∨ ∃ p' q' a w s d, p ≤ p' ∧ 1 ≤ a ∧ a ≤ 99 ∧ w < 4 ∧ (s = 0 ∨ s = 1) ∧ (d = 0 ∨ d = 1) ∧ zPs B t P' p' 0 ∧ zQs B t Q' p' q' 0 ∧ zOp (zUp (zUp (zUp (zUp P 9 k (nI a)) 11 k s) 12 k d) 10 k (nI w)) P' ∧ zOq (zUp (zUp (zUp (zUp Q 79 k (nI a)) 85 k s) 88 k d) 82 k (nI w)) Q') := by
  have ht := hP.1.2.1
  have hs := yS_le (B := B) hP.2.2.1
  have e99 : (99 : Int32).toInt = 99 := by decide +kernel
  have e01 : (1 : Int32).toInt = 1 := by decide +kernel
  obtain ⟨P1, r1, p1, f1, e1, a1, a2, a3, a4⟩ := k_num 1 99 0 hP
  obtain ⟨Q1, r2, p2, e2, b1, b2, b3⟩ := g_num 1 99 (by rw [e99]; omega) hQ
  obtain ⟨a5, a6⟩ := a4 rfl
  subst a5
  by_cases z : zNf B t (yS B t p) 1 99 = 0
  · obtain ⟨x1, x2⟩ := a6 z
    obtain ⟨y1, y2⟩ := b3 z
    have hr := zNf_r (by omega) z
    have hg := yG_le (B := B) hs.2
    rw [← x1, e01, e99] at hr
    obtain ⟨a, ha, ea⟩ := zIn_of (u := r1) (n := 100) ⟨by omega, by omega⟩
    rw [ea, nI_toInt (by omega)] at hr
    rw [z, x2] at a1
    rw [z, y2] at b1
    rw [x1.trans y1.symm] at ea e1
    subst ea
    obtain ⟨P2, Q2, e3, e4, h⟩ := m_2 hk (zPs_u (c := 9) (i := k) (v := nI a) a1 (by omega) (by omega)) (zQs_u (c := 79) (i := k) (v := nI a) b1 (by omega) (by omega))
    refine ⟨P2, Q2, ?_, ?_, ?_⟩
    · rw [y_M1, e1, zBd_some, zCk_t (zIn_n hk (by omega)), zLt_eq, zIx_n (by omega), e3]
    · rw [y_R1, e2, zBd_some, zCk_t (zIn_n hk (by omega)), zLt_eq, zIx_n (by omega), zUp_c (by omega), b1.2.2.2.2, if_pos (by decide), e4]
    · rcases h with ⟨h1, h2, h3⟩ | ⟨p', q', w, s, d, h1, h2, h3, h4, h5, h6, h7, h8⟩
      · exact Or.inl ⟨yFr_t (yFr_86 (zOp_fr a2) (by omega) (by omega)) h1, zOr_t (zOr_t (zOr_q b2) (zOr_u (by unfold zRr; omega))) h2, h3⟩
      · exact Or.inr ⟨p', q', a, w, s, d, by omega, by omega, by omega, h2, h3, h4, h5, h6, zOp_t (zOp_up (zOp_up (zOp_up (zOp_up a2)))) h7, zOq_t (zOq_up (zOq_up (zOq_up (zOq_up b2)))) h8⟩
  · obtain ⟨n, n1, n2, en⟩ := zNf_n (by omega) z
    rw [en] at a1 b1
    obtain ⟨P2, p3, e3, c1, c2⟩ := y_M2s hk (nI_ne0 (by omega) (by omega)) (zPs_u (c := 9) (i := k) (v := r1) a1 (by omega) (by omega))
    refine ⟨P2, zUp Q1 79 k r2, ?_, ?_, Or.inl ⟨yFr_t (yFr_86 (zOp_fr a2) (by omega) (by omega)) c2, zOr_t (zOr_q b2) (zOr_u (by unfold zRr; omega)), n, _, n1, n2, c1, by rw [zUp_c (by omega)]; exact b1.2.2.2.2⟩⟩
    · rw [y_M1, e1, zBd_some, zCk_t (zIn_n hk (by omega)), zLt_eq, zIx_n (by omega), e3]
    · rw [y_R1, e2, zBd_some, zCk_t (zIn_n hk (by omega)), zLt_eq, zIx_n (by omega), zUp_c (by omega), b1.2.2.2.2, if_neg (nI_nl n1 n2)]
theorem m_dr {P Q : zMem} {k a w : Nat} {s d : Int32} (h : zDr P Q) (h1 : 1 ≤ a) (h2 : a ≤ 99) (hw : w < 4) (hs : s = 0 ∨ s = 1) (hd : d = 0 ∨ d = 1) : zDr (zUp (zUp (zUp (zUp P 9 k (nI a)) 11 k s) 12 k d) 10 k (nI w)) (zUp (zUp (zUp (zUp (zUp Q 76 (4 + k) 1) 79 k (nI a)) 85 k s) 88 k d) 82 k (nI w)) := by
  refine ⟨fun j hj => ?_, ?_⟩
  · by_cases q : j = k
    · subst q
      refine ⟨a, h2, ?_, ?_, ?_, ?_, ?_, ?_, ?_, fun _ => ⟨w, hw, ?_, ?_⟩, fun x => by omega⟩
      · simp (disch := omega) only [zUp_c, zUp_s]
      · simp (disch := omega) only [zUp_c, zUp_s]
      · simp (disch := omega) only [zUp_c, zUp_s]
        rw [if_neg (by omega)]
      · simp (disch := omega) only [zUp_c, zUp_s]
      · simp (disch := omega) only [zUp_c, zUp_s]
        exact hs
      · simp (disch := omega) only [zUp_c, zUp_s]
      · simp (disch := omega) only [zUp_c, zUp_s]
        exact hd
      · exact zUp_s
      · exact zUp_s
    · have q2 : 4 + j ≠ 4 + k := by omega
      unfold zDk
      simp (disch := omega) only [zUp_c, zUp_i]
      exact h.1 j hj
  · obtain ⟨m, m1, m2, m3, m4⟩ := h.2
    refine ⟨m, m1, ?_, fun c hc => ?_, ?_⟩
    · simp (disch := omega) only [zUp_c]
      exact m2
    · simp (disch := omega) only [zUp_c, zUp_i]
      exact m3 c hc
    · simp (disch := omega) only [zUp_c]
      exact m4
/-- both go on -/
def zGo (B : Nat → Int32) (t p : Nat) (P Q P' Q' : zMem) : Prop := yFr 8 6 P P' ∧ zOr Q Q' ∧ ∃ p' q', p ≤ p' ∧ zPs B t P' p' 0 ∧ zQs B t Q' p' q' 0 ∧ zDr P' Q'
theorem m_0 {B : Nat → Int32} {t p q0 : Nat} {P Q : zMem} (hP : zPs B t P p 0) (hQ : zQs B t Q p q0 0) (hD : zDr P Q) : ∃ P' Q', f_X5_readMotion P = some (0, P') ∧ f_X10_motion Q = some (0, Q') ∧ (yFa B t P Q P' Q' ∨ zGo B t p P Q P' Q') := by
  have ht := hP.1.2.1
  have hs := yS_le (B := B) hP.2.2.1
  obtain ⟨P1, e1, a1, a2⟩ := k_skip hP
  obtain ⟨Q1, e2, b1, b2⟩ := g_word hQ
  have hid := yS_id (B := B) hP.2.2.1
  generalize yS B t p = q at hs a1 b1 hid
  obtain ⟨k, hF⟩ := zFst_ex (fun j => yWm B q (1 + j)) 8
  have hk8 := hF.1
  obtain ⟨P2, p2, e3, c1, c2, c3, c4⟩ := k_kindL hid hF k 0 zFu P1 (by omega) (by unfold zFu; omega) a1
  have hG : zFst (fun j => yWm B q (26 + j)) 8 k := zFst_i hF (fun j hj => by
    have := yWm_25 (B := B) (q := q) (1 + j) (by omega)
    rw [show 25 + (1 + j) = 26 + j by omega] at this
    exact this)
  have e4 := g_kindL hG b1.1 b1.2 k 0 zFu (by omega) (by unfold zFu; omega)
  have e5 : f_X10_motion Q = f_X10_motion_B30 (nI k) Q1 := by
    rw [f_X10_motion, e2, zBd_some]
    exact e4
  have e6 : f_X5_readKind P1 = some (if k < 8 then nI k else -1, P2) := by
    rw [f_X5_readKind]
    exact e3
  rw [e5, y_R0, y_M0, e1, zBd_some, e6, zBd_some, k_isKind, zBd_some, a1.2.1]
  by_cases x : k < 8
  · have m : yWm B q (1 + k) := hF.2.2 x
    have z := zWs_0 b1 (by omega) m
    have hl := (zw_ok (1 + k) (by omega)).2.1
    have ep := c3 x
    subst ep
    obtain ⟨a, d1, d2, d3, d4, d5, d6, d7, d8, d9, d10⟩ := hD.1 k x
    have ec : P2 9 k = nI a := by rw [c2 9 k (by omega), a2 9 k (by omega), d2]
    have eq76 : Q1 76 (4 + k) = if a = 0 then 0 else 1 := by rw [b2 76 (4 + k) (by omega), d4]
    have i4 : (4 : Int32) + nI k = nI (4 + k) := by rw [zl_4, nI_add]
    have e7 : f_X6_lets 8 (nI k) P2 = some (if a = 0 then 0 else 1, P2) := by
      rw [f_X6_lets, k_isKind, zBd_some, yB_t (zIn_n x (by omega)), if_neg (by decide), zCk_t (zIn_n x (by omega)), zIx_n (by omega)]
      show (if P2 9 k ≤ 0 then _ else _) = _
      rw [ec]
      by_cases y : a = 0
      · rw [y, if_pos (by decide), if_pos rfl]
      · rw [if_neg (nI_nl (by omega) (by omega)), if_neg y]
    rw [if_pos x, yB_t (zIn_n x (by omega)), if_neg y_10, e7, zBd_some, z.2.2.2.2, if_pos y_le, if_neg (show ¬ nI k = 8 from by rw [zl_8, nI_eq (by omega) (by omega)]; omega), i4, zCk_t (zIn_n (n := 4 + k) (N := 12) (by omega) (by omega)), zIx_n (n := 4 + k) (by omega), eq76]
    have hO := zOp_t a2 c2
    by_cases y : a = 0
    · rw [if_pos y, if_pos y_00, if_pos y_00, zCk_t (zIn_n (n := 4 + k) (N := 12) (by omega) (by omega)), zLt_eq]
      obtain ⟨P3, p3, f3, g1, g2, g3, g4, g5, g6⟩ := k_expect (u := 9) (w := 9) rfl (by omega) c1
      obtain ⟨Q3, f4, g7, g8, g9, g10, g11⟩ := g_one (u := 34) (v := 34) (a := 34) (b := 34) rfl (by omega) rfl (by omega) (zQs_u (c := 76) (i := 4 + k) (v := 1) z (by omega) (by omega))
      have hs2 := yS_le (B := B) c1.2.2.1
      have ei : yWm B (yS B t (q + zSlenN (1 + k))) 9 ↔ yWm B (yS B t (q + zSlenN (1 + k))) 34 := yWm_25 9 (by omega)
      rw [g1, zBd_some, g7, zBd_some]
      by_cases v : yWm B (yS B t (q + zSlenN (1 + k))) 9
      · obtain ⟨v1, v2⟩ := g5 v
        have v3 := g10 (Or.inl (ei.mp v))
        rw [v1, v2] at g2
        rw [v3, (yWm_E hP.1.2.2.2 (by omega) hs2.2 (ei.mp v)).1, ← show zSlenN 9 = zSlenN 34 from rfl] at g8
        obtain ⟨P4, Q4, e8, e9, h⟩ := m_1 x g2 g8
        rw [e8, e9]
        refine ⟨P4, Q4, rfl, rfl, ?_⟩
        have oP : zOp P P3 := zOp_t hO g3
        have oQ : zOq (zUp Q 76 (4 + k) 1) Q3 := zOq_t (zOq_up b2) g9
        rcases h with ⟨h1, h2, h3⟩ | ⟨p', q', a', w, s, d, h1, h2, h3, h4, h5, h6, h7, h8, h9, h10⟩
        · exact Or.inl ⟨yFr_t (zOp_fr oP) h1, zOr_t (zOr_t (zOr_u (by unfold zRr; omega)) (zOr_q oQ)) h2, h3⟩
        · have o1 : zOp _ P4 := zOp_t (zOp_up (zOp_up (zOp_up (zOp_up oP)))) h9
          have o2 : zOq _ Q4 := zOq_t (zOq_up (zOq_up (zOq_up (zOq_up oQ)))) h10
          refine Or.inr ⟨?_, ?_, p', q', by omega, h7, h8, zDr_o (m_dr (k := k) hD h2 h3 h4 h5 h6) o1 o2⟩
          · exact yFr_t (yFr_86 (yFr_86 (yFr_86 (yFr_86 yFr_r (by omega) (by omega)) (by omega) (by omega)) (by omega) (by omega)) (by omega) (by omega)) (zOp_fr o1)
          · exact zOr_t (zOr_t (zOr_t (zOr_t (zOr_t (zOr_u (by unfold zRr; omega)) (zOr_u (by unfold zRr; omega))) (zOr_u (by unfold zRr; omega))) (zOr_u (by unfold zRr; omega))) (zOr_u (by unfold zRr; omega))) (zOr_q o2)
      · have v1 := g6 v rfl
        have v2 := g11 (fun w => v (ei.mpr w)) (fun w => v (ei.mpr w))
        rw [zf_1 (by omega)] at v1 v2
        subst v1; subst v2
        obtain ⟨P4, p4, e8, l1, l2⟩ := y_M1s x (nI_ne0 (by omega) (by omega)) g2
        rw [e8]
        refine ⟨P4, zUp Q3 79 k 0, rfl, ?_, Or.inl ⟨yFr_t (zOp_fr (zOp_t hO g3)) l2, zOr_t (zOr_t (zOr_q b2) (zOr_t (zOr_u (by unfold zRr; omega)) (zOr_q g9))) (zOr_u (by unfold zRr; omega)), _, _, by omega, by omega, l1, by rw [zUp_c (by omega)]; exact g8.2.2.2.2⟩⟩
        rw [y_R1, f_X10_number, g8.2.2.2.2, if_neg (nI_nl (by omega) (by omega)), zBd_some, zCk_t (zIn_n x (by omega)), zLt_eq, zIx_n (by omega), zUp_c (by omega), g8.2.2.2.2, if_neg (nI_nl (by omega) (by omega))]
    · obtain ⟨P3, f3, g1, g2, g3, g4, g5⟩ := k_fail 3 (nI q) 0 c1
      obtain ⟨Q3, f4, g6, g7, g8, g9, g10⟩ := g_fail 3 (nI q) 0 z
      have v1 := g5 rfl
      have v2 := g10 rfl
      rw [zf_3 (by omega)] at v1 v2
      subst v1; subst v2
      rw [if_neg y, if_neg y_10, if_neg y_10, g1, zBd_some, z.2.2.2.1, g6, zBd_some]
      exact ⟨P3, Q3, rfl, rfl, Or.inl ⟨zOp_fr (zOp_t hO g3), zOr_q (zOq_t b2 g8), _, _, by omega, by omega, g2, g7.2.2.2.2⟩⟩
  · have ek : k = 8 := by omega
    rw [if_neg x, yB_f (by decide +kernel), if_pos y_00]
    have ep := c4 ek
    subst ep
    obtain ⟨P3, f3, g1, g2, g3, g4, g5⟩ := k_fail 1 (nI p2) 0 c1
    have v1 := g5 rfl
    rw [zf_1 (by omega)] at v1
    subst v1
    rw [g1, zBd_some]
    have hO := zOp_fr (zOp_t (zOp_t a2 c2) g3)
    by_cases y : yE B t p2 = p2
    · have z := zWs_1 b1 y
      rw [z.2.2.2.2, if_neg (nI_nl (by omega) (by omega))]
      exact ⟨P3, Q1, rfl, rfl, Or.inl ⟨hO, zOr_q b2, _, _, by omega, by omega, g2, z.2.2.2.2⟩⟩
    · have z := zWs_2 b1 y
      obtain ⟨Q3, f4, g6, g7, g8, g9, g10⟩ := g_fail 1 (nI p2) 0 z
      have v2 := g10 rfl
      rw [zf_1 (by omega)] at v2
      subst v2
      rw [z.2.2.2.2, if_pos y_le, if_pos (show nI k = 8 from by rw [ek]; rfl), z.2.2.2.1, g6, zBd_some]
      exact ⟨P3, Q3, rfl, rfl, Or.inl ⟨hO, zOr_q (zOq_t b2 g8), _, _, by omega, by omega, g2, g7.2.2.2.2⟩⟩
