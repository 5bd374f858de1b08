theorem yRf_w1 {E S : zMem} {k : Nat} {r : Int32} (h : yRf E S k) : yRf E (s_w1 S k r) k := by
  have h16 : ∀ j, j < k → s_w1 S k r 16 j = S 16 j := fun j hj => by
    unfold s_w1
    simp (disch := omega) only [zUp_c, zUp_x]
  have h10 : s_w1 S k r 0 10 = S 0 10 := s_w1_0 _ _ _ _ (by omega)
  rcases h with ⟨d1, d2⟩ | ⟨j, d1, d2, d3, d4⟩
  · exact Or.inl ⟨by rw [h10]; exact d1, fun j hj => by rw [h16 j hj]; exact d2 j hj⟩
  · exact Or.inr ⟨j, d1, by rw [h10]; exact d2, by rw [h16 j d1]; exact d3, fun i hi1 hi2 => by rw [h16 i hi2]; exact d4 i hi1 hi2⟩
theorem zPg_w1 {E S : zMem} {k nq nm : Nat} {w m d a b r : Int32} (h : zPg E S nq nm w m d a b) : zPg E (s_w1 S k r) nq nm w m d a b := by
  unfold zPg
  rw [s_w1_off _ _ _ 2 (by omega) (by omega), s_w1_off _ _ _ 1 (by omega) (by omega), s_w1_off _ _ _ 5 (by omega) (by omega), s_w1_0 _ _ _ 13 (by omega)]
  exact h
theorem zMv_fm {E M M' : zMem} (h : zMv E M) (hf : zFm M M') : zMv E M' := by
  unfold zMv
  rw [hf.1 78 (by omega), hf.1 84 (by omega), hf.1 87 (by omega), hf.1 81 (by omega), hf.1 89 (by omega), hf.1 90 (by omega), hf.1 91 (by omega), hf.1 92 (by omega), hf.1 93 (by omega)]
  exact h
theorem zLm_fm {M M' : zMem} {k : Nat} {w m d a b : Int32} (h : zLm M k w m d a b) (hf : zFm M M') : zLm M' k w m d a b := by
  unfold zLm
  rw [hf.1 94 (by omega), hf.1 95 (by omega), hf.1 96 (by omega), hf.1 97 (by omega), hf.1 98 (by omega)]
  exact h
/-- the act ruled r: noted, and done if it is let -/
theorem g_B174 {E S M : zMem} {sd k e nq nm : Nat} {w m d a b r : Int32} (hsd : sd < 2) (hk : k < 300) (hWE : zWE E) (hE : zMv E M) (h : zMS S M sd k e) (hl : zLm M k w m d a b) (hlog : ∀ i, i < k → M 94 i = E 16 i) (hwk : E 16 k = w) (hW : zWA E S k nq nm e) (hp : r = 0 → zPg E S nq nm w m d a b) (hw : zIn w 10) : ∃ M' nq' nm' e', f_X10_works_B174 (nI k) r (zUp M (103 + sd) k (-1)) = some (0, M') ∧ zMS (s_step E S k w m d a b r) M' sd (k + 1) e' ∧ zWA E (s_step E S k w m d a b r) (k + 1) nq' nm' e' ∧ zFm M M' := by
  obtain ⟨hB, hP, he⟩ := zWB_of hW
  have hi : zIn (nI k) 300 := zIn_n hk (by omega)
  have g1 := zMS_w1 hsd hk h r
  have f1 : zFm M (zUp (zUp M (103 + sd) k (-1)) (100 + sd) k r) := zFm_u (zFm_u zFm_r (by omega)) (by omega)
  have hB1 := zWB_w1 (r := r) hB hk hwk
  have c25 : zUp M (103 + sd) k (-1) 74 25 = nI sd := by rw [zUp_c (by omega), h.1]
  rw [f_X10_works_B174, c25, zCk_t (zIn_n hsd (by omega)), zCk_t hi, zLt_eq, zIx_n (by omega), zIx_n (by omega)]
  unfold s_step
  have hP1 : zWP (s_w1 S k r) e := zWP_c hP (fun c _ _ => s_w1_off _ _ _ c (by omega) (by omega))
  generalize zUp (zUp M (103 + sd) k (-1)) (100 + sd) k r = M1 at *
  by_cases q0 : r = 0
  · subst q0
    rw [if_pos rfl, zIf_t rfl]
    rw [zIf_f (fun y => absurd y.1 (by decide))] at hB1
    have hp1 := zPg_w1 (k := k) (r := 0) (hp rfl)
    obtain ⟨M2, e2, x1, x2, x3, x4, x5⟩ := g_do hsd hk hWE (zMv_fm hE f1) g1 (zLm_fm hl f1) (fun i hi2 => by rw [f1.1 94 (by omega)]; exact hlog i hi2) (yRf_w1 hB.2.2.2.1) hB1 (fun i hi2 => by
      rw [s_w1_off _ _ _ 9 (by omega) (by omega)]
      exact (hB.2.1.2.2 i hi2).2.2.2.2.2.2) hP1 he hp1 hw
    obtain ⟨nq', nm', hB2⟩ := zWB_do (kk := k) (by omega) hWE hB1 hp1 hw
    exact ⟨M2, nq', nm', e2, by rw [x1, zBd_some], x2, zWA_of hB2 x4 x5, zFm_t f1 x3⟩
  · rw [if_neg q0, zIf_f q0]
    by_cases q : r = 6 ∧ (w = 6 ∨ w = 5)
    · rw [zIf_t q] at hB1 ⊢
      refine ⟨M1, nq, nm, e, rfl, ?_, zWA_of hB1 (zWP_c hP1 (fun c _ _ => zUp_off (by omega))) (by omega), f1⟩
      obtain ⟨_, ⟨_, _, _, _, m34, m35, m36, m38, _⟩, _, h3, _⟩ := id g1
      refine zMS_0 hsd g1 (fun c hc => zUp_off hc) (fun c _ _ => rfl) (fun i _ _ _ _ => rfl) ⟨?_, ?_, ?_, ?_⟩ (fun i hi2 => ?_)
      · rw [zUp_x (by omega)]; exact m34
      · rw [zUp_x (by omega)]; exact m35
      · rw [zUp_x (by omega)]; exact m36
      · rw [zUp_x (by omega)]; exact m38
      · rw [zUp_x (by omega)]; exact h3 i hi2
    · rw [zIf_f q] at hB1 ⊢
      exact ⟨M1, nq, nm, e, rfl, g1, zWA_of hB1 hP1 (by omega), f1⟩
theorem g_pre {S M : zMem} {sd k e : Nat} (hsd : sd < 2) (h : zMS S M sd k e) : zMS S (zUp M (103 + sd) k (-1)) sd k e := by
  have h5 := h.2.2.2.2.2.1
  refine zMS_5 h (fun c _ _ => rfl) (fun i _ => rfl) (fun c hc => zUp_off (by omega)) ⟨fun i hi => ?_, fun i hi => ?_⟩
  · rw [zUp_c (by omega), zUp_x (by omega)]
    exact h5.1 i hi
  · rw [zUp_c (by omega), zUp_c (by omega)]
    exact h5.2 i hi
/-- an act worked by the reference, as it is ruled -/
theorem g_works0 {E S M : zMem} {sd k e nq nm : Nat} {w m d a b : Int32} (hsd : sd < 2) (hk : k < 300) (hWE : zWE E) (hE : zMv E M) (h : zMS S M sd k e) (hl : zLm M k w m d a b) (hlog : ∀ i, i < k → M 94 i = E 16 i) (hwk : E 16 k = w) (hW : zWA E S k nq nm e) (hw : zIn w 10) (hf : sd = 1 → nI k ≠ M 74 26) : ∃ M' nq' nm' e', f_X10_works (nI k) M = some (0, M') ∧ zMS (s_step E S k w m d a b (s_rule E S w m d a b)) M' sd (k + 1) e' ∧ zWA E (s_step E S k w m d a b (s_rule E S w m d a b)) (k + 1) nq' nm' e' ∧ zFm M M' := by
  have hi : zIn (nI k) 300 := zIn_n hk (by omega)
  have hpre := g_pre (k := k) hsd h
  have f0 : zFm M (zUp M (103 + sd) k (-1)) := zFm_u zFm_r (by omega)
  obtain ⟨M', nq', nm', e', x1, x2, x3, x4⟩ := g_B174 (r := s_rule E S w m d a b) hsd hk hWE hE h hl hlog hwk hW (fun y => zPg_of hW hw (Or.inl y)) hw
  refine ⟨M', nq', nm', e', ?_, x2, x3, x4⟩
  have c25 : zUp M (103 + sd) k (-1) 74 25 = nI sd := by rw [zUp_c (by omega), h.1]
  have c26 : zUp M (103 + sd) k (-1) 74 26 = M 74 26 := by rw [zUp_c (by omega)]
  rw [f_X10_works, h.1, zCk_t (zIn_n hsd (by omega)), zCk_t hi, zLt_eq, zIx_n (by omega), zIx_n (by omega), g_rule hsd hk hWE (zMv_fm hE f0) hW hpre (zLm_fm hl f0) (fun i hi2 => by rw [f0.1 94 (by omega)]; exact hlog i hi2) hw, zBd_some, c25, c26]
  by_cases q : sd = 1
  · rw [if_pos (by rw [q]; rfl), if_neg (hf q)]
    exact x1
  · rw [if_neg (show ¬ nI sd = 1 from fun y => q ((nI_eq (b := 1) (by omega) (by omega)).mp y))]
    exact x1
/-- the act whose ruling is to be the other one, by the reference -/
theorem g_works1 {E S M : zMem} {k e nq nm : Nat} {w m d a b : Int32} (hk : k < 300) (hWE : zWE E) (hE : zMv E M) (h : zMS S M 1 k e) (hl : zLm M k w m d a b) (hlog : ∀ i, i < k → M 94 i = E 16 i) (hwk : E 16 k = w) (hW : zWA E S k nq nm e) (hw : zIn w 10) (hf : M 74 26 = nI k) (h27 : M 74 27 = 0) : ∃ M' nq' nm' e' r, f_X10_works (nI k) M = some (0, M') ∧ zMS (s_step E S k w m d a b r) M' 1 (k + 1) e' ∧ zWA E (s_step E S k w m d a b r) (k + 1) nq' nm' e' ∧ (∀ c, c < 74 ∨ (74 < c ∧ c < 100) ∨ (121 < c ∧ c < 141) → M' c = M c) ∧ (∀ i, (i < 31 ∧ i ≠ 27) ∨ (39 < i ∧ i < 48) ∨ 50 < i → M' 74 i = M 74 i) ∧ (s_oth E S w d (s_rule E S w m d a b) → M' 74 27 = 0 ∧ r = if s_rule E S w m d a b = 0 then 6 else 0) ∧ (¬ s_oth E S w d (s_rule E S w m d a b) → M' 74 27 = 1) := by
  have hi : zIn (nI k) 300 := zIn_n hk (by omega)
  have hpre := g_pre (k := k) (sd := 1) (by omega) h
  have f0 : zFm M (zUp M (103 + 1) k (-1)) := zFm_u zFm_r (by omega)
  have c25 : zUp M (103 + 1) k (-1) 74 25 = nI 1 := by rw [zUp_c (by omega), h.1]
  have c26 : zUp M (103 + 1) k (-1) 74 26 = nI k := by rw [zUp_c (by omega), hf]
  have c27 : zUp M (103 + 1) k (-1) 74 27 = 0 := by rw [zUp_c (by omega), h27]
  have c32 : zUp M (103 + 1) k (-1) 74 32 = S 1 5 := by rw [zUp_c (by omega), h.2.1.2.1]
  have hm := hW.1.2.1.1
  have hm8 := hW.1.2.1.2.1
  have hx : zIx (S 4 8) = nm := by rw [hm, zIx_n (by omega)]
  have c39 : zUp M (103 + 1) k (-1) 74 39 = nI nm := by rw [zUp_c (by omega), h.2.1.2.2.2.2.2.2.2.2, hm]
  have c94 : zUp M (103 + 1) k (-1) 94 k = w := by rw [zUp_c (by omega), hl.1]
  have c96 : zUp M (103 + 1) k (-1) 96 k = d := by rw [zUp_c (by omega), hl.2.2.1]
  have h78 : ∀ D, D < 8 → zUp M (103 + 1) k (-1) 78 D = E 4 D := fun D hD => by rw [zUp_c (by omega), (hE.1 D hD).1]
  -- with what is nothing noted
  have hset : ∀ v r, (v = 0 ∨ v = 1) → (r = 0 → zPg E S nq nm w m d a b) → ∃ M' nq' nm' e', f_X10_works_B174 (nI k) r (zUp (zUp M (103 + 1) k (-1)) 74 27 v) = some (0, M') ∧ zMS (s_step E S k w m d a b r) M' 1 (k + 1) e' ∧ zWA E (s_step E S k w m d a b r) (k + 1) nq' nm' e' ∧ (∀ c, c < 74 ∨ (74 < c ∧ c < 100) ∨ (121 < c ∧ c < 141) → M' c = M c) ∧ (∀ i, (i < 31 ∧ i ≠ 27) ∨ (39 < i ∧ i < 48) ∨ 50 < i → M' 74 i = M 74 i) ∧ M' 74 27 = v := by
    intro v r hv hp
    have hcomm : zUp (zUp M (103 + 1) k (-1)) 74 27 v = zUp (zUp M 74 27 v) (103 + 1) k (-1) := by
      funext c i
      by_cases q1 : c = 74
      · subst q1
        rw [zUp_c (b := 74) (c := 103 + 1) (by omega)]
        by_cases q2 : i = 27
        · subst q2
          rw [zUp_s, zUp_s]
        · rw [zUp_x q2, zUp_x q2, zUp_c (by omega)]
      · rw [zUp_c q1]
        by_cases q2 : c = 103 + 1
        · subst q2
          by_cases q3 : i = k
          · subst q3
            rw [zUp_s, zUp_s]
          · rw [zUp_x q3, zUp_x q3, zUp_c (by omega)]
        · rw [zUp_c q2, zUp_c q2, zUp_c q1]
    have hv1 : zMS S (zUp M 74 27 v) 1 k e := by
      obtain ⟨m25, ⟨m31, m32, m33, m37, m34, m35, m36, m38, m39⟩, hQ, h3, h4, h5, hPp⟩ := id h
      refine ⟨by rw [zUp_x (by omega), m25], ⟨?_, ?_, ?_, ?_, ?_, ?_, ?_, ?_, ?_⟩, zMQ_c hQ (fun c _ _ => rfl) (fun c _ => zUp_off (by omega)), ?_, zM4_c h4 (fun c _ _ => rfl) (fun c _ _ => zUp_off (by omega)), zM5_c h5 (fun c _ _ => rfl) (fun c _ => zUp_off (by omega)) (by omega), zMP_c hPp (fun c _ _ => rfl) (fun c _ => zUp_off (by omega)) (fun i _ _ => zUp_x (by omega))⟩
      · rw [zUp_x (by omega)]; exact m31
      · rw [zUp_x (by omega)]; exact m32
      · rw [zUp_x (by omega)]; exact m33
      · rw [zUp_x (by omega)]; exact m37
      · rw [zUp_x (by omega)]; exact m34
      · rw [zUp_x (by omega)]; exact m35
      · rw [zUp_x (by omega)]; exact m36
      · rw [zUp_x (by omega)]; exact m38
      · rw [zUp_x (by omega)]; exact m39
      · intro i hi2
        rw [zUp_c (by omega)]
        exact h3 i hi2
    have hEv : zMv E (zUp M 74 27 v) := by
      unfold zMv
      simp (disch := omega) only [zUp_off]
      exact hE
    have hlv : zLm (zUp M 74 27 v) k w m d a b := by
      unfold zLm
      simp (disch := omega) only [zUp_off]
      exact hl
    obtain ⟨M', nq', nm', e', x1, x2, x3, x4⟩ := g_B174 (r := r) (by omega) hk hWE hEv hv1 hlv (fun i hi2 => by rw [zUp_c (by omega)]; exact hlog i hi2) hwk hW hp hw
    refine ⟨M', nq', nm', e', by rw [hcomm]; exact x1, x2, x3, fun c hc => by rw [x4.1 c hc, zUp_off (by omega)], fun i hi2 => by rw [x4.2 i (by omega), zUp_x (by omega)], by rw [x4.2 27 (by omega), zUp_s]⟩
  have h132 : ∀ y r, (y = 0 ∨ y = 1) → r = s_rule E S w m d a b → (y = 1 ↔ s_oth E S w d r) → ∃ M' nq' nm' e' r', f_X10_works_B132 (nI k) r y (zUp M (103 + 1) k (-1)) = some (0, M') ∧ zMS (s_step E S k w m d a b r') M' 1 (k + 1) e' ∧ zWA E (s_step E S k w m d a b r') (k + 1) nq' nm' e' ∧ (∀ c, c < 74 ∨ (74 < c ∧ c < 100) ∨ (121 < c ∧ c < 141) → M' c = M c) ∧ (∀ i, (i < 31 ∧ i ≠ 27) ∨ (39 < i ∧ i < 48) ∨ 50 < i → M' 74 i = M 74 i) ∧ (s_oth E S w d r → M' 74 27 = 0 ∧ r' = if r = 0 then 6 else 0) ∧ (¬ s_oth E S w d r → M' 74 27 = 1) := by
    intro y r hy hr hoth
    unfold f_X10_works_B132
    rw [c27, if_pos rfl]
    by_cases qy : y = 0
    · have hno : ¬ s_oth E S w d r := fun z => by
        rw [hoth.mpr z] at qy
        exact absurd qy (by decide)
      rw [if_pos qy, qy]
      unfold f_X10_works_B147 f_X10_works_B152 f_X10_works_B165
      obtain ⟨M', nq', nm', e', x1, x2, x3, x4, x5, x6⟩ := hset 1 6 (Or.inr rfl) (fun z => absurd z (by decide))
      refine ⟨M', nq', nm', e', 6, ?_, x2, x3, x4, x5, fun z => absurd z hno, fun _ => x6⟩
      rw [zCk_t (Or.inr rfl), zLt_eq, if_pos rfl, if_pos rfl]
      by_cases q : r = 0
      · rw [if_pos q]; exact x1
      · rw [if_neg q]; exact x1
    · have hy1 : y = 1 := hy.elim (fun z => absurd z qy) id
      have hyes := hoth.mp hy1
      rw [if_neg qy]
      unfold f_X10_works_B152 f_X10_works_B165
      rw [zCk_t (Or.inl rfl), zLt_eq, if_neg qy, if_neg qy]
      by_cases q : r = 0
      · rw [if_pos q]
        obtain ⟨M', nq', nm', e', x1, x2, x3, x4, x5, x6⟩ := hset 0 6 (Or.inl rfl) (fun z => absurd z (by decide))
        exact ⟨M', nq', nm', e', 6, x1, x2, x3, x4, x5, fun _ => ⟨x6, by rw [if_pos q]⟩, fun z => absurd hyes z⟩
      · rw [if_neg q]
        have hr6 : s_rule E S w m d a b = 6 ∧ s_oth E S w d (s_rule E S w m d a b) := by
          rw [← hr]
          rcases hyes with z | z
          · exact absurd z q
          · exact ⟨z.1, Or.inr z⟩
        obtain ⟨M', nq', nm', e', x1, x2, x3, x4, x5, x6⟩ := hset 0 0 (Or.inl rfl) (fun _ => zPg_of hW hw (Or.inr hr6))
        exact ⟨M', nq', nm', e', 0, x1, x2, x3, x4, x5, fun _ => ⟨x6, by rw [if_neg q]⟩, fun z => absurd hyes z⟩
  rw [f_X10_works, h.1, zCk_t (zIn_n (by omega) (by omega)), zCk_t hi, zLt_eq, show zIx (nI 1) = 1 from zIx_n (by omega), zIx_n (by omega), g_rule (by omega) hk hWE (zMv_fm hE f0) hW hpre (zLm_fm hl f0) (fun i hi2 => by rw [f0.1 94 (by omega)]; exact hlog i hi2) hw, zBd_some, c25, c26, if_pos (show nI 1 = 1 from rfl), if_pos (show nI k = nI k from rfl), zCk_t hi, zCk_t hi, c94, c96, k_in, zBd_some, zCk_t hi, c96]
  -- whether the move may be let: y
  have hB94 : ∀ y r, (y = 0 ∨ y = 1) → r = s_rule E S w m d a b → (r = 6 → (y = 1 ↔ (w = 6 ∧ (zIn d 8 ∧ 0 < E 4 (zIx d)) ∧ nm < 8))) → ∃ v, (v = 0 ∨ v = 1) ∧ (v = 1 ↔ s_oth E S w d r) ∧ f_X10_works_B94 (nI k) r y (zUp M (103 + 1) k (-1)) = f_X10_works_B132 (nI k) r v (zUp M (103 + 1) k (-1)) := by
    intro y r hy hr hyo
    unfold f_X10_works_B94 f_X10_works_B127 f_X10_works_B131
    rw [c32, zIx_n (by omega), c94]
    unfold s_oth
    rw [hx]
    by_cases q0 : r = 0
    · rw [if_pos q0]
      exact ⟨1, Or.inr rfl, ⟨fun _ => Or.inl q0, fun _ => rfl⟩, rfl⟩
    rw [if_neg q0]
    by_cases q6 : r = 6
    · rw [if_pos q6]
      by_cases qy : y = 0
      · have hny : ¬ (w = 6 ∧ (zIn d 8 ∧ 0 < E 4 (zIx d)) ∧ nm < 8) := fun z => by
          have := (hyo q6).mpr z
          rw [qy] at this
          exact absurd this (by decide)
        rw [if_pos qy, zCk_t hi]
        by_cases w5 : w = 5
        · rw [if_pos w5]
          by_cases c5 : S 1 5 = -1
          · rw [if_pos c5]
            refine ⟨0, Or.inl rfl, ⟨fun z => absurd z (by decide), fun z => ?_⟩, rfl⟩
            rcases z with z | ⟨_, z | z⟩
            · exact absurd z q0
            · exact absurd z hny
            · exact absurd c5 z.2
          · rw [if_neg c5]
            exact ⟨1, Or.inr rfl, ⟨fun _ => Or.inr ⟨q6, Or.inr ⟨w5, c5⟩⟩, fun _ => rfl⟩, rfl⟩
        · rw [if_neg w5]
          refine ⟨0, Or.inl rfl, ⟨fun z => absurd z (by decide), fun z => ?_⟩, rfl⟩
          rcases z with z | ⟨_, z | z⟩
          · exact absurd z q0
          · exact absurd z hny
          · exact absurd z.1 w5
      · have hy1 : y = 1 := hy.elim (fun z => absurd z qy) id
        rw [if_neg qy]
        exact ⟨1, Or.inr rfl, ⟨fun _ => Or.inr ⟨q6, Or.inl ((hyo q6).mp hy1)⟩, fun _ => rfl⟩, rfl⟩
    · rw [if_neg q6]
      refine ⟨0, Or.inl rfl, ⟨fun z => absurd z (by decide), fun z => ?_⟩, rfl⟩
      rcases z with z | ⟨z, _⟩
      · exact absurd z q0
      · exact absurd z q6
  have hfin : ∀ y, (y = 0 ∨ y = 1) → (s_rule E S w m d a b = 6 → (y = 1 ↔ (w = 6 ∧ (zIn d 8 ∧ 0 < E 4 (zIx d)) ∧ nm < 8))) → ∃ M' nq' nm' e' r, f_X10_works_B94 (nI k) (s_rule E S w m d a b) y (zUp M (103 + 1) k (-1)) = some (0, M') ∧ zMS (s_step E S k w m d a b r) M' 1 (k + 1) e' ∧ zWA E (s_step E S k w m d a b r) (k + 1) nq' nm' e' ∧ (∀ c, c < 74 ∨ (74 < c ∧ c < 100) ∨ (121 < c ∧ c < 141) → M' c = M c) ∧ (∀ i, (i < 31 ∧ i ≠ 27) ∨ (39 < i ∧ i < 48) ∨ 50 < i → M' 74 i = M 74 i) ∧ (s_oth E S w d (s_rule E S w m d a b) → M' 74 27 = 0 ∧ r = if s_rule E S w m d a b = 0 then 6 else 0) ∧ (¬ s_oth E S w d (s_rule E S w m d a b) → M' 74 27 = 1) := by
    intro y hy hyo
    obtain ⟨v, hv1, hv2, hv3⟩ := hB94 y _ hy rfl hyo
    rw [hv3]
    exact h132 v _ hv1 rfl hv2
  by_cases w6 : w = 6
  · rw [if_pos w6]
    have e0 : (0 : Int32).toInt = 0 := by decide +kernel
    have e7 : (7 : Int32).toInt = 7 := by decide +kernel
    have hB76 : ∀ D, D < 8 → f_X10_works_B76 (nI k) (s_rule E S w m d a b) (nI D) (zUp M (103 + 1) k (-1)) = f_X10_works_B94 (nI k) (s_rule E S w m d a b) (zT (0 < E 4 D ∧ nm < 8)) (zUp M (103 + 1) k (-1)) := by
      intro D hD
      rw [f_X10_works_B76, zCk_t (zIn_n hD (by omega)), zIx_n (by omega), h78 D hD, c39]
      unfold f_X10_works_B93
      by_cases c1 : E 4 D ≤ 0
      · rw [if_pos c1, zT_f (fun z => Int32.not_lt.mpr c1 z.1)]
      rw [if_neg c1]
      by_cases c2 : 8 ≤ nm
      · rw [if_pos (show (8 : Int32) ≤ nI nm from nI_le (a := 8) c2 (by omega)), zT_f (fun z => by omega)]
      · rw [if_neg (show ¬ (8 : Int32) ≤ nI nm from nI_ge (b := 8) (by omega) (by omega)), zT_t ⟨Int32.not_le.mp c1, by omega⟩]
    by_cases c1 : zIn d 8
    · obtain ⟨D, hD, eD⟩ := zIn_of c1
      rw [yB_t (by rw [e0, e7]; exact ⟨c1.1, by have := c1.2; omega⟩), if_neg (by decide)]
      subst eD
      rw [hB76 D hD]
      refine hfin _ (zT_01 _) (fun h6 => ?_)
      rw [zIx_n (by omega)]
      constructor
      · intro z
        have : 0 < E 4 D ∧ nm < 8 := Classical.byContradiction (fun n => by
          rw [zT_f n] at z
          exact absurd z (by decide))
        exact ⟨w6, ⟨zIn_n hD (by omega), this.1⟩, this.2⟩
      · intro z
        exact zT_t ⟨z.2.1.2, z.2.2⟩
    · rw [yB_f (by rw [e0, e7]; exact fun z => c1 ⟨z.1, by have := z.2; omega⟩), if_pos rfl]
      rw [show (0 : Int32) = nI 0 from rfl, hB76 0 (by omega)]
      refine hfin _ (zT_01 _) (fun h6 => ?_)
      exfalso
      have hr1 : s_rule E S w m d a b = 1 := by
        unfold s_rule
        rw [zIf_t]
        intro ht
        subst w6
        exact c1 (s_told6 ht).2.1
      rw [hr1] at h6
      exact absurd h6 (by decide)
  · rw [if_neg w6]
    unfold f_X10_works_B93
    exact hfin 0 (Or.inl rfl) (fun _ => ⟨fun z => absurd z (by decide), fun z => absurd z.1 w6⟩)
