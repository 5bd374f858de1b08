/-- act 5, the floor is yielded -/
theorem g_do5 {S M : zMem} {sd k e : Nat} {m : Int32} (hsd : sd < 2) (h : zMS S M sd k e) : zMS (s_yield S m) (zUp (zUp M 74 32 m) 74 37 1) sd k e ∧ zFm M (zUp (zUp M 74 32 m) 74 37 1) := by
  obtain ⟨_, ⟨m31, m32, m33, m37, _⟩, hQ, _⟩ := id h
  refine ⟨zMS_F hsd h (fun c hc => s_yield_off _ _ _ hc) (fun c b1 _ _ => by rw [zUp_off b1, zUp_off b1]) (fun i _ b2 _ b4 => by rw [zUp_x b4, zUp_x b2]) ?_ ?_, zFm_u (zFm_u zFm_r (by omega)) (by omega)⟩
  · unfold s_yield
    simp (disch := omega) only [zUp_x, zUp_s]
    exact ⟨m31, trivial, m33, trivial⟩
  · unfold s_yield
    refine ⟨fun i hi => ?_, fun i hi => ?_⟩
    · simp (disch := omega) only [zUp_x, zUp_c] at hi ⊢
      exact hQ.1 i hi
    · simp (disch := omega) only [zUp_c]
      exact hQ.2 i hi
/-- act 7, the last motion is seconded -/
theorem g_do7 {S M : zMem} {sd k e n : Nat} (hsd : sd < 2) (h : zMS S M sd k e) (hm : S 4 8 = nI n) (h8 : n ≤ 8) (h0 : 0 < n) : ∃ M', zCk (zIn ((M 74 39) - 1) 12) (zLt (zUp M 116 (zIx ((M 74 39) - 1)) 1) (fun M49 => some (0, M49))) = some (0, M') ∧ zMS (s_sec S) M' sd k e ∧ zFm M M' := by
  have hx : zIx (S 4 8) = n := by rw [hm, zIx_n (by omega)]
  obtain ⟨_, ⟨_, _, _, _, _, _, _, _, m39⟩, _, _, hM4, _⟩ := id h
  rw [m39, hm, zd_sub (by omega), zCk_t (zIn_n (by omega) (by omega)), zIx_n (by omega)]
  unfold s_sec
  rw [hx, if_neg (by omega)]
  refine ⟨_, rfl, ?_, zFm_u zFm_r (by omega)⟩
  refine zMS_M hsd h (fun c hc => zUp_off (by omega)) (fun c _ hc => zUp_off (by omega)) (fun i _ => zUp_c (by omega)) ?_ ?_
  · rw [zUp_c (by omega), zUp_c (by omega), m39]
  · intro i hi
    rw [zUp_c (by omega)] at hi
    have := hM4 i hi
    by_cases q2 : i = n - 1
    · subst q2
      simp (disch := omega) only [zUp_c, zUp_s]
      exact ⟨this.1, this.2.1, this.2.2.1, this.2.2.2.1, trivial, this.2.2.2.2.2.1, this.2.2.2.2.2.2⟩
    · simp (disch := omega) only [zUp_c, zUp_x]
      exact this
/-- act 6, a motion is moved -/
theorem g_do6 {E S M : zMem} {sd k e n D : Nat} {w m a b : Int32} (hsd : sd < 2) (hk : k < 300) (hE : zMv E M) (h : zMS S M sd (k + 1) e) (hm : S 4 8 = nI n) (h8 : n < 8) (hD : D < 8) (hl : zLm M k w m (nI D) a b) (hlog : ∀ i, i < k → M 94 i = E 16 i) (hrf : yRf E S k) : ∃ M', f_X10_moves (nI k) M = some (0, M') ∧ zMS (s_push E S D m a b (S 0 10)) M' sd (k + 1) e ∧ zFm M M' := by
  have hx : zIx (S 4 8) = n := by rw [hm, zIx_n (by omega)]
  have hi : zIn (nI k) 300 := zIn_n hk (by omega)
  have hd8 : zIn (nI D) 8 := zIn_n hD (by omega)
  have h12 : zIn (nI n) 12 := zIn_n (by omega) (by omega)
  obtain ⟨l1, l2, l3, l4, l5⟩ := hl
  obtain ⟨m25, ⟨_, _, _, _, _, _, _, _, m39⟩, _, _, hM4, hM5, _⟩ := id h
  rw [hm] at m39
  have hED := hE.1 D hD
  have hg : f_X10_moves (nI k) M = some (0, zUp (zUp (zUp (zUp (zUp (zUp (zUp (zUp M 111 n (nI D)) 112 n m) 113 n a) 114 n b) 116 n (yB (E 6 D = 0))) 117 n (yB (E 7 D = 0))) 115 n (if nI D = 7 then S 0 10 else -1)) 74 39 (nI (n + 1))) := by
    have hmid : ∀ M1 : zMem, (∀ c, c < 111 → M1 c = M c) → ∀ y, (y = 0 ∨ y = 1) → f_X10_moves_B106 (nI k) (nI n) y (nI n) M1 = some (0, zUp (zUp (zUp M1 117 n y) 115 n (if nI D = 7 then S 0 10 else -1)) 74 39 (nI (n + 1))) := by
      intro M1 hM1 y hy
      have n25 : zUp M1 117 n y 74 25 = nI sd := by rw [zUp_c (by omega), hM1 74 (by omega), m25]
      have n96 : zUp M1 117 n y 96 k = nI D := by rw [zUp_c (by omega), hM1 96 (by omega), l3]
      have hre := g_refused (E := E) (S := S) (M := zUp M1 117 n y) (k := k) n25 hsd (by omega) (fun i hi2 => by rw [zUp_c (by omega), hM1 _ (by omega)]; exact (hM5.1 i (by omega)).1) (fun i hi2 => by rw [zUp_c (by omega), hM1 _ (by omega)]; exact hlog i hi2) hrf
      have n39 : ∀ v, zUp (zUp M1 117 n y) 115 n v 74 39 = nI n := fun v => by rw [zUp_c (by omega), zUp_c (by omega), hM1 74 (by omega), m39]
      rw [f_X10_moves_B106, zCk_t h12, zCk_t hy, zLt_eq, zCk_t hi, zIx_n (by omega), zIx_n (by omega), n96]
      by_cases q : nI D = 7
      · rw [if_pos q, if_pos q, hre, zBd_some, f_X10_moves_B132, zCk_t h12, zLt_eq, zLt_eq, zIx_n (by omega), n39, nI_1]
      · rw [if_neg q, if_neg q, f_X10_moves_B132, zCk_t h12, zLt_eq, zLt_eq, zIx_n (by omega), n39, nI_1]
    have hmid2 : ∀ M1 : zMem, (∀ c, c < 111 → M1 c = M c) → ∀ y, (y = 0 ∨ y = 1) → f_X10_moves_B79 (nI k) (nI n) y (nI n) M1 = some (0, zUp (zUp (zUp (zUp M1 116 n y) 117 n (yB (E 7 D = 0))) 115 n (if nI D = 7 then S 0 10 else -1)) 74 39 (nI (n + 1))) := by
      intro M1 hM1 y hy
      have n96 : zUp M1 116 n y 96 k = nI D := by rw [zUp_c (by omega), hM1 96 (by omega), l3]
      have n87 : zUp M1 116 n y 87 D = E 7 D := by rw [zUp_c (by omega), hM1 87 (by omega), hED.2.2.1]
      rw [f_X10_moves_B79, zCk_t h12, zCk_t hy, zLt_eq, zCk_t hi, zIx_n (by omega), zIx_n (by omega), n96, zCk_t hd8, zIx_n (by omega), n87]
      by_cases q : E 7 D = 0
      · rw [if_pos q, yB_t q, hmid _ (fun c hc => by rw [zUp_off (by omega), hM1 c hc]) 1 (Or.inr rfl)]
      · rw [if_neg q, yB_f q, hmid _ (fun c hc => by rw [zUp_off (by omega), hM1 c hc]) 0 (Or.inl rfl)]
    rw [f_X10_moves, m39]
    simp only [zCk_t hi, zCk_t h12, zLt_eq]
    simp (disch := omega) only [zIx_n, zUp_c]
    rw [l2, l3, l4, l5, zCk_t hd8, zIx_n (by omega), hED.2.1]
    by_cases q : E 6 D = 0
    · rw [if_pos q, yB_t q, hmid2 _ (fun c hc => by simp (disch := omega) only [zUp_off]) 1 (Or.inr rfl)]
    · rw [if_neg q, yB_f q, hmid2 _ (fun c hc => by simp (disch := omega) only [zUp_off]) 0 (Or.inl rfl)]
  refine ⟨_, hg, ?_, zFm_u (zFm_u (zFm_u (zFm_u (zFm_u (zFm_u (zFm_u (zFm_u zFm_r (by omega)) (by omega)) (by omega)) (by omega)) (by omega)) (by omega)) (by omega)) (by omega)⟩
  refine zMS_M hsd h (fun c hc => s_push_off _ _ _ _ _ _ _ _ hc) (fun c b1 hc => by simp (disch := omega) only [zUp_off]) (fun i b => by rw [zUp_x b]; simp (disch := omega) only [zUp_c]) ?_ ?_
  · unfold s_push
    rw [hx, zUp_s, zUp_s]
  · unfold s_push
    rw [hx]
    intro i hi2
    rw [zUp_s, zIx_n (by omega)] at hi2
    by_cases q : i = n
    · subst q
      simp (disch := omega) only [zUp_s, zUp_c]
      exact ⟨trivial, trivial, trivial, trivial, trivial, trivial, trivial⟩
    · have := hM4 i (by omega)
      simp (disch := omega) only [zUp_x, zUp_c]
      exact this
/-- a motion carried out -/
theorem g_endL {n : Nat} {u v : Int32} (h8 : n ≤ 8) : ∀ k i N M, i + k = n → k < N → M 74 39 = nI n → ∃ M', f_X10_votes_L176 u v N (nI i) M = some (0, M') ∧ (∀ c, c ≠ 117 → M' c = M c) ∧ (∀ j, M' 117 j = if i ≤ j ∧ j < n then 1 else M 117 j) := by
  intro k
  induction k with
  | zero =>
    intro i N M hi hN h4
    obtain ⟨N, rfl⟩ : ∃ N', N = N' + 1 := ⟨N - 1, by omega⟩
    refine ⟨M, ?_, fun _ _ => rfl, fun j => by rw [if_neg (by omega)]⟩
    rw [f_X10_votes_L176, h4, if_pos (nI_le (by omega) (by omega))]
  | succ k ih =>
    intro i N M hi hN h4
    obtain ⟨N, rfl⟩ : ∃ N', N = N' + 1 := ⟨N - 1, by omega⟩
    obtain ⟨M', e, a1, a2⟩ := ih (i + 1) N (zUp M 117 i 1) (by omega) (by omega) (by rw [zUp_c (by omega), h4])
    refine ⟨M', ?_, fun c hc => (a1 c hc).trans (zUp_off hc), fun j => ?_⟩
    · rw [f_X10_votes_L176, h4, if_neg (nI_ge (by omega) (by omega)), zCk_t (zIn_n (by omega) (by omega)), zLt_eq, zIx_n (by omega), nI_1]
      exact e
    · rw [a2 j]
      by_cases q : j = i
      · subst q
        rw [if_neg (by omega), zUp_s, if_pos (by omega)]
      · rw [zUp_x q]
        by_cases q2 : i + 1 ≤ j ∧ j < n
        · rw [if_pos q2, if_pos (by omega)]
        · rw [if_neg q2, if_neg (by omega)]
/-- the state once the motion is taken off and its answer is noted; t is its place -/
theorem g_carry {E S M : zMem} {sd k e t : Nat} {u : Int32} (hsd : sd < 2) (h : zMS S M sd k e) (ht : t < 8) (hm : S 4 8 = nI t) (hP : zWP S e) (he : e < 320) (hr : S 0 13 = 0) {kd a b : Int32} (c111 : M 111 t = kd) (c113 : M 113 t = a) (c114 : M 114 t = b) (ha : zIn a 1000) (hb : zIn b 1000) (hk7 : kd ≠ 7) (hkd : zIn kd 8) : ∃ M' e', f_X10_votes_B68 u 1 (nI t) M = some (0, M') ∧ zMS (s_carry S kd a b) M' sd k e' ∧ zFm M M' ∧ zWP (s_carry S kd a b) e' ∧ e' ≤ max 20 (e + 1) := by
  obtain ⟨A, hA, rfl⟩ := zIn_of ha
  obtain ⟨B, hB, rfl⟩ := zIn_of hb
  have h12 : zIn (nI t) 12 := zIn_n (by omega) (by omega)
  have hx : zIx (S 4 8) = t := by rw [hm, zIx_n (by omega)]
  obtain ⟨_, ⟨m31, m32, m33, m37, m34, m35, m36, m38, m39⟩, hQ, h3, hM4, _, hMP⟩ := id h
  have hPc : ∀ S', (∀ c, 12 ≤ c → c < 16 → S' c = S c) → zWP S' e := by
    intro S' hS
    obtain ⟨hO, p5, p40, p30, p31, pc⟩ := hP
    have q12 := hS 12 (by omega) (by omega)
    have q13 := hS 13 (by omega) (by omega)
    have q14 := hS 14 (by omega) (by omega)
    have q15 := hS 15 (by omega) (by omega)
    have hpl := s_pl_c q13 q15 e 0
    refine ⟨?_, by rw [q12, hpl, p5], by rw [hpl]; exact p40, by rw [q12]; exact p30, by rw [q12]; exact p31, fun n hn => by rw [q15, q14]; exact pc n hn⟩
    unfold zWO
    rw [q12, q13]
    exact hO
  rw [f_X10_votes_B68, if_neg (by decide), zCk_t h12, zCk_t h12, zCk_t h12, zCk_t h12, zCk_t h12, zCk_t h12, zIx_n (by omega), c111, c113, c114, k_in, zBd_some, c113, c114]
  unfold s_carry
  rw [zIx_n (by omega)]
  by_cases q0 : kd = 0
  · rw [if_pos q0, if_pos q0]
    have e1 : (1 : Int32).toInt = 1 := by decide +kernel
    have e20 : (20 : Int32).toInt = 20 := by decide +kernel
    by_cases c : 1 ≤ A ∧ A ≤ 20
    · rw [yB_t (by rw [e1, e20, nI_toInt (by omega)]; omega), if_neg (by decide), zCk_t h12, zCk_t h12]
      obtain ⟨M1, e2, a1, a2⟩ := g_papers S (M := M) (b := nI B) c.1 c.2
      exact ⟨M1, A, by rw [e2, zBd_some], zMS_P hsd h (fun c hc => s_lay_off _ _ _ _ hc) a2 a1, zFm_p a2, zWP_lay S c.1 c.2 hb, by omega⟩
    · rw [yB_f (by rw [e1, e20, nI_toInt (by omega)]; omega), if_pos rfl]
      have hl : s_lay S A (nI B) = S := by
        unfold s_lay
        rw [if_neg c]
      rw [hl]
      exact ⟨M, e, rfl, h, zFm_r, hP, by omega⟩
  rw [if_neg q0, if_neg q0]
  by_cases q1 : kd = 1
  · rw [if_pos q1, if_pos q1]
    obtain ⟨M1, e1, e2, a0, a1, a2, a3⟩ := g_amend (b := nI B) hP hMP he hA (nI_pos' (by omega))
    exact ⟨M1, e1, by rw [e2, zBd_some], zMS_P hsd h (fun c hc => s_amend_off _ _ _ _ hc) a2 a1, zFm_p a2, a0, by omega⟩
  rw [if_neg q1, if_neg q1]
  by_cases q2 : kd = 2
  · rw [if_pos q2, if_pos q2]
    obtain ⟨M1, e1, a1, a2⟩ := g_endL (u := u) (v := 1) (n := t) (by omega) t 0 zFu M (by omega) (by unfold zFu; omega) (m39.trans hm)
    refine ⟨M1, e, e1, ?_, ⟨fun c hc => a1 c (by omega), fun i hi => by rw [a1 74 (by omega)]⟩, hPc _ (fun c _ _ => s_endDeb_off _ _ (by omega)), by omega⟩
    refine zMS_M hsd h (fun c hc => s_endDeb_off _ _ (by omega)) (fun c _ hc => a1 c (by omega)) (fun i _ => by rw [a1 74 (by omega)]) ?_ ?_
    · rw [a1 74 (by omega), m39, s_endDeb_off _ _ (by omega)]
    · intro i hi
      rw [s_endDeb_off _ _ (by omega), hx] at hi
      have := hM4 i (by omega)
      rw [a1 111 (by omega), a1 112 (by omega), a1 113 (by omega), a1 114 (by omega), a1 115 (by omega), a1 116 (by omega), a2 i, if_pos (by omega)]
      simp (disch := omega) only [s_endDeb_off]
      refine ⟨this.1, this.2.1, this.2.2.1, this.2.2.2.1, this.2.2.2.2.1, ?_, this.2.2.2.2.2.2⟩
      unfold s_endDeb
      rw [yPc_s, hx, if_pos hi]
  rw [if_neg q2, if_neg q2]
  by_cases q3 : kd = 3
  · rw [if_pos q3, if_pos q3]
    by_cases c : nI A ≤ 0
    · rw [if_pos c, if_pos c, zUp_self, zLt_eq]
      exact ⟨M, e, rfl, h, zFm_r, hP, by omega⟩
    · rw [if_neg c, if_neg c]
      refine ⟨_, e, rfl, ?_, zFm_u zFm_r (by omega), hPc _ (fun c _ _ => zUp_off (by omega)), by omega⟩
      refine zMS_0 hsd h (fun c hc => zUp_off hc) (fun c hc _ => zUp_off hc) (fun i b1 _ _ _ => zUp_x b1) ⟨?_, ?_, ?_, ?_⟩ (fun i hi => ?_)
      · rw [zUp_s, zUp_s]
      · rw [zUp_x (by omega), zUp_x (by omega), m35]
      · rw [zUp_x (by omega), zUp_x (by omega), m36]
      · rw [zUp_x (by omega), zUp_x (by omega), m38]
      · rw [zUp_c (by omega), zUp_x (by omega), h3 i hi]
  rw [if_neg q3, if_neg q3]
  have hz : ∀ S1 M1, zMS S1 M1 sd k e → True := fun _ _ _ => trivial
  by_cases q4 : kd = 4
  · rw [if_pos q4, if_pos q4]
    have g1 : zMS (s_away S) (zUp (zUp (zUp M 74 48 0) 74 49 0) 74 50 0) sd k 0 := zMS_P hsd h (fun c hc => s_away_off _ _ (by omega)) ⟨fun c b1 _ _ _ _ => by rw [zUp_off b1, zUp_off b1, zUp_off b1], fun i b1 b2 b3 => by rw [zUp_x b3, zUp_x b2, zUp_x b1]⟩ (zMP_away (by rw [zUp_x (by omega), zUp_x (by omega), zUp_s]) (by rw [zUp_x (by omega), zUp_s]) zUp_s)
    refine ⟨_, 0, rfl, ?_, zFm_u (zFm_u (zFm_u (zFm_u zFm_r (by omega)) (by omega)) (by omega)) (by omega), ?_, by omega⟩
    · refine zMS_M hsd g1 (fun c hc => zUp_off (by omega)) (fun c b1 _ => zUp_off b1) (fun i b => zUp_x b) ?_ ?_
      · rw [zUp_s, zUp_s]
      · intro i hi
        rw [zUp_s] at hi
        exact absurd hi (Nat.not_lt_zero _)
    · obtain ⟨hO, p5, p40, p30, p31, pc⟩ := zWP_away (S := S)
      refine ⟨⟨by rw [zUp_c (by omega)]; exact hO.1, by omega, fun i hi => by omega, fun i j _ hj => by omega⟩, by rw [zUp_c (by omega), p5]; rfl, by rw [s_pl_nil]; simp, fun _ => rfl, by rw [zUp_c (by omega)]; exact p31, fun n hn => by omega⟩
  rw [if_neg q4, if_neg q4]
  by_cases q5 : kd = 5
  · rw [if_pos q5, if_pos q5, zCk_t h12]
    by_cases c : nI A ≤ 0
    · have hA0 : A = 0 := by
        rcases Nat.eq_zero_or_pos A with y | y
        · exact y
        · exact absurd c (nI_nle y (by omega))
      rw [if_pos c, zUp_self, zLt_eq]
      have hs : zUp S 0 13 (nI A) = S := by
        rw [hA0, show nI 0 = S 0 13 by rw [hr]; rfl, zUp_self]
      rw [hs]
      exact ⟨M, e, rfl, h, zFm_r, hP, by omega⟩
    · rw [if_neg c, zCk_t h12]
      refine ⟨_, e, rfl, ?_, zFm_u zFm_r (by omega), hPc _ (fun c _ _ => zUp_off (by omega)), by omega⟩
      refine zMS_0 hsd h (fun c hc => zUp_off hc) (fun c hc _ => zUp_off hc) (fun i _ _ b3 _ => zUp_x b3) ⟨?_, ?_, ?_, ?_⟩ (fun i hi => ?_)
      · rw [zUp_x (by omega), zUp_x (by omega), m34]
      · rw [zUp_x (by omega), zUp_x (by omega), m35]
      · rw [zUp_s, zUp_s]
      · rw [zUp_x (by omega), zUp_x (by omega), m38]
      · rw [zUp_c (by omega), zUp_x (by omega), h3 i hi]
  rw [if_neg q5, if_neg q5]
  have q6 : kd = 6 := by
    obtain ⟨K, hK, eK⟩ := zIn_of hkd
    rcases (by omega : K = 0 ∨ K = 1 ∨ K = 2 ∨ K = 3 ∨ K = 4 ∨ K = 5 ∨ K = 6 ∨ K = 7) with x | x | x | x | x | x | x | x
    · exact absurd (by rw [eK, x]; rfl) q0
    · exact absurd (by rw [eK, x]; rfl) q1
    · exact absurd (by rw [eK, x]; rfl) q2
    · exact absurd (by rw [eK, x]; rfl) q3
    · exact absurd (by rw [eK, x]; rfl) q4
    · exact absurd (by rw [eK, x]; rfl) q5
    · rw [eK, x]; rfl
    · exact absurd (by rw [eK, x]; rfl) hk7
  rw [if_pos q6, if_pos q6]
  have g1 : zMS (zUp S 0 15 1) (zUp M 74 38 1) sd k e := by
    refine zMS_0 hsd h (fun c hc => zUp_off hc) (fun c hc _ => zUp_off hc) (fun i _ _ _ b4 => zUp_x b4) ⟨?_, ?_, ?_, ?_⟩ (fun i hi => ?_)
    · rw [zUp_x (by omega), zUp_x (by omega), m34]
    · rw [zUp_x (by omega), zUp_x (by omega), m35]
    · rw [zUp_x (by omega), zUp_x (by omega), m36]
    · rw [zUp_s, zUp_s]
    · rw [zUp_c (by omega), zUp_x (by omega), h3 i hi]
  refine ⟨_, e, rfl, ?_, zFm_u (zFm_u zFm_r (by omega)) (by omega), hPc _ (fun c _ _ => by rw [zUp_off (by omega), zUp_off (by omega)]), by omega⟩
  refine zMS_M hsd g1 (fun c hc => zUp_off (by omega)) (fun c b1 _ => zUp_off b1) (fun i b => zUp_x b) ?_ ?_
  · rw [zUp_s, zUp_s]
  · intro i hi
    rw [zUp_s] at hi
    exact absurd hi (Nat.not_lt_zero _)
