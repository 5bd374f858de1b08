/-! the reference's memory, part by part -/
def zFm (M M' : zMem) : Prop := (∀ c, c < 74 ∨ (74 < c ∧ c < 100) ∨ (121 < c ∧ c < 141) → M' c = M c) ∧ (∀ i, i < 31 ∨ (39 < i ∧ i < 48) ∨ 50 < i → M' 74 i = M 74 i)
theorem zFm_r {M : zMem} : zFm M M := ⟨fun _ _ => rfl, fun _ _ => rfl⟩
theorem zFm_t {M M1 M2 : zMem} (h1 : zFm M M1) (h2 : zFm M1 M2) : zFm M M2 := ⟨fun c hc => (h2.1 c hc).trans (h1.1 c hc), fun i hi => (h2.2 i hi).trans (h1.2 i hi)⟩
theorem zFm_p {M M' : zMem} (h : zFp M M') : zFm M M' := ⟨fun c hc => h.1 c (by omega) (by omega) (by omega) (by omega) (by omega), fun i hi => h.2 i (by omega) (by omega) (by omega)⟩
theorem zFm_u {M M1 : zMem} {c i : Nat} {v : Int32} (h : zFm M M1) (hc : (100 ≤ c ∧ c ≤ 121) ∨ 141 ≤ c ∨ (c = 74 ∧ ((31 ≤ i ∧ i ≤ 39) ∨ (48 ≤ i ∧ i ≤ 50)))) : zFm M (zUp M1 c i v) := by
  refine ⟨fun a ha => ?_, fun j hj => ?_⟩
  · rw [zUp_off (by omega), h.1 a ha]
  · by_cases q : c = 74
    · subst q
      rw [zUp_x (by omega), h.2 j hj]
    · rw [zUp_c (fun y => q y.symm), h.2 j hj]
theorem s_bf_c {S S' : zMem} {u c : Int32} (h13 : S' 13 = S 13) (h15 : S' 15 = S 15) : ∀ k i, s_bf S' u c k i = s_bf S u c k i
  | 0, _ => rfl
  | k + 1, i => by rw [s_bf, s_bf, h13, h15, s_bf_c h13 h15 k (i + 1)]
theorem s_pl_c {S S' : zMem} (h13 : S' 13 = S 13) (h15 : S' 15 = S 15) : ∀ k i, s_pl S' k i = s_pl S k i
  | 0, _ => rfl
  | k + 1, i => by rw [s_pl, s_pl, h13, h15, s_pl_c h13 h15 k (i + 1)]
theorem zMP_c {S S' M M' : zMem} {e : Nat} (h : zMP S M e) (hS : ∀ c, 12 ≤ c → c < 16 → S' c = S c) (hM : ∀ c, (119 ≤ c ∧ c ≤ 121) ∨ 141 ≤ c → M' c = M c) (h74 : ∀ i, 48 ≤ i → i ≤ 50 → M' 74 i = M 74 i) : zMP S' M' e := by
  obtain ⟨⟨m48, m49, m50, mA⟩, hG⟩ := h
  have h12 := hS 12 (by omega) (by omega)
  have h13 := hS 13 (by omega) (by omega)
  have h14 := hS 14 (by omega) (by omega)
  have h15 := hS 15 (by omega) (by omega)
  have hp := s_pl_c h13 h15 e 0
  refine ⟨⟨by rw [h74 48 (by omega) (by omega), m48, h12], by rw [h74 49 (by omega) (by omega), m49, hp], by rw [h74 50 (by omega) (by omega), m50, h12], fun i hi => ?_⟩, fun n hn hg => ?_⟩
  · rw [hp] at hi
    rw [hM 119 (by omega), hM 120 (by omega), hp, h14]
    exact mA i hi
  · rw [h15] at hg
    obtain ⟨A, b1, b2, b3, b4, b5⟩ := hG n hn hg
    refine ⟨A, b1, by rw [hM 121 (by omega), b2], fun i hi => by rw [hM (141 + n) (by omega), b3 i hi], by rw [h15]; exact b4, ?_⟩
    rw [h15, s_bf_c h13 h15]
    exact b5
theorem zM5_c {S S' M M' : zMem} {sd k : Nat} (h : zM5 sd k S M) (hS : ∀ c, 16 ≤ c → c < 20 → S' c = S c) (hM : ∀ c, (100 ≤ c ∧ c < 108) ∨ c = 118 → M' c = M c) (hsd : sd < 2) : zM5 sd k S' M' := by
  refine ⟨fun i hi => ?_, fun i hi => ?_⟩
  · rw [hM _ (by omega), hM _ (by omega), hS 16 (by omega) (by omega), hS 17 (by omega) (by omega)]
    exact h.1 i hi
  · rw [hM _ (by omega), hM _ (by omega), hS 18 (by omega) (by omega), hS 19 (by omega) (by omega)]
    exact h.2 i hi
theorem zM4_c {S S' M M' : zMem} (h : zM4 S M) (hS : ∀ c, 4 ≤ c → c < 12 → S' c = S c) (hM : ∀ c, 111 ≤ c → c ≤ 117 → M' c = M c) : zM4 S' M' := by
  intro i hi
  rw [hS 4 (by omega) (by omega)] at hi
  rw [hM 111 (by omega) (by omega), hM 112 (by omega) (by omega), hM 113 (by omega) (by omega), hM 114 (by omega) (by omega), hM 115 (by omega) (by omega), hM 116 (by omega) (by omega), hM 117 (by omega) (by omega), hS 5 (by omega) (by omega), hS 6 (by omega) (by omega), hS 7 (by omega) (by omega), hS 8 (by omega) (by omega), hS 9 (by omega) (by omega), hS 10 (by omega) (by omega), hS 11 (by omega) (by omega)]
  exact h i hi
theorem zMQ_c {S S' M M' : zMem} (h : zMQ 109 110 S M) (hS : ∀ c, 1 ≤ c → c < 4 → S' c = S c) (hM : ∀ c, c = 109 ∨ c = 110 → M' c = M c) : zMQ 109 110 S' M' := by
  refine ⟨fun i hi => ?_, fun i hi => ?_⟩
  · rw [hS 1 (by omega) (by omega)] at hi
    rw [hM 109 (by omega), hS 2 (by omega) (by omega), h.1 i hi]
  · rw [hM 110 (by omega), hS 3 (by omega) (by omega), h.2 i hi]
/-- the floor changed -/
theorem zMS_F {S S' M M' : zMem} {sd k e : Nat} (hsd : sd < 2) (h : zMS S M sd k e) (hS : ∀ c, c < 1 ∨ 4 ≤ c → S' c = S c) (hM : ∀ c, c ≠ 74 → c ≠ 109 → c ≠ 110 → M' c = M c) (h74 : ∀ i, i ≠ 31 → i ≠ 32 → i ≠ 33 → i ≠ 37 → M' 74 i = M 74 i) (f : M' 74 31 = S' 1 4 ∧ M' 74 32 = S' 1 5 ∧ M' 74 33 = S' 1 6 ∧ M' 74 37 = S' 1 7) (q : zMQ 109 110 S' M') : zMS S' M' sd k e := by
  obtain ⟨m25, ⟨m31, m32, m33, m37, m34, m35, m36, m38, m39⟩, hQ, h3, h4, h5, hP⟩ := h
  refine ⟨by rw [h74 25 (by omega) (by omega) (by omega) (by omega), m25], ⟨f.1, f.2.1, f.2.2.1, f.2.2.2, ?_, ?_, ?_, ?_, ?_⟩, q, ?_, zM4_c h4 (fun c _ _ => hS c (by omega)) (fun c _ _ => hM c (by omega) (by omega) (by omega)), zM5_c h5 (fun c _ _ => hS c (by omega)) (fun c _ => hM c (by omega) (by omega) (by omega)) hsd, zMP_c hP (fun c _ _ => hS c (by omega)) (fun c _ => hM c (by omega) (by omega) (by omega)) (fun i _ _ => h74 i (by omega) (by omega) (by omega) (by omega))⟩
  · rw [h74 34 (by omega) (by omega) (by omega) (by omega), m34, hS 0 (by omega)]
  · rw [h74 35 (by omega) (by omega) (by omega) (by omega), m35, hS 0 (by omega)]
  · rw [h74 36 (by omega) (by omega) (by omega) (by omega), m36, hS 0 (by omega)]
  · rw [h74 38 (by omega) (by omega) (by omega) (by omega), m38, hS 0 (by omega)]
  · rw [h74 39 (by omega) (by omega) (by omega) (by omega), m39, hS 4 (by omega)]
  · intro m hm
    rw [hM 108 (by omega) (by omega) (by omega), hS 0 (by omega)]
    exact h3 m hm
/-- the motions changed -/
theorem zMS_M {S S' M M' : zMem} {sd k e : Nat} (hsd : sd < 2) (h : zMS S M sd k e) (hS : ∀ c, c < 4 ∨ 12 ≤ c → S' c = S c) (hM : ∀ c, c ≠ 74 → c < 111 ∨ 117 < c → M' c = M c) (h74 : ∀ i, i ≠ 39 → M' 74 i = M 74 i) (f : M' 74 39 = S' 4 8) (q : zM4 S' M') : zMS S' M' sd k e := by
  obtain ⟨m25, ⟨m31, m32, m33, m37, m34, m35, m36, m38, m39⟩, hQ, h3, h4, h5, hP⟩ := h
  refine ⟨by rw [h74 25 (by omega), m25], ⟨?_, ?_, ?_, ?_, ?_, ?_, ?_, ?_, f⟩, zMQ_c hQ (fun c _ _ => hS c (by omega)) (fun c _ => hM c (by omega) (by omega)), ?_, q, zM5_c h5 (fun c _ _ => hS c (by omega)) (fun c _ => hM c (by omega) (by omega)) hsd, zMP_c hP (fun c _ _ => hS c (by omega)) (fun c _ => hM c (by omega) (by omega)) (fun i _ _ => h74 i (by omega))⟩
  · rw [h74 31 (by omega), m31, hS 1 (by omega)]
  · rw [h74 32 (by omega), m32, hS 1 (by omega)]
  · rw [h74 33 (by omega), m33, hS 1 (by omega)]
  · rw [h74 37 (by omega), m37, hS 1 (by omega)]
  · rw [h74 34 (by omega), m34, hS 0 (by omega)]
  · rw [h74 35 (by omega), m35, hS 0 (by omega)]
  · rw [h74 36 (by omega), m36, hS 0 (by omega)]
  · rw [h74 38 (by omega), m38, hS 0 (by omega)]
  · intro m hm
    rw [hM 108 (by omega) (by omega), hS 0 (by omega)]
    exact h3 m hm
/-- the paper changed -/
theorem zMS_P {S S' M M' : zMem} {sd k e e' : Nat} (hsd : sd < 2) (h : zMS S M sd k e) (hS : ∀ c, c < 12 ∨ 16 ≤ c → S' c = S c) (hM : zFp M M') (q : zMP S' M' e') : zMS S' M' sd k e' := by
  obtain ⟨m25, ⟨m31, m32, m33, m37, m34, m35, m36, m38, m39⟩, hQ, h3, h4, h5, hP⟩ := h
  have hM1 : ∀ c, c ≠ 74 → c < 119 → M' c = M c := fun c a b => hM.1 c a (by omega) (by omega) (by omega) (by omega)
  have h74 : ∀ i, i < 48 → M' 74 i = M 74 i := fun i a => hM.2 i (by omega) (by omega) (by omega)
  refine ⟨by rw [h74 25 (by omega), m25], ⟨?_, ?_, ?_, ?_, ?_, ?_, ?_, ?_, ?_⟩, zMQ_c hQ (fun c _ _ => hS c (by omega)) (fun c _ => hM1 c (by omega) (by omega)), ?_, zM4_c h4 (fun c _ _ => hS c (by omega)) (fun c _ _ => hM1 c (by omega) (by omega)), zM5_c h5 (fun c _ _ => hS c (by omega)) (fun c _ => hM1 c (by omega) (by omega)) hsd, q⟩
  · rw [h74 31 (by omega), m31, hS 1 (by omega)]
  · rw [h74 32 (by omega), m32, hS 1 (by omega)]
  · rw [h74 33 (by omega), m33, hS 1 (by omega)]
  · rw [h74 37 (by omega), m37, hS 1 (by omega)]
  · rw [h74 34 (by omega), m34, hS 0 (by omega)]
  · rw [h74 35 (by omega), m35, hS 0 (by omega)]
  · rw [h74 36 (by omega), m36, hS 0 (by omega)]
  · rw [h74 38 (by omega), m38, hS 0 (by omega)]
  · rw [h74 39 (by omega), m39, hS 4 (by omega)]
  · intro m hm
    rw [hM1 108 (by omega) (by omega), hS 0 (by omega)]
    exact h3 m hm
/-- the session's own numbers, or who is there, changed -/
theorem zMS_0 {S S' M M' : zMem} {sd k e : Nat} (hsd : sd < 2) (h : zMS S M sd k e) (hS : ∀ c, c ≠ 0 → S' c = S c) (hM : ∀ c, c ≠ 74 → c ≠ 108 → M' c = M c) (h74 : ∀ i, i ≠ 34 → i ≠ 35 → i ≠ 36 → i ≠ 38 → M' 74 i = M 74 i) (f : M' 74 34 = S' 0 12 ∧ M' 74 35 = S' 0 14 ∧ M' 74 36 = S' 0 13 ∧ M' 74 38 = S' 0 15) (q : zM3 S' M') : zMS S' M' sd k e := by
  obtain ⟨m25, ⟨m31, m32, m33, m37, m34, m35, m36, m38, m39⟩, hQ, h3, h4, h5, hP⟩ := h
  refine ⟨by rw [h74 25 (by omega) (by omega) (by omega) (by omega), m25], ⟨?_, ?_, ?_, ?_, f.1, f.2.1, f.2.2.1, f.2.2.2, ?_⟩, zMQ_c hQ (fun c _ _ => hS c (by omega)) (fun c _ => hM c (by omega) (by omega)), q, zM4_c h4 (fun c _ _ => hS c (by omega)) (fun c _ _ => hM c (by omega) (by omega)), zM5_c h5 (fun c _ _ => hS c (by omega)) (fun c _ => hM c (by omega) (by omega)) hsd, zMP_c hP (fun c _ _ => hS c (by omega)) (fun c _ => hM c (by omega) (by omega)) (fun i _ _ => h74 i (by omega) (by omega) (by omega) (by omega))⟩
  · rw [h74 31 (by omega) (by omega) (by omega) (by omega), m31, hS 1 (by omega)]
  · rw [h74 32 (by omega) (by omega) (by omega) (by omega), m32, hS 1 (by omega)]
  · rw [h74 33 (by omega) (by omega) (by omega) (by omega), m33, hS 1 (by omega)]
  · rw [h74 37 (by omega) (by omega) (by omega) (by omega), m37, hS 1 (by omega)]
  · rw [h74 39 (by omega) (by omega) (by omega) (by omega), m39, hS 4 (by omega)]
/-- what was ruled and passed, or appealed, changed -/
theorem zMS_5 {S S' M M' : zMem} {sd k k' e : Nat} (h : zMS S M sd k e) (hS : ∀ c, 1 ≤ c → c < 16 → S' c = S c) (hS0 : ∀ i, i ≠ 9 → S' 0 i = S 0 i) (hM : ∀ c, c < 100 ∨ (107 < c ∧ c ≠ 118) → M' c = M c) (q : zM5 sd k' S' M') : zMS S' M' sd k' e := by
  obtain ⟨m25, ⟨m31, m32, m33, m37, m34, m35, m36, m38, m39⟩, hQ, h3, h4, h5, hP⟩ := h
  have h74 : M' 74 = M 74 := hM 74 (by omega)
  refine ⟨by rw [h74, m25], ⟨?_, ?_, ?_, ?_, ?_, ?_, ?_, ?_, ?_⟩, zMQ_c hQ (fun c a b => hS c (by omega) (by omega)) (fun c _ => hM c (by omega)), ?_, zM4_c h4 (fun c _ _ => hS c (by omega) (by omega)) (fun c _ _ => hM c (by omega)), q, zMP_c hP (fun c _ _ => hS c (by omega) (by omega)) (fun c _ => hM c (by omega)) (fun i _ _ => by rw [h74])⟩
  · rw [h74, m31, hS 1 (by omega) (by omega)]
  · rw [h74, m32, hS 1 (by omega) (by omega)]
  · rw [h74, m33, hS 1 (by omega) (by omega)]
  · rw [h74, m37, hS 1 (by omega) (by omega)]
  · rw [h74, m34, hS0 12 (by omega)]
  · rw [h74, m35, hS0 14 (by omega)]
  · rw [h74, m36, hS0 13 (by omega)]
  · rw [h74, m38, hS0 15 (by omega)]
  · rw [h74, m39, hS 4 (by omega) (by omega)]
  · intro m hm
    rw [hM 108 (by omega), hS0 11 (by omega)]
    exact h3 m hm
theorem zMS_w1 {S M : zMem} {sd k e : Nat} (hsd : sd < 2) (hk : k < 300) (h : zMS S M sd k e) (r : Int32) : zMS (s_w1 S k r) (zUp (zUp M (103 + sd) k (-1)) (100 + sd) k r) sd (k + 1) e := by
  have h5 := h.2.2.2.2.2.1
  refine zMS_5 h (fun c a b => s_w1_off _ _ _ c a b) (fun i a => s_w1_0 _ _ _ i a) (fun c hc => by rw [zUp_off (by omega), zUp_off (by omega)]) ⟨fun i hi => ?_, fun i hi => ?_⟩
  · unfold s_w1
    rw [zUp_c (show (103 + sd : Nat) ≠ 100 + sd by omega)]
    by_cases q : i = k
    · subst q
      simp (disch := omega) only [zUp_s, zUp_c, and_self]
    · have := h5.1 i (by omega)
      simp (disch := omega) only [zUp_x, zUp_c]
      exact this
  · have := h5.2 i hi
    have g1 : zUp (zUp M (103 + sd) k (-1)) (100 + sd) k r (106 + sd) i = M (106 + sd) i := by simp (disch := omega) only [zUp_c]
    have g2 : zUp (zUp M (103 + sd) k (-1)) (100 + sd) k r 118 i = M 118 i := by simp (disch := omega) only [zUp_c]
    unfold s_w1
    rw [g1, g2]
    by_cases q : i = k
    · subst q
      rw [if_neg (by omega), if_neg (by omega)] at this
      rw [if_pos (by omega), if_pos (by omega)]
      simp (disch := omega) only [zUp_s, zUp_c]
      exact this
    · by_cases q2 : i < k
      · rw [if_pos q2, if_pos q2] at this
        rw [if_pos (by omega), if_pos (by omega)]
        simp (disch := omega) only [zUp_x, zUp_c]
        exact this
      · rw [if_neg q2, if_neg q2] at this
        rw [if_neg (by omega), if_neg (by omega)]
        exact this
