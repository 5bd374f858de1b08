/-! the reference's ruling, whole -/
def zWE (E : zMem) : Prop := (∀ d, d < 8 → 0 ≤ E 4 d ∧ (0 < E 4 d → E 5 d = 0 ∨ E 5 d = 1 ∨ E 5 d = 2 ∨ E 5 d = 3) ∧ (E 6 d = 0 ∨ E 6 d = 1) ∧ (E 7 d = 0 ∨ E 7 d = 1)) ∧ 0 < E 3 4 ∧ (E 3 6 = 0 ∨ E 3 6 = 1) ∧ (E 3 7 = 0 ∨ E 3 7 = 1)
def zMS (S M : zMem) (sd k e : Nat) : Prop := M 74 25 = nI sd ∧ zM1 S M ∧ zMQ 109 110 S M ∧ zM3 S M ∧ zM4 S M ∧ zM5 sd k S M ∧ zMP S M e
def zWA (E S : zMem) (k nq nm e : Nat) : Prop := zWS E S k nq nm e ∧ zWP S e ∧ yRf E S k ∧ z24 (S 0 11) ∧ ((S 1 5 = -1 ∧ S 1 6 = 0 ∧ S 1 7 = 0) ∨ (zIn (S 1 5) 24 ∧ 0 < S 1 6 ∧ (S 1 7 = 0 ∨ S 1 7 = 1))) ∧ 0 < S 0 12 ∧ 0 ≤ S 0 13 ∧ (S 0 15 = 0 ∨ S 0 15 = 1) ∧ (∀ i, i < k → (S 18 i = 0 ∨ S 18 i = 1) ∧ (S 19 i = 0 ∨ S 19 i = 1))
theorem zd_pos {x : Int32} (h : 0 ≤ x) : x = 0 ∨ 0 < x := by
  rcases Int32.lt_or_eq_of_le h with q | q
  · exact Or.inr q
  · exact Or.inl q.symm
theorem g_mvL {S M : zMem} {n : Nat} {u v : Int32} (hn : M 74 39 = nI n) (h8 : n ≤ 8) (hk : ∀ i, i < n → M 111 i = S 5 i) : ∀ k i N, i + k = n → k < N → f_X10_mayMove_L46 u v N (nI i) M = if zFi (S 5) 7 k i < n then some (0, M) else f_X10_mayMove_B75 u v M := by
  intro k
  induction k with
  | zero =>
    intro i N hi hN
    obtain ⟨N, rfl⟩ : ∃ N', N = N' + 1 := ⟨N - 1, by omega⟩
    rw [f_X10_mayMove_L46, hn, if_pos (nI_le (by omega) (by omega)), if_neg (show ¬ zFi (S 5) 7 0 i < n by unfold zFi; omega)]
  | succ k ih =>
    intro i N hi hN
    obtain ⟨N, rfl⟩ : ∃ N', N = N' + 1 := ⟨N - 1, by omega⟩
    rw [f_X10_mayMove_L46, hn, if_neg (nI_ge (by omega) (by omega)), zCk_t (zIn_n (by omega) (by omega)), zIx_n (by omega), hk i (by omega), nI_1, ih (i + 1) N (by omega) (by omega), zFi]
    by_cases q : S 5 i = 7
    · rw [if_pos q, if_pos q, if_pos (by omega)]
    · rw [if_neg q, if_neg q]
theorem g_mmk {E S M : zMem} {sd k e nq nm A : Nat} {u v : Int32} (hw : zWA E S k nq nm e) (h : zMS S M sd k e) (hA : A < 1000) (d : Int32) : f_X10_mayMove_B158 u v d (nI A) M = some (zT (s_mmk S d (nI A)), M) := by
  obtain ⟨⟨_, ⟨hm, hm8, _⟩, ⟨_, _, hl⟩, _⟩, hP, _⟩ := hw
  obtain ⟨_, ⟨_, _, _, _, _, _, _, _, m39⟩, _, _, _, _, hMP⟩ := h
  have m48 := hMP.1.1
  have hx : zIx (S 4 8) = nm := by rw [hm, zIx_n (by omega)]
  have e1 : (1 : Int32).toInt = 1 := by decide +kernel
  have e20 : (20 : Int32).toInt = 20 := by decide +kernel
  rw [f_X10_mayMove_B158, m48, m39, g_mayAm hP hMP.1 hA, zBd_some, k_in, zBd_some, yB_T]
  unfold s_mmk
  by_cases q0 : d = 0
  · rw [if_pos q0, if_pos q0]
    by_cases c1 : S 12 3 = 0
    · rw [if_pos c1]
      by_cases c2 : (1 : Int32).toInt ≤ (nI A).toInt ∧ (nI A).toInt ≤ (20 : Int32).toInt
      · rw [zT_t c2, if_neg (by decide), zT_t ⟨c1, Int32.le_iff_toInt_le.mpr c2.1, Int32.le_iff_toInt_le.mpr c2.2⟩]
      · rw [zT_f c2, if_pos rfl, zT_f (fun x => c2 ⟨Int32.le_iff_toInt_le.mp x.2.1, Int32.le_iff_toInt_le.mp x.2.2⟩)]
    · rw [if_neg c1, zT_f (fun x => c1 x.1)]
  rw [if_neg q0, if_neg q0]
  by_cases q1 : d = 1
  · rw [if_pos q1, if_pos q1, zIx_n (by omega)]
    by_cases c1 : S 12 3 = 0
    · rw [if_pos c1, zT_f (fun x => x.1 c1)]
    · rw [if_neg c1]
      by_cases c2 : s_mayAm S A
      · rw [zT_t c2, if_neg (by decide), zT_t ⟨c1, c2⟩]
      · rw [zT_f c2, if_pos rfl, zT_f (fun x => c2 x.2)]
  rw [if_neg q1, if_neg q1]
  by_cases q2 : d = 2
  · rw [if_pos q2, if_pos q2]
    by_cases c1 : S 12 3 = 0
    · rw [if_pos c1, zT_f (fun x => x.1 c1)]
    rw [if_neg c1, hx, hm]
    by_cases c2 : nm = 0
    · rw [c2, zT_f (by simp)]
      rfl
    · rw [zT_t ⟨c1, by omega⟩, if_neg (nI_nle (by omega) (by omega))]
  rw [if_neg q2, if_neg q2]
  by_cases q3 : d = 3
  · rw [if_pos q3, if_pos q3]
    by_cases c1 : nI A ≤ 0
    · rw [if_pos c1, zT_f (fun x => Int32.not_lt.mpr c1 x)]
    · rw [if_neg c1, zT_t (Int32.not_le.mp c1)]
  rw [if_neg q3, if_neg q3]
  by_cases q4 : d = 4
  · rw [if_pos q4, if_pos q4, zCk_t hl]
    rcases hl with c | c
    · rw [c, zT_f (by simp)]
    · rw [c, zT_t (by decide)]
  rw [if_neg q4, if_neg q4]
  by_cases q5 : d = 5
  · rw [if_pos q5, if_pos q5]
    by_cases c1 : nI A ≤ 0
    · rw [if_pos c1, zT_f (fun x => Int32.not_lt.mpr c1 x)]
    · rw [if_neg c1, zT_t (Int32.not_le.mp c1)]
  · rw [if_neg q5, if_neg q5, zT_t trivial]
theorem g_mv {E S M : zMem} {sd k e nq nm : Nat} {w m d a b : Int32} (hsd : sd < 2) (hk : k < 300) (hWE : zWE E) (hE : zMv E M) (hw : zWA E S k nq nm e) (h : zMS S M sd k e) (hl : zLm M k w m d a b) (hlog : ∀ i, i < k → M 94 i = E 16 i) {A : Nat} (hA : A < 1000) (ha : a = nI A) (hd : zIn d 8) : f_X10_mayMove (nI k) m M = some (zT (s_mv E S m d a), M) := by
  subst ha
  obtain ⟨D, hD, eD⟩ := zIn_of hd
  have hmk := fun d => g_mmk (u := nI k) (v := m) hw h hA d
  obtain ⟨l1, l2, l3, l4, l5⟩ := hl
  obtain ⟨⟨_, ⟨hm, hm8, hmo⟩, _, h9⟩, _, hrf, _⟩ := hw
  obtain ⟨m25, ⟨_, m32, _, _, _, _, _, _, m39⟩, _, _, hM4, hM5, _⟩ := h
  have hx : zIx (S 4 8) = nm := by rw [hm, zIx_n (by omega)]
  have hi : zIn (nI k) 300 := zIn_n hk (by omega)
  have hrk := (hE.1 D hD).1
  have h0E := (hWE.1 D hD).1
  have hd8 : zIn (nI D) 8 := zIn_n hD (by omega)
  rw [f_X10_mayMove, zCk_t hi, zCk_t hi, zIx_n (by omega), l3, l4, eD, zCk_t hd8, zCk_t hd8, zIx_n (by omega), hrk, m39, hm]
  unfold s_mv
  rw [hx, zIx_n (by omega)]
  by_cases q0 : E 4 D = 0
  · rw [if_pos q0, zT_f (fun x => by
      have := x.1.2
      rw [q0] at this
      exact absurd this (by decide))]
  have qp : 0 < E 4 D := (zd_pos h0E).elim (fun y => absurd y q0) id
  rw [if_neg q0]
  by_cases q8 : 8 ≤ nm
  · rw [if_neg (show ¬ nI nm < 8 from nI_nlt (b := 8) q8 (by omega)), zT_f (fun x => by have := x.2.1; omega)]
  rw [if_pos (show nI nm < 8 from nI_lt (b := 8) (by omega) (by omega))]
  by_cases q7 : nI D = 7
  · rw [if_pos q7, if_pos q7]
    show f_X10_mayMove_L46 (nI k) m zFu (nI 0) M = _
    rw [g_mvL (S := S) (m39.trans hm) hm8 (fun i hi => (hM4 i (by omega)).1) nm 0 zFu (by omega) (by unfold zFu; omega)]
    by_cases c1 : zFi (S 5) 7 nm 0 < nm
    · rw [if_pos c1, zT_f (fun x => x.2.2.1 c1)]
    rw [if_neg c1, f_X10_mayMove_B75, g_refused m25 hsd (by omega) (fun i hi => (hM5.1 i hi).1) hlog hrf, zBd_some]
    rcases hrf with ⟨e0, _⟩ | ⟨r, hr, e0, _⟩
    · rw [e0, if_pos rfl, zT_f (fun x => absurd x.2.2.2.1.1.1 (by decide +kernel))]
    · rw [e0, if_neg (show ¬ nI r = -1 by rw [zd_e1 (by omega)]; exact fun y => y), zCk_t (zIn_n (by omega) (by omega)), zIx_n (by omega), (hM5.2 r (by omega)).2, if_pos hr]
      have hwk : s_wk S (nI r) := ⟨zIn_n (by omega) (by omega), by rw [h9]; exact nI_lt hr (by omega)⟩
      by_cases c2 : S 19 r = 0
      · rw [if_pos c2, zT_t ⟨⟨hd8, qp⟩, by omega, c1, hwk, c2⟩]
      · rw [if_neg c2, zT_f (fun x => c2 x.2.2.2.2)]
  · rw [if_neg q7, if_neg q7]
    have hB : f_X10_mayMove_B140 (nI k) m (nI D) (nI A) M = some (zT ((S 1 5 = -1 ∨ S 1 5 = m) ∧ s_mmk S (nI D) (nI A)), M) := by
      rw [f_X10_mayMove_B140, m32, hmk]
      by_cases c1 : S 1 5 = -1
      · rw [if_pos c1, zT_congr]
        exact ⟨fun x => ⟨Or.inl c1, x⟩, fun x => x.2⟩
      rw [if_neg c1]
      by_cases c2 : S 1 5 = m
      · rw [if_pos c2, zT_congr]
        exact ⟨fun x => ⟨Or.inr c2, x⟩, fun x => x.2⟩
      · rw [if_neg c2, zT_f (fun x => x.1.elim c1 c2)]
    rw [hB]
    by_cases c0 : nm = 0
    · subst c0
      rw [if_pos (by decide)]
      congr 2
      exact zT_congr ⟨fun x => ⟨⟨hd8, qp⟩, by omega, x.1, Or.inl rfl, x.2⟩, fun x => ⟨x.2.2.1, x.2.2.2.2⟩⟩
    · obtain ⟨T, hT, eT⟩ := zIn_of (hmo (nm - 1) (by omega)).1
      rw [if_neg (nI_nle (by omega) (by omega)), zd_sub (by omega), zCk_t (zIn_n (by omega) (by omega)), zIx_n (by omega), (hM4 (nm - 1) (by omega)).1, eT, zCk_t (zIn_n hT (by omega)), zIx_n (by omega), (hE.1 T hT).1]
      by_cases c1 : E 4 D ≤ E 4 T
      · rw [if_pos c1, zT_f]
        intro x
        rcases x.2.2.2.1 with y | y
        · exact c0 y
        · exact Int32.not_lt.mpr c1 y
      · rw [if_neg c1]
        congr 2
        exact zT_congr ⟨fun x => ⟨⟨hd8, qp⟩, by omega, x.1, Or.inr (Int32.not_le.mp c1), x.2⟩, fun x => ⟨x.2.2.1, x.2.2.2.2⟩⟩
