/-! who waits: all that would be called -/
theorem c_copyL {M0 : zMem} : ∀ k i N M, i + k = 24 → k < N → (∀ c, c ≠ 62 → c ≠ 63 → M c = M0 c) → (∀ j, j < i → M 62 j = M0 23 j ∧ M 63 j = M0 24 j) → ∃ M', f_X0_copyFrom_L2 61 (21 + 1) N (nI i) M = f_X0_copyFrom_B38 61 (21 + 1) M' ∧ (∀ c, c ≠ 62 → c ≠ 63 → M' c = M0 c) ∧ (∀ j, j < 24 → M' 62 j = M0 23 j ∧ M' 63 j = M0 24 j) := by
  intro k
  induction k with
  | zero =>
    intro i N M hi hN h1 h2
    obtain ⟨N, rfl⟩ : ∃ N', N = N' + 1 := ⟨N - 1, by omega⟩
    refine ⟨M, ?_, h1, fun j hj => h2 j (by omega)⟩
    rw [f_X0_copyFrom_L2, if_pos (show (24 : Int32) ≤ nI i from nI_le (a := 24) (by omega) (by omega))]
  | succ k ih =>
    intro i N M hi hN h1 h2
    obtain ⟨N, rfl⟩ : ∃ N', N = N' + 1 := ⟨N - 1, by omega⟩
    have h24 : zIn (nI i) 24 := zIn_n (by omega) (by omega)
    have c24 : zUp M (61 + 1) i (M (21 + 1 + 1) i) (21 + 1 + 2) i = M0 24 i := by rw [zUp_c (by omega), h1 _ (by omega) (by omega)]
    obtain ⟨M', e, a1, a2⟩ := ih (i + 1) N (zUp (zUp M 62 i (M0 23 i)) 63 i (M0 24 i)) (by omega) (by omega) (fun c x y => by rw [zUp_off y, zUp_off x, h1 c x y]) (fun j hj => by
      by_cases y : j = i
      · subst y
        simp (disch := omega) only [zUp_c, zUp_s]
        exact ⟨trivial, trivial⟩
      · simp (disch := omega) only [zUp_c, zUp_x]
        exact h2 j (by omega))
    refine ⟨M', ?_, a1, a2⟩
    rw [f_X0_copyFrom_L2, if_neg (show ¬ (24 : Int32) ≤ nI i from nI_ge (b := 24) (by omega) (by omega)), zCk_t h24, zCk_t h24, zLt_eq, zCk_t h24, zCk_t h24, zLt_eq, zIx_n (by omega), c24, h1 _ (by omega) (by omega), nI_1]
    exact e
theorem c_copy {S M : zMem} (h : zCF 22 S M) (hn : zIx (S 1 4) ≤ 24) (h7 : S 1 7 = 0 ∨ S 1 7 = 1) : ∃ M', f_X0_copyFrom 61 (21 + 1) M = some (0, M') ∧ zCF 61 S M' ∧ (∀ c, c < 61 ∨ 63 < c → M' c = M c) := by
  obtain ⟨M1, e1, a1, a2⟩ := c_copyL (M0 := M) 24 0 zFu M (by omega) (by unfold zFu; omega) (fun c _ _ => rfl) (fun j hj => by omega)
  have c4 : M1 22 4 = S 1 4 := by rw [a1 22 (by omega) (by omega)]; exact zCF_1 h (by omega) (by omega)
  have c5 : M1 22 5 = S 1 5 := by rw [a1 22 (by omega) (by omega)]; exact zCF_1 h (by omega) (by omega)
  have c6 : M1 22 6 = S 1 6 := by rw [a1 22 (by omega) (by omega)]; exact zCF_1 h (by omega) (by omega)
  have c7 : M1 22 7 = S 1 7 := by rw [a1 22 (by omega) (by omega)]; exact zCF_1 h (by omega) (by omega)
  refine ⟨zUp (zUp (zUp (zUp M1 61 4 (S 1 4)) 61 5 (S 1 5)) 61 6 (S 1 6)) 61 7 (S 1 7), ?_, zCF_of ?_ ?_ ?_, fun c hc => ?_⟩
  · rw [f_X0_copyFrom]
    show f_X0_copyFrom_L2 61 (21 + 1) zFu (nI 0) M = _
    rw [e1, f_X0_copyFrom_B38]
    simp only [zLt_eq]
    have d : ∀ (A : zMem) i v, zUp A 61 i v (21 + 1) = A 22 := fun A i v => zUp_off (by omega)
    simp only [d]
    show zCk (M1 22 7 = 0 ∨ M1 22 7 = 1) (some (0, zUp (zUp (zUp (zUp M1 61 4 (M1 22 4)) 61 5 (M1 22 5)) 61 6 (M1 22 6)) 61 7 (M1 22 7))) = _
    rw [c4, c5, c6, c7, zCk_t h7]
  · intro i h1 h2
    rcases (by omega : i = 4 ∨ i = 5 ∨ i = 6 ∨ i = 7) with q | q | q | q <;> (subst q; simp (disch := omega) only [zUp_x, zUp_s])
  · intro i hi
    simp (disch := omega) only [zUp_c]
    rw [show (61 + 1 : Nat) = 62 from rfl, (a2 i (by omega)).1]
    exact zCF_q h hi
  · intro i hi
    simp (disch := omega) only [zUp_c]
    rw [show (61 + 2 : Nat) = 63 from rfl, (a2 i hi).2]
    exact zCF_s h hi
  · simp (disch := omega) only [zUp_off]
    exact a1 c (by omega) (by omega)
def s_cn (E : zMem) (t : Int32) : Nat → zMem → zMem
  | 0, S => S
  | j + 1, S => s_cn E t j (s_call E S t)
theorem zWF_call {E S : zMem} {n : Nat} (t : Int32) (hF : zWF S n) (h0 : 0 < n) : zWF (s_call E S t) (n - 1) ∧ ∃ m, m < 24 ∧ S 2 (s_nx E S n) = nI m ∧ s_call E S t = zUp (zUp (zUp (zUp (s_deq S (s_nx E S n)) 1 5 (nI m)) 1 6 t) 1 7 0) 3 m (S 3 m + 1) := by
  have hxq : zIx (S 1 4) = n := by rw [hF.1, zIx_n (by have := hF.2.1; omega)]
  have hpn : s_nx E S n < n := zNx_lt _ n h0
  obtain ⟨j, hj, ej⟩ := zIn_of (hF.2.2.1 _ hpn)
  have hS' : s_call E S t = zUp (zUp (zUp (zUp (s_deq S (s_nx E S n)) 1 5 (nI j)) 1 6 t) 1 7 0) 3 j (S 3 j + 1) := by
    unfold s_call
    rw [hxq, ej, zIx_n (by omega)]
  refine ⟨zWF_c (zWF_deq hF hpn) ?_ ?_, j, hj, ej, hS'⟩
  · rw [hS']
    simp (disch := omega) only [zUp_x, zUp_c]
  · rw [hS', zUp_off (by omega), zUp_off (by omega), zUp_off (by omega), zUp_off (by omega)]
theorem c_waitsL {E : zMem} {T : Int32} {K : Nat} (hK : K < 24) : ∀ j i N S M m, i + j = K + 1 → j < N → j ≤ m → zWF S m → zCF 61 S M → M 14 = E 14 → M 3 = E 3 → M 21 12 = T → ∃ M', f_X9_waits_L36 (nI K) N (nI i) M = some (s_cn E T j S 1 5, M') ∧ (∀ c, c < 61 ∨ 63 < c → M' c = M c) := by
  intro j
  induction j with
  | zero =>
    intro i N S M m hi hN hm hF hC h14 h3 hT
    obtain ⟨N, rfl⟩ : ∃ N', N = N' + 1 := ⟨N - 1, by omega⟩
    refine ⟨M, ?_, fun _ _ => rfl⟩
    rw [f_X9_waits_L36, if_pos (nI_lt (by omega) (by omega)), zCF_1 hC (by omega) (by omega)]
    rfl
  | succ j ih =>
    intro i N S M m hi hN hm hF hC h14 h3 hT
    obtain ⟨N, rfl⟩ : ∃ N', N = N' + 1 := ⟨N - 1, by omega⟩
    obtain ⟨M1, e1, a1, a2⟩ := k_call hC h14 h3 hF (by omega) T
    obtain ⟨M2, e2, b2⟩ := ih (i + 1) N (s_call E S T) M1 (m - 1) (by omega) (by omega) (by omega) (zWF_call T hF (by omega)).1 a1 (by rw [a2 14 (by omega), h14]) (by rw [a2 3 (by omega), h3]) (by rw [a2 21 (by omega), hT])
    refine ⟨M2, ?_, fun c hc => by rw [b2 c hc, a2 c (by omega)]⟩
    rw [f_X9_waits_L36, if_neg (nI_nlt (by omega) (by omega)), hT, e1, zBd_some, nI_1]
    exact e2
/-- the reference's row, one taken out -/
theorem g_rowL {u : Int32} {k : Int32 → Int32 → Int32 → zMem → zTr} {x3 x4 : Int32} {m : Nat} (hm : m < 24) : ∀ j p N M, p + j = m → j < N → ∃ M', f_X10_waits_L122 u k N (nI m) x3 x4 (nI p) M = k (nI m) x3 (x4 + 1) M' ∧ (∀ c, c ≠ 122 → M' c = M c) ∧ (∀ i, i < m → M' 122 i = if i < p then M 122 i else M 122 (i + 1)) := by
  intro j
  induction j with
  | zero =>
    intro p N M hp hN
    obtain ⟨N, rfl⟩ : ∃ N', N = N' + 1 := ⟨N - 1, by omega⟩
    refine ⟨M, ?_, fun _ _ => rfl, fun i hi => by rw [if_pos (by omega)]⟩
    rw [f_X10_waits_L122, if_pos (nI_le (by omega) (by omega))]
  | succ j ih =>
    intro p N M hp hN
    obtain ⟨N, rfl⟩ : ∃ N', N = N' + 1 := ⟨N - 1, by omega⟩
    obtain ⟨M', e, a1, a2⟩ := ih (p + 1) N (zUp M 122 p (M 122 (p + 1))) (by omega) (by omega)
    refine ⟨M', ?_, fun c hc => (a1 c hc).trans (zUp_off hc), fun i hi => ?_⟩
    · rw [f_X10_waits_L122, if_neg (nI_ge (by omega) (by omega)), nI_1, zCk_t (zIn_n (by omega) (by omega)), zCk_t (zIn_n (by omega) (by omega)), zLt_eq, zIx_n (by omega), zIx_n (by omega)]
      exact e
    · rw [a2 i hi]
      rcases (by omega : i < p ∨ i = p ∨ p < i) with q | q | q
      · rw [if_pos (by omega), if_pos q, zUp_x (by omega)]
      · subst q
        rw [if_pos (by omega), if_neg (by omega), zUp_s]
      · rw [if_neg (by omega), if_neg (by omega), zUp_x (by omega)]
def s_wh (E : zMem) (t : Int32) : Nat → zMem → Int32 → Int32
  | 0, _, x => x
  | j + 1, S, _ => s_wh E t j (s_call E S t) (s_call E S t 1 5)
theorem s_wh_eq (E : zMem) (t : Int32) : ∀ j S, s_wh E t j S (S 1 5) = s_cn E t j S 1 5
  | 0, _ => rfl
  | j + 1, S => by rw [s_wh, s_cn, s_wh_eq E t j]
theorem g_waitsL {E : zMem} {T : Int32} {K : Nat} (hK : K < 24) : ∀ j i N S M m x, i + j = K + 1 → j < N → j ≤ m → zWF S m → zMv E M → zMQ 122 123 S M → ∃ M', f_X10_waits_L76 (nI K) N (nI m) x (nI i) M = some (s_wh E T j S x, M') ∧ (∀ c, c ≠ 122 → c ≠ 123 → M' c = M c) := by
  intro j
  induction j with
  | zero =>
    intro i N S M m x hi hN hm hF hE hQ
    obtain ⟨N, rfl⟩ : ∃ N', N = N' + 1 := ⟨N - 1, by omega⟩
    refine ⟨M, ?_, fun _ _ _ => rfl⟩
    rw [f_X10_waits_L76, if_pos (nI_lt (by omega) (by omega))]
    rfl
  | succ j ih =>
    intro i N S M m x hi hN hm hF hE hQ
    obtain ⟨N, rfl⟩ : ∃ N', N = N' + 1 := ⟨N - 1, by omega⟩
    have hm24 := hF.2.1
    have hxq : zIx (S 1 4) = m := by rw [hF.1, zIx_n (by omega)]
    obtain ⟨hF1, w, hw, ew, hS'⟩ := zWF_call (E := E) T hF (by omega)
    have hp : s_nx E S m < m := zNx_lt _ m (by omega)
    have hr : M 122 (s_nx E S m) = nI w := by rw [hQ.1 _ (by omega), ew]
    have hy : M 123 w = S 3 w := hQ.2 w hw
    obtain ⟨M1, e1, a1, a2⟩ := g_rowL (u := nI K) (k := fun x2 x3 x4 M => f_X10_waits_L76 (nI K) N x2 x3 x4 M) (x3 := nI w) (x4 := nI i) (m := m - 1) (by omega) (m - 1 - s_nx E S m) (s_nx E S m) zFu (zUp M 123 w (S 3 w + 1)) (by omega) (by unfold zFu; omega)
    have hE1 : zMv E M1 := by
      unfold zMv at hE ⊢
      have d : ∀ c, c ≠ 122 → c ≠ 123 → M1 c = M c := fun c x y => by rw [a1 c x, zUp_off y]
      rw [d 78 (by omega) (by omega), d 84 (by omega) (by omega), d 87 (by omega) (by omega), d 81 (by omega) (by omega), d 89 (by omega) (by omega), d 90 (by omega) (by omega), d 91 (by omega) (by omega), d 92 (by omega) (by omega), d 93 (by omega) (by omega)]
      exact hE
    have hQ1 : zMQ 122 123 (s_call E S T) M1 := by
      refine ⟨fun i hi => ?_, fun i hi => ?_⟩
      · rw [hF1.1, zIx_n (by omega)] at hi
        rw [a2 i hi, zUp_c (by omega), zUp_c (by omega), hS']
        simp (disch := omega) only [zUp_c]
        rw [s_deq_2]
        by_cases q : i < s_nx E S m
        · rw [if_pos q, if_pos q, hQ.1 i (by omega)]
        · rw [if_neg q, if_neg q, hQ.1 (i + 1) (by omega)]
      · rw [a1 123 (by omega), hS']
        by_cases q : i = w
        · subst q
          rw [zUp_s, zUp_s]
        · simp (disch := omega) only [zUp_x, zUp_c]
          rw [s_deq_3, hQ.2 i hi]
    have h15 : s_call E S T 1 5 = nI w := by
      rw [hS']
      simp (disch := omega) only [zUp_c, zUp_x, zUp_s]
    obtain ⟨M2, e2, b2⟩ := ih (i + 1) N (s_call E S T) M1 (m - 1) (nI w) (by omega) (by omega) (by omega) hF1 hE1 hQ1
    refine ⟨M2, ?_, fun c x y => by rw [b2 c x y, a1 c x, zUp_off y]⟩
    rw [f_X10_waits_L76, if_neg (nI_nlt (by omega) (by omega)), g_next hE hQ hF (by omega), zBd_some, zCk_t (zIn_n (by omega) (by omega)), zIx_n (by omega), hr, zCk_t (zIn_n hw (by omega)), zCk_t (zIn_n hw (by omega)), zIx_n (by omega), hy, zLt_eq, zd_dec (by omega), e1, nI_1, s_wh, h15]
    exact e2
theorem g_waits0 {S M0 : zMem} {n : Nat} {u : Int32} (hn : n ≤ 24) (h31 : M0 74 31 = nI n) : ∀ k i N M, i + k = 24 → k < N → (∀ c, c ≠ 122 → c ≠ 123 → M c = M0 c) → (∀ j, j < i → M 123 j = M0 110 j ∧ (j < n → M 122 j = M0 109 j)) → ∃ M', f_X10_waits_L18 u N (nI i) M = f_X10_waits_B66 u M' ∧ (∀ c, c ≠ 122 → c ≠ 123 → M' c = M0 c) ∧ (∀ j, j < 24 → M' 123 j = M0 110 j ∧ (j < n → M' 122 j = M0 109 j)) := by
  intro k
  induction k with
  | zero =>
    intro i N M hi hN h1 h2
    obtain ⟨N, rfl⟩ : ∃ N', N = N' + 1 := ⟨N - 1, by omega⟩
    refine ⟨M, ?_, h1, fun j hj => h2 j (by omega)⟩
    rw [f_X10_waits_L18, if_pos (show (24 : Int32) ≤ nI i from nI_le (a := 24) (by omega) (by omega))]
  | succ k ih =>
    intro i N M hi hN h1 h2
    obtain ⟨N, rfl⟩ : ∃ N', N = N' + 1 := ⟨N - 1, by omega⟩
    have h24 : zIn (nI i) 24 := zIn_n (by omega) (by omega)
    have c31 : zUp M 123 i (M 110 i) 74 31 = nI n := by rw [zUp_c (by omega), h1 74 (by omega) (by omega), h31]
    have c109 : zUp M 123 i (M 110 i) 109 i = M0 109 i := by rw [zUp_c (by omega), h1 109 (by omega) (by omega)]
    have c110 : M 110 i = M0 110 i := by rw [h1 110 (by omega) (by omega)]
    have hgo : ∀ v, (i < n → v = M0 109 i) → ∃ M', f_X10_waits_L18 u N (nI (i + 1)) (zUp (zUp M 123 i (M 110 i)) 122 i v) = f_X10_waits_B66 u M' ∧ (∀ c, c ≠ 122 → c ≠ 123 → M' c = M0 c) ∧ (∀ j, j < 24 → M' 123 j = M0 110 j ∧ (j < n → M' 122 j = M0 109 j)) := by
      intro v hv
      refine ih (i + 1) N _ (by omega) (by omega) (fun c x y => by rw [zUp_off x, zUp_off y, h1 c x y]) (fun j hj => ?_)
      by_cases q : j = i
      · subst q
        simp (disch := omega) only [zUp_c, zUp_s]
        exact ⟨c110, hv⟩
      · simp (disch := omega) only [zUp_c, zUp_x]
        exact h2 j (by omega)
    rw [f_X10_waits_L18, if_neg (show ¬ (24 : Int32) ≤ nI i from nI_ge (b := 24) (by omega) (by omega)), zCk_t h24, zCk_t h24, zLt_eq, zIx_n (by omega), c31, zCk_t h24, zCk_t h24, zCk_t h24, zLt_eq, zLt_eq, c109, nI_1]
    by_cases q : i < n
    · rw [if_neg (nI_ge q (by omega))]
      exact hgo _ (fun _ => rfl)
    · rw [if_pos (nI_le (by omega) (by omega))]
      exact hgo _ (fun y => absurd y q)
theorem q_waits (u : Int32) : zCall (f_X9_waits u) (f_X10_waits u) := by
  rintro M hI
  obtain ⟨n, nq, nm, e, t, hL, hE, ⟨hC, hS, hW⟩, hT, hJ⟩ := id hI
  have hF := hW.1.1
  have h24 := hF.2.1
  have hxq : zIx (s_run M n 1 4) = nq := by rw [hF.1, zIx_n (by omega)]
  have c4 : M (21 + 1) 4 = nI nq := by rw [zCF_1 hC.2.1 (by omega) (by omega), hF.1]
  have m31 : M 74 31 = nI nq := by rw [hS.2.1.1, hF.1]
  by_cases q : zIn u nq
  · obtain ⟨K, hK, eK⟩ := zIn_of q
    subst eK
    have h7 : s_run M n 1 7 = 0 ∨ s_run M n 1 7 = 1 := by
      rcases hW.2.2.2.2.1 with ⟨_, _, y⟩ | ⟨_, _, y⟩
      · exact Or.inl y
      · exact y
    obtain ⟨M1, e1, a1, f1⟩ := c_copy hC.2.1 (by omega) h7
    obtain ⟨M2, e2, f2⟩ := c_waitsL (E := M) (T := s_run M n 0 12) (K := K) (by omega) (K + 1) 0 zFu (s_run M n) M1 nq (by omega) (by unfold zFu; omega) (by omega) hF a1 (f1 14 (by omega)) (f1 3 (by omega)) (by rw [f1 21 (by omega)]; exact zCS_0 hC (by omega) (by omega))
    have g2 : ∀ c, c < 61 ∨ 63 < c → M2 c = M c := fun c hc => by rw [f2 c hc, f1 c hc]
    obtain ⟨M3, e3, f3, b3⟩ := g_waits0 (S := s_run M n) (M0 := M2) (u := nI K) h24 (by rw [g2 74 (by omega), m31]) 24 0 zFu M2 (by omega) (by unfold zFu; omega) (fun _ _ _ => rfl) (fun j hj => by omega)
    have hE3 : zMv M M3 := by
      have := hE.2.1
      unfold zMv at this ⊢
      have d : ∀ c, 64 ≤ c → c < 122 → M3 c = M c := fun c x y => by rw [f3 c (by omega) (by omega), g2 c (by omega)]
      rw [d 78 (by omega) (by omega), d 84 (by omega) (by omega), d 87 (by omega) (by omega), d 81 (by omega) (by omega), d 89 (by omega) (by omega), d 90 (by omega) (by omega), d 91 (by omega) (by omega), d 92 (by omega) (by omega), d 93 (by omega) (by omega)]
      exact this
    have hQ3 : zMQ 122 123 (s_run M n) M3 := ⟨fun i hi => by
      rw [(b3 i (by omega)).2 (by omega), g2 109 (by omega)]
      exact hS.2.2.1.1 i hi, fun i hi => by
      rw [(b3 i hi).1, g2 110 (by omega)]
      exact hS.2.2.1.2 i hi⟩
    obtain ⟨M4, e4, f4⟩ := g_waitsL (E := M) (T := s_run M n 0 12) (K := K) (by omega) (K + 1) 0 zFu (s_run M n) M3 nq (-1) (by omega) (by unfold zFu; omega) (by omega) hF hE3 hQ3
    have g4 : ∀ c, c < 61 ∨ (63 < c ∧ c < 122) ∨ 123 < c → M4 c = M c := fun c hc => by rw [f4 c (by omega) (by omega), f3 c (by omega) (by omega), g2 c (by omega)]
    refine ⟨s_cn M (s_run M n 0 12) (K + 1) (s_run M n) 1 5, M2, M4, ?_, ?_, ?_⟩
    · rw [f_X9_waits, if_neg (nI_pos (by omega)), c4, if_pos (nI_lt hK (by omega)), e1, zBd_some]
      exact e2
    · have hval : s_wh M (s_run M n 0 12) (K + 1) (s_run M n) (-1) = s_cn M (s_run M n 0 12) (K + 1) (s_run M n) 1 5 := by rw [s_wh, s_cn, s_wh_eq]
      rw [f_X10_waits, g2 74 (by omega), m31, k_in, zBd_some, yB_t ((in_n (by omega)).mpr q), if_neg (by decide)]
      show f_X10_waits_L18 (nI K) zFu (nI 0) M2 = _
      rw [e3, f_X10_waits_B66, f3 74 (by omega) (by omega), g2 74 (by omega), m31, ← hval]
      exact e4
    · refine zInv_c hL hE ⟨hC, hS, hW⟩ hJ (fun c i hc => ?_) (t := t) ⟨by rw [g4 1 (by omega)]; exact hT.1, by rw [g4 74 (by omega)]; exact hT.2.1, hT.2.2.1, fun i hi => ?_⟩
      · unfold zKp at hc
        rw [g4 c (by omega)]
      · rw [g4 75 (by omega), g4 2 (by omega)]
        exact hT.2.2.2 i hi
  · refine ⟨-1, M, M, ?_, ?_, hI⟩
    · rw [f_X9_waits]
      by_cases c1 : u < 0
      · rw [if_pos c1]
      · obtain ⟨j, hj, ej⟩ := nI_of c1
        subst ej
        rw [if_neg c1, c4, if_neg]
        intro y
        exact q (zIn_n ((nI_ltI hj (by omega)).mp y) (by omega))
    · rw [f_X10_waits, m31, k_in, zBd_some, yB_f (fun y => q ((in_n (by omega)).mp y)), if_pos rfl]
