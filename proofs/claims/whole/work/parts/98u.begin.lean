/-! ===== what the constructors leave ===== -/
theorem j_54 {K : Int32 → zMem → zTr} {j : Nat} (hj : j < 6) : ∀ k m N M, m + k = 24 → k < N → ∃ M', f_X1_init_L54 K N (nI j) (nI m) M = K (nI (j + 1)) M' ∧ (∀ c, c ≠ 67 + j → M' c = M c) ∧ (∀ n, n < 24 → (m ≤ n → M' (67 + j) n = -1) ∧ (n < m → M' (67 + j) n = M (67 + j) n)) := by
  intro k
  induction k with
  | zero =>
    intro m N M hm hN
    obtain ⟨N, rfl⟩ : ∃ N', N = N' + 1 := ⟨N - 1, by omega⟩
    refine ⟨M, ?_, fun _ _ => rfl, fun n hn => ⟨fun x => by omega, fun _ => rfl⟩⟩
    rw [f_X1_init_L54, if_pos (show (24 : Int32) ≤ nI m from nI_le (a := 24) (by omega) (by omega)), nI_1]
  | succ k ih =>
    intro m N M hm hN
    obtain ⟨N, rfl⟩ : ∃ N', N = N' + 1 := ⟨N - 1, by omega⟩
    obtain ⟨M', e, a1, a2⟩ := ih (m + 1) N (zUp M (67 + j) m (-1)) (by omega) (by omega)
    refine ⟨M', ?_, fun c hc => ?_, fun n hn => ⟨fun x => ?_, fun x => ?_⟩⟩
    · rw [f_X1_init_L54, if_neg (show ¬ (24 : Int32) ≤ nI m from nI_ge (b := 24) (by omega) (by omega)), zCk_t (zIn_n (by omega) (by omega)), zCk_t (zIn_n (by omega) (by omega)), zLt_eq, zIx_n (by omega), zIx_n (by omega), nI_1]
      exact e
    · rw [a1 c hc, zUp_off hc]
    · by_cases q : n = m
      · subst q
        rw [(a2 n hn).2 (by omega), zUp_s]
      · exact (a2 n hn).1 (by omega)
    · rw [(a2 n hn).2 (by omega), zUp_i (by omega)]
theorem j_39 : ∀ k j N M, j + k = 6 → k < N → (∀ j', j' < j → M 65 j' = -1 ∧ ∀ m, m < 24 → M (67 + j') m = -1) → ∃ M', f_X1_init_L39 N (nI j) M = some (0, M') ∧ (∀ c, c < 65 ∨ c = 66 ∨ 72 < c → M' c = M c) ∧ (∀ j', j' < 6 → M' 65 j' = -1 ∧ ∀ m, m < 24 → M' (67 + j') m = -1) := by
  intro k
  induction k with
  | zero =>
    intro j N M hj hN h
    obtain ⟨N, rfl⟩ : ∃ N', N = N' + 1 := ⟨N - 1, by omega⟩
    refine ⟨M, ?_, fun _ _ => rfl, fun j' hj' => h j' (by omega)⟩
    rw [f_X1_init_L39, if_pos (show (6 : Int32) ≤ nI j from nI_le (a := 6) (by omega) (by omega))]
  | succ k ih =>
    intro j N M hj hN h
    obtain ⟨N, rfl⟩ : ∃ N', N = N' + 1 := ⟨N - 1, by omega⟩
    obtain ⟨M1, e1, a1, a2⟩ := j_54 (K := fun x2 M => f_X1_init_L39 N x2 M) (j := j) (by omega) 24 0 zFu (zUp M 65 j (-1)) (by omega) (by unfold zFu; omega)
    obtain ⟨M', e2, b1, b2⟩ := ih (j + 1) N M1 (by omega) (by omega) (fun j' hj' => by
      rw [a1 65 (by omega)]
      by_cases q : j' = j
      · subst q
        exact ⟨zUp_s, fun m hm => (a2 m hm).1 (by omega)⟩
      · rw [zUp_i q, a1 (67 + j') (by omega), zUp_off (by omega)]
        exact h j' (by omega))
    refine ⟨M', ?_, fun c hc => ?_, b2⟩
    · rw [f_X1_init_L39, if_neg (show ¬ (6 : Int32) ≤ nI j from nI_ge (b := 6) (by omega) (by omega)), zCk_t (zIn_n (by omega) (by omega)), zLt_eq, zIx_n (by omega)]
      exact e1.trans e2
    · rw [b1 c hc, a1 c (by omega), zUp_off (by omega)]
theorem zNotIn {ls : List Nat} {n c : Nat} (h : ∀ c, c < n → 0 < c → c ∈ ls) (hc : c ∉ ls) : c = 0 ∨ n ≤ c := by
  by_cases q : c = 0
  · exact Or.inl q
  · by_cases r : c < n
    · exact absurd (h c r (by omega)) hc
    · exact Or.inr (by omega)
def zM0 : zMem := fun _ _ => 0
def zMk (M : zMem) : zMem := zUp (zUp (zUp (zUp (zUp (zUp (zUp (zUp (zUp (zUp (zUp M 89 0 60) 89 1 60) 92 0 1) 92 1 1) 124 0 (-1)) 124 1 (-1)) 124 2 (-1)) 124 3 (-1)) 124 4 (-1)) 124 5 (-1)) 74 26 (-1)
theorem b_inv : ∃ M3 M8 M21 M41 M64 M1 : zMem, (f_X6_clear 3 zM0 = some (0, M3) ∧ (∀ c, c = 0 ∨ 8 ≤ c → ∀ i, M3 c i = 0)) ∧ (f_X6_clear 8 M3 = some (0, M8) ∧ (∀ c, c = 0 ∨ 13 ≤ c → ∀ i, M8 c i = 0)) ∧ (f_X7_startAnew 21 (zUp M8 22 5 (-1)) = some (0, M21) ∧ (∀ c, c = 0 ∨ 41 ≤ c → ∀ i, M21 c i = 0)) ∧ (f_X7_startAnew 41 (zUp M21 42 5 (-1)) = some (0, M41) ∧ (∀ c, c = 0 ∨ 61 ≤ c → ∀ i, M41 c i = 0)) ∧ (f_X1_init (zUp M41 61 5 (-1)) = some (0, M64) ∧ (∀ c, c = 0 ∨ 74 ≤ c → ∀ i, M64 c i = 0)) ∧ f_X10_begin (zMk M64) = some (0, M1) ∧ zInv M1 := by
  obtain ⟨M3, e3, a1, a2, a3, a4, a5, a6, a7⟩ := k_clear 3 zM0
  have z3 : ∀ c, c < 3 ∨ 8 ≤ c → ∀ i, M3 c i = 0 := fun c hc i => by rw [a1 c (by omega)]; rfl
  obtain ⟨M8, e8, b1, _⟩ := k_clear 8 M3
  have z8 : ∀ c, c < 3 ∨ 13 ≤ c → ∀ i, M8 c i = 0 := fun c hc i => by rw [b1 c (by omega)]; exact z3 c (by omega) i
  obtain ⟨M21, e21, c1, c2⟩ := k_start (o := 21) (E := zUp M8 22 5 (-1)) (M := zUp M8 22 5 (-1)) (by omega) rfl
  have z21 : ∀ c, c < 3 ∨ (13 ≤ c ∧ c < 21) ∨ 41 ≤ c → ∀ i, M21 c i = 0 := fun c hc i => by rw [c2 c (by omega), zUp_c (by omega)]; exact z8 c (by omega) i
  obtain ⟨M41, e41, d1, d2⟩ := k_start (o := 41) (E := zUp M21 42 5 (-1)) (M := zUp M21 42 5 (-1)) (by omega) rfl
  have z41 : ∀ c, c < 3 ∨ (13 ≤ c ∧ c < 21) ∨ 61 ≤ c → ∀ i, M41 c i = 0 := fun c hc i => by rw [d2 c (by omega), zUp_c (by omega)]; exact z21 c (by omega) i
  obtain ⟨M64, e64, f1, f2⟩ := j_39 6 0 zFu (zUp M41 61 5 (-1)) (by omega) (by unfold zFu; omega) (fun j hj => by omega)
  have z64 : ∀ c, c < 3 ∨ (13 ≤ c ∧ c < 21) ∨ 74 ≤ c → ∀ i, M64 c i = 0 := fun c hc i => by rw [f1 c (by omega), zUp_c (by omega)]; exact z41 c (by omega) i
  have l3 : ∀ c, 3 ≤ c → c < 8 → ∀ i, M64 c i = M3 c i := fun c h1 h2 i => by
    rw [f1 c (by omega), zUp_c (by omega), d2 c (by omega), zUp_c (by omega), c2 c (by omega), zUp_c (by omega), b1 c (by omega)]
  have l21 : ∀ c, 21 ≤ c → c < 41 → M64 c = M21 c := fun c h1 h2 => by
    rw [f1 c (by omega), zUp_off (by omega), d2 c (by omega), zUp_off (by omega)]
  have k74 : ∀ c i, c ≠ 89 → c ≠ 92 → c ≠ 124 → (c = 74 → i ≠ 26) → zMk M64 c i = M64 c i := fun c i h1 h2 h3 h4 => by
    unfold zMk
    rw [show ∀ (X : zMem) (v : Int32), zUp X 74 26 v c i = X c i from fun X v => if_neg (by omega)]
    simp (disch := omega) only [zUp_c]
  have k89 : zMk M64 89 0 = 60 := by
    unfold zMk
    simp (disch := omega) only [zUp_c, zUp_i, zUp_s]
  have k92 : zMk M64 92 0 = 1 := by
    unfold zMk
    simp (disch := omega) only [zUp_c, zUp_i, zUp_s]
  have k124 : ∀ j, j < 6 → zMk M64 124 j = -1 := fun j hj => by
    unfold zMk
    rcases (by omega : j = 0 ∨ j = 1 ∨ j = 2 ∨ j = 3 ∨ j = 4 ∨ j = 5) with q | q | q | q | q | q <;> (subst q; simp (disch := omega) only [zUp_c, zUp_i, zUp_s])
  have m34 : M64 3 4 = 60 := by rw [l3 3 (by omega) (by omega), a3]
  obtain ⟨M1, e1, g1, g2, g3⟩ := g_begin (E := M64) (sd := 0) (M := zMk M64) (by omega) (by rw [k74 74 25 (by omega) (by omega) (by omega) (by omega)]; exact z64 74 (by omega) 25) (by rw [k89, m34])
  have h1 : ∀ c i, c < 74 → M1 c i = M64 c i := fun c i hc => by rw [g2 c (by omega), k74 c i (by omega) (by omega) (by omega) (by omega)]
  have h2 : ∀ c i, 74 < c → c < 100 ∨ (121 < c ∧ c < 141) → c ≠ 89 → c ≠ 92 → c ≠ 124 → M1 c i = 0 := fun c i p1 p2 p3 p4 p5 => by
    rw [g2 c (by omega), k74 c i p3 p4 p5 (by omega)]
    exact z64 c (by omega) i
  have n34 : M1 3 4 = 60 := by rw [h1 3 4 (by omega), m34]
  refine ⟨M3, M8, M21, M41, M64, M1, ⟨e3, fun c hc => z3 c (by omega)⟩, ⟨e8, fun c hc => z8 c (by omega)⟩, ⟨e21, fun c hc => z21 c (by omega)⟩, ⟨e41, fun c hc => z41 c (by omega)⟩, ⟨e64, fun c hc => z64 c (by omega)⟩, e1, ?_⟩
  have r4 : ∀ j, j < 8 → M1 4 j = 0 ∧ M1 5 j = -1 ∧ M1 6 j = 0 ∧ M1 7 j = 0 := fun j hj => by
    rw [h1 4 j (by omega), h1 5 j (by omega), h1 6 j (by omega), h1 7 j (by omega), l3 4 (by omega) (by omega), l3 5 (by omega) (by omega), l3 6 (by omega) (by omega), l3 7 (by omega) (by omega)]
    exact a7 j hj
  have n35 : M1 3 5 = 0 := by rw [h1 3 5 (by omega), l3 3 (by omega) (by omega), a4]
  have n36 : M1 3 6 = 0 := by rw [h1 3 6 (by omega), l3 3 (by omega) (by omega), a5]
  have n37 : M1 3 7 = 1 := by rw [h1 3 7 (by omega), l3 3 (by omega) (by omega), a6]
  refine ⟨0, 0, 0, 0, 0, ⟨?_, ?_, by omega, fun i hi => by omega⟩, ⟨⟨fun d hd => ?_, ?_, ?_, ?_⟩, ⟨fun k hk => ?_, ?_, ?_, ?_, ?_, fun m hm => ?_⟩, fun d hd _ => (r4 d hd).2.1⟩, ⟨?_, ?_, ?_⟩, ⟨?_, ?_, by omega, fun i hi => by omega⟩, ⟨fun j hj => ?_, fun j m hj hm => ?_⟩⟩
  · rw [h1 15 5 (by omega)]
    exact z64 15 (by omega) 5
  · rw [g3 16 (by omega), k74 74 16 (by omega) (by omega) (by omega) (by omega)]
    exact z64 74 (by omega) 16
  · obtain ⟨x1, x2, x3, x4⟩ := r4 d hd
    rw [x1, x3, x4]
    exact ⟨by decide, fun y => absurd y (by decide), Or.inl rfl, Or.inl rfl⟩
  · rw [n34]; decide
  · rw [n36]; exact Or.inl rfl
  · rw [n37]; exact Or.inr rfl
  · obtain ⟨x1, x2, x3, x4⟩ := r4 k hk
    rw [x1, x3, x4, h2 78 k (by omega) (by omega) (by omega) (by omega) (by omega), h2 84 k (by omega) (by omega) (by omega) (by omega) (by omega), h2 87 k (by omega) (by omega) (by omega) (by omega) (by omega)]
    exact ⟨rfl, rfl, rfl, fun y => absurd rfl y⟩
  · rw [g2 89 (by omega), k89, n34]
  · rw [h2 90 0 (by omega) (by omega) (by omega) (by omega) (by omega), n35]
  · rw [h2 91 0 (by omega) (by omega) (by omega) (by omega) (by omega), n36]
  · rw [g2 92 (by omega), k92, n37]
  · rw [h2 93 m (by omega) (by omega) (by omega) (by omega) (by omega), h1 14 m (by omega)]
    exact (z64 14 (by omega) m).symm
  · show zCS 21 (s_init M1) M1
    rw [s_init_e (E := zUp M8 22 5 (-1)) (by rw [n34, zUp_c (by omega), b1 3 (by omega), a3])]
    exact zCS_c c1 (fun c p1 p2 => by
      funext i
      rw [h1 c i (by omega), l21 c (by omega) (by omega)])
  · show zMS (s_init M1) M1 0 0 0
    rw [s_init_e (E := M64) (by rw [n34, m34])]
    exact g1
  · show zWA M1 (s_init M1) 0 0 0 0
    exact zWA_init (by rw [n34]; decide)
  · rw [h1 1 1 (by omega)]
    exact z64 1 (by omega) 1
  · rw [g3 2 (by omega), k74 74 2 (by omega) (by omega) (by omega) (by omega)]
    exact z64 74 (by omega) 2
  · rw [g2 124 (by omega), k124 j hj, h1 65 j (by omega)]
    exact (f2 j hj).1.symm
  · left
    rw [h2 (133 + j) m (by omega) (by omega) (by omega) (by omega) (by omega), h1 (67 + j) m (by omega)]
    exact ⟨rfl, (f2 j hj).2 m hm⟩
