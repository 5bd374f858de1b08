/-! the mean of a member -/
def yQk (M : zMem) (j m : Nat) : Prop := M (67 + j) m ≠ -1 ∧ M 65 j ≠ M 14 m
def zJp (M : zMem) : Prop := zIJ M ∧ (∀ m, m < 24 → M 93 m = M 14 m)
noncomputable def zLw (M : zMem) (j : Nat) : Nat → Int32
  | 0 => 100
  | i + 1 => zIf (yQk M j i) (zMin (zLw M j i) (M (67 + j) i)) (zLw M j i)
noncomputable def zHg (M : zMem) (j : Nat) : Nat → Int32
  | 0 => 0
  | i + 1 => zIf (yQk M j i) (zMax (zHg M j i) (M (67 + j) i)) (zHg M j i)
noncomputable def zSc (M : zMem) (j m : Nat) : Int32 := if zLw M j 24 = zHg M j 24 then 500 else ((M (67 + j) m - zLw M j 24) * 1000) / (zHg M j 24 - zLw M j 24)
noncomputable def zSu (M : zMem) (m : Nat) : Nat → Int32
  | 0 => 0
  | j + 1 => zIf (yQk M j m) (zSu M m j + zSc M j m) (zSu M m j)
noncomputable def zCo (M : zMem) (m : Nat) : Nat → Nat
  | 0 => 0
  | j + 1 => zIf (yQk M j m) (zCo M m j + 1) (zCo M m j)
noncomputable def zMn (M : zMem) (m : Nat) : Int32 := if zCo M m 6 = 0 then -1 else zSu M m 6 / nI (zCo M m 6)
theorem zCo_le (M : zMem) (m : Nat) : ∀ j, zCo M m j ≤ j
  | 0 => Nat.le_refl _
  | j + 1 => by
    have := zCo_le M m j
    rw [zCo]
    by_cases q : yQk M j m
    · rw [zIf_t q]; omega
    · rw [zIf_f q]; omega
theorem c_counts {M : zMem} {j m : Nat} (hj : j < 6) (hm : m < 24) : f_X1_counts (nI j) (nI m) M = some (zT (yQk M j m), M) := by
  rw [f_X1_counts, if_neg (nI_pos (by omega)), if_neg (show ¬ (6 : Int32) ≤ nI j from nI_ge (b := 6) hj (by omega)), k_isMember, zBd_some, yB_t (zIn_n hm (by omega)), if_neg (by decide), zCk_t (zIn_n hj (by omega)), zCk_t (zIn_n hm (by omega)), zCk_t (zIn_n hj (by omega)), zCk_t (zIn_n hm (by omega)), zIx_n (by omega), zIx_n (by omega)]
  unfold yQk
  by_cases c1 : M (67 + j) m = -1
  · rw [if_pos c1, zT_f (fun y => y.1 c1)]
  rw [if_neg c1]
  by_cases c2 : M 65 j = M 14 m
  · rw [if_pos c2, zT_f (fun y => y.2 c2)]
  · rw [if_neg c2, zT_t ⟨c1, c2⟩]
theorem g_counts {M : zMem} {j m : Nat} (h : zJp M) (hj : j < 6) (hm : m < 24) : f_X10_counts (nI j) (nI m) M = some (zT (yQk M j m), M) := by
  obtain ⟨⟨h1, h2⟩, h3⟩ := h
  rw [f_X10_counts, zCk_t (zIn_n hj (by omega)), zCk_t (zIn_n hm (by omega)), zCk_t (zIn_n hm (by omega)), zCk_t (zIn_n hj (by omega)), zIx_n (by omega), zIx_n (by omega), h3 m hm, h1 j hj]
  unfold yQk
  rcases h2 j m hj hm with ⟨a, b⟩ | ⟨a, b, c⟩
  · rw [a, if_pos rfl, zT_f (fun y => y.1 b)]
  · have hne : ¬ M (67 + j) m = -1 := fun y => by
      rw [y] at c
      exact absurd c.1 (by decide +kernel)
    rw [a, if_neg (by decide)]
    by_cases c2 : M 14 m = M 65 j
    · rw [if_pos c2, zT_f (fun y => y.2 c2.symm)]
    · rw [if_neg c2, zT_t ⟨hne, fun y => c2 y.symm⟩]
theorem c_scaled_L {M : zMem} {j : Nat} {u : Int32} (hj : j < 6) : ∀ k i N, i + k = 24 → k < N → f_X1_scaled_L9 (nI j) u N (zLw M j i) (zHg M j i) (nI i) M = f_X1_scaled_B62 (nI j) u (zLw M j 24) (zHg M j 24) M := by
  intro k
  induction k with
  | zero =>
    intro i N hi hN
    obtain ⟨N, rfl⟩ : ∃ N', N = N' + 1 := ⟨N - 1, by omega⟩
    obtain rfl : i = 24 := by omega
    rw [f_X1_scaled_L9, if_pos (show (24 : Int32) ≤ nI 24 by decide)]
  | succ k ih =>
    intro i N hi hN
    obtain ⟨N, rfl⟩ : ∃ N', N = N' + 1 := ⟨N - 1, by omega⟩
    have e := ih (i + 1) N (by omega) (by omega)
    rw [zLw, zHg] at e
    have h6 : zIn (nI j) 6 := zIn_n hj (by omega)
    have h24 : zIn (nI i) 24 := zIn_n (by omega) (by omega)
    rw [f_X1_scaled_L9, if_neg (show ¬ (24 : Int32) ≤ nI i from nI_ge (b := 24) (by omega) (by omega)), c_counts hj (by omega), zBd_some, nI_1]
    by_cases q : yQk M j i
    · rw [zIf_t q, zIf_t q] at e
      rw [zT_t q, if_neg (by decide), zCk_t h6, zCk_t h24, zCk_t h6, zCk_t h24, zIx_n (by omega), zIx_n (by omega)]
      exact e
    · rw [zIf_f q, zIf_f q] at e
      rw [zT_f q, if_pos rfl]
      exact e
theorem g_scaled_L {M : zMem} {j : Nat} {u : Int32} (h : zJp M) (hj : j < 6) : ∀ k i N, i + k = 24 → k < N → f_X10_scaled_L9 (nI j) u N (zLw M j i) (zHg M j i) (nI i) M = f_X10_scaled_B89 (nI j) u (zLw M j 24) (zHg M j 24) M := by
  intro k
  induction k with
  | zero =>
    intro i N hi hN
    obtain ⟨N, rfl⟩ : ∃ N', N = N' + 1 := ⟨N - 1, by omega⟩
    obtain rfl : i = 24 := by omega
    rw [f_X10_scaled_L9, if_pos (show (24 : Int32) ≤ nI 24 by decide)]
  | succ k ih =>
    intro i N hi hN
    obtain ⟨N, rfl⟩ : ∃ N', N = N' + 1 := ⟨N - 1, by omega⟩
    have e := ih (i + 1) N (by omega) (by omega)
    rw [zLw, zHg] at e
    have h6 : zIn (nI j) 6 := zIn_n hj (by omega)
    have h24 : zIn (nI i) 24 := zIn_n (by omega) (by omega)
    rw [f_X10_scaled_L9, if_neg (show ¬ (24 : Int32) ≤ nI i from nI_ge (b := 24) (by omega) (by omega)), g_counts h hj (by omega), zBd_some, nI_1]
    by_cases q : yQk M j i
    · have hp : M (126 + j) i = M (67 + j) i := by
        rcases h.1.2 j i hj (by omega) with ⟨_, b⟩ | ⟨_, b, _⟩
        · exact absurd b q.1
        · exact b
      rw [zIf_t q, zIf_t q] at e
      rw [zT_t q, if_neg (by decide), zCk_t h6, zCk_t h24, zCk_t h6, zCk_t h24, zIx_n (by omega), zIx_n (by omega), hp]
      have hB : ∀ y, f_X10_scaled_B52 (nI j) u (fun x3 x4 x5 M => f_X10_scaled_L9 (nI j) u N x3 x4 x5 M) (zHg M j i) (nI i) y M = f_X10_scaled_L9 (nI j) u N y (zMax (zHg M j i) (M (67 + j) i)) (nI (i + 1)) M := by
        intro y
        rw [f_X10_scaled_B52, zCk_t h6, zCk_t h24, zCk_t h6, zCk_t h24, zIx_n (by omega), zIx_n (by omega), hp, nI_1]
        show _ = f_X10_scaled_L9 (nI j) u N y (if zHg M j i < M (67 + j) i then M (67 + j) i else zHg M j i) (nI (i + 1)) M
        by_cases c : M (67 + j) i ≤ zHg M j i
        · rw [if_pos c, if_neg (Int32.not_lt.mpr c)]
        · rw [if_neg c, if_pos (Int32.not_le.mp c)]
      rw [hB, hB, ← e]
      show _ = f_X10_scaled_L9 (nI j) u N (if M (67 + j) i < zLw M j i then M (67 + j) i else zLw M j i) _ _ M
      by_cases c : zLw M j i ≤ M (67 + j) i
      · rw [if_pos c, if_neg (Int32.not_lt.mpr c)]
      · rw [if_neg c, if_pos (Int32.not_le.mp c)]
    · rw [zIf_f q, zIf_f q] at e
      rw [zT_f q, if_pos rfl]
      exact e
/-- what counts lies between the least and the greatest -/
theorem zLw_b {M : zMem} {j m : Nat} (hq : yQk M j m) : ∀ i, m < i → zLw M j i ≤ M (67 + j) m ∧ M (67 + j) m ≤ zHg M j i
  | 0, h => by omega
  | i + 1, h => by
    rw [zLw, zHg]
    by_cases e : m = i
    · subst e
      rw [zIf_t hq, zIf_t hq]
      constructor
      · show (if M (67 + j) m < zLw M j m then M (67 + j) m else zLw M j m) ≤ _
        by_cases c : M (67 + j) m < zLw M j m
        · rw [if_pos c]; exact Int32.le_refl _
        · rw [if_neg c]; exact Int32.not_lt.mp c
      · show _ ≤ (if zHg M j m < M (67 + j) m then M (67 + j) m else zHg M j m)
        by_cases c : zHg M j m < M (67 + j) m
        · rw [if_pos c]; exact Int32.le_refl _
        · rw [if_neg c]; exact Int32.not_lt.mp c
    · have ih := zLw_b hq i (by omega)
      by_cases q : yQk M j i
      · rw [zIf_t q, zIf_t q]
        constructor
        · show (if M (67 + j) i < zLw M j i then M (67 + j) i else zLw M j i) ≤ _
          by_cases c : M (67 + j) i < zLw M j i
          · rw [if_pos c]; exact Int32.le_trans (Int32.le_of_lt c) ih.1
          · rw [if_neg c]; exact ih.1
        · show _ ≤ (if zHg M j i < M (67 + j) i then M (67 + j) i else zHg M j i)
          by_cases c : zHg M j i < M (67 + j) i
          · rw [if_pos c]; exact Int32.le_trans ih.2 (Int32.le_of_lt c)
          · rw [if_neg c]; exact ih.2
      · rw [zIf_f q, zIf_f q]; exact ih
theorem zd_sub0 {x y : Int32} (h : x ≠ y) : ¬ x - y = 0 := fun e => by
  refine h ?_
  have := Int32.sub_add_cancel x y
  rw [e, Int32.zero_add] at this
  exact this.symm
theorem c_scaled {M : zMem} {j m : Nat} (hj : j < 6) (hm : m < 24) (hq : yQk M j m) : f_X1_scaled (nI j) (nI m) M = some (zSc M j m, M) := by
  have hb := zLw_b hq 24 hm
  rw [f_X1_scaled]
  show f_X1_scaled_L9 (nI j) (nI m) zFu (zLw M j 0) (zHg M j 0) (nI 0) M = _
  rw [c_scaled_L hj 24 0 zFu (by omega) (by unfold zFu; omega), f_X1_scaled_B62]
  unfold zSc
  by_cases c : zLw M j 24 = zHg M j 24
  · rw [if_pos c, if_pos (by rw [c]; exact Int32.le_refl _)]
  · rw [if_neg c, if_neg (fun y => c (Int32.le_antisymm (Int32.le_trans hb.1 hb.2) y)), zCk_t (zIn_n hj (by omega)), zCk_t (zIn_n hm (by omega)), zCk_t (zd_sub0 (fun y => c y.symm)), zIx_n (by omega), zIx_n (by omega)]
theorem g_scaled {M : zMem} {j m : Nat} (h : zJp M) (hj : j < 6) (hm : m < 24) (hq : yQk M j m) : f_X10_scaled (nI j) (nI m) M = some (zSc M j m, M) := by
  have hp : M (126 + j) m = M (67 + j) m := by
    rcases h.1.2 j m hj hm with ⟨_, b⟩ | ⟨_, b, _⟩
    · exact absurd b hq.1
    · exact b
  rw [f_X10_scaled]
  show f_X10_scaled_L9 (nI j) (nI m) zFu (zLw M j 0) (zHg M j 0) (nI 0) M = _
  rw [g_scaled_L h hj 24 0 zFu (by omega) (by unfold zFu; omega), f_X10_scaled_B89]
  unfold zSc
  by_cases c : zLw M j 24 = zHg M j 24
  · rw [if_pos c, if_pos c]
  · rw [if_neg c, if_neg c, zCk_t (zIn_n hj (by omega)), zCk_t (zIn_n hm (by omega)), zCk_t (zd_sub0 (fun y => c y.symm)), zIx_n (by omega), zIx_n (by omega), hp]
theorem c_mean_L {M : zMem} {m : Nat} (hm : m < 24) : ∀ k j N, j + k = 6 → k < N → f_X1_meanOf_L7 (nI m) N (zSu M m j) (nI (zCo M m j)) (nI j) M = some (zMn M m, M) := by
  intro k
  induction k with
  | zero =>
    intro j N hj hN
    obtain ⟨N, rfl⟩ : ∃ N', N = N' + 1 := ⟨N - 1, by omega⟩
    obtain rfl : j = 6 := by omega
    have hc := zCo_le M m 6
    rw [f_X1_meanOf_L7, if_pos (show (6 : Int32) ≤ nI 6 by decide), f_X1_meanOf_B43]
    unfold zMn
    by_cases c : zCo M m 6 = 0
    · rw [if_pos c, if_pos (by rw [c]; decide)]
    · rw [if_neg c, if_neg (nI_nle (by omega) (by omega)), zCk_t (nI_ne0 (by omega) (by omega))]
  | succ k ih =>
    intro j N hj hN
    obtain ⟨N, rfl⟩ : ∃ N', N = N' + 1 := ⟨N - 1, by omega⟩
    have e := ih (j + 1) N (by omega) (by omega)
    rw [zSu, zCo] at e
    rw [f_X1_meanOf_L7, if_neg (show ¬ (6 : Int32) ≤ nI j from nI_ge (b := 6) (by omega) (by omega)), c_counts (by omega) hm, zBd_some, nI_1]
    by_cases q : yQk M j m
    · rw [zIf_t q, zIf_t q] at e
      rw [zT_t q, if_neg (by decide), c_scaled (by omega) hm q, zBd_some, nI_1]
      exact e
    · rw [zIf_f q, zIf_f q] at e
      rw [zT_f q, if_pos rfl]
      exact e
theorem c_mean {M : zMem} {m : Nat} (hm : m < 24) : f_X1_meanOf (nI m) M = some (zMn M m, M) := c_mean_L hm 6 0 zFu (by omega) (by unfold zFu; omega)
theorem g_mean_L {M : zMem} {m : Nat} (h : zJp M) (hm : m < 24) : ∀ k j N, j + k = 6 → k < N → f_X10_mean_L7 (nI m) N (zSu M m j) (nI (zCo M m j)) (nI j) M = some (zMn M m, M) := by
  have h23 := zd_in23.mpr (zIn_n (n := m) (N := 24) hm (by omega))
  intro k
  induction k with
  | zero =>
    intro j N hj hN
    obtain ⟨N, rfl⟩ : ∃ N', N = N' + 1 := ⟨N - 1, by omega⟩
    obtain rfl : j = 6 := by omega
    have hc := zCo_le M m 6
    rw [f_X10_mean_L7, k_in, zBd_some, yB_t h23, if_neg (by decide), if_pos (show (6 : Int32) ≤ nI 6 by decide), f_X10_mean_B53]
    unfold zMn
    by_cases c : zCo M m 6 = 0
    · rw [if_pos c, if_pos (by rw [c]; decide)]
    · rw [if_neg c, if_neg (nI_ne0 (by omega) (by omega)), zCk_t (nI_ne0 (by omega) (by omega))]
  | succ k ih =>
    intro j N hj hN
    obtain ⟨N, rfl⟩ : ∃ N', N = N' + 1 := ⟨N - 1, by omega⟩
    have e := ih (j + 1) N (by omega) (by omega)
    rw [zSu, zCo] at e
    rw [f_X10_mean_L7, k_in, zBd_some, yB_t h23, if_neg (by decide), if_neg (show ¬ (6 : Int32) ≤ nI j from nI_ge (b := 6) (by omega) (by omega)), g_counts h (by omega) hm, zBd_some, nI_1]
    by_cases q : yQk M j m
    · rw [zIf_t q, zIf_t q] at e
      rw [zT_t q, if_neg (by decide), g_scaled h (by omega) hm q, zBd_some, nI_1]
      exact e
    · rw [zIf_f q, zIf_f q] at e
      rw [zT_f q, if_pos rfl]
      exact e
theorem g_mean {M : zMem} {m : Nat} (h : zJp M) (hm : m < 24) : f_X10_mean (nI m) M = some (zMn M m, M) := g_mean_L h hm 6 0 zFu (by omega) (by unfold zFu; omega)
theorem c_mean_no {M : zMem} {u : Int32} (hu : ¬ zIn u 24) : ∀ k j N, j + k = 6 → k < N → f_X1_meanOf_L7 u N 0 0 (nI j) M = some (-1, M) := by
  intro k
  induction k with
  | zero =>
    intro j N hj hN
    obtain ⟨N, rfl⟩ : ∃ N', N = N' + 1 := ⟨N - 1, by omega⟩
    obtain rfl : j = 6 := by omega
    rw [f_X1_meanOf_L7, if_pos (show (6 : Int32) ≤ nI 6 by decide), f_X1_meanOf_B43, if_pos (by decide)]
  | succ k ih =>
    intro j N hj hN
    obtain ⟨N, rfl⟩ : ∃ N', N = N' + 1 := ⟨N - 1, by omega⟩
    rw [f_X1_meanOf_L7, if_neg (show ¬ (6 : Int32) ≤ nI j from nI_ge (b := 6) (by omega) (by omega)), f_X1_counts, if_neg (nI_pos (by omega)), if_neg (show ¬ (6 : Int32) ≤ nI j from nI_ge (b := 6) (by omega) (by omega)), k_isMember, zBd_some, yB_f hu, if_pos rfl, zBd_some, if_pos rfl, nI_1]
    exact ih (j + 1) N (by omega) (by omega)
theorem q_mean (u : Int32) : zCall (f_X9_mean u) (f_X10_mean u) := by
  rintro M hI
  obtain ⟨n, nq, nm, e, t, hL, hE, hS, hT, hJ⟩ := id hI
  by_cases q : zIn u 24
  · obtain ⟨m, hm, em⟩ := zIn_of q
    subst em
    refine ⟨zMn M m, M, M, ?_, g_mean ⟨hJ, hE.2.1.2.2.2.2.2⟩ hm, hI⟩
    rw [f_X9_mean, c_mean hm, zBd_some]
  · refine ⟨-1, M, M, ?_, ?_, hI⟩
    · rw [f_X9_mean, f_X1_meanOf]
      show zBd (f_X1_meanOf_L7 u zFu 0 0 (nI 0) M) _ = _
      rw [c_mean_no q 6 0 zFu (by omega) (by unfold zFu; omega), zBd_some]
    · rw [f_X10_mean]
      show f_X10_mean_L7 u (1999 + 1) 0 0 0 M = _
      rw [f_X10_mean_L7, k_in, zBd_some, yB_f (fun y => q (zd_in23.mp y)), if_pos rfl, f_X10_mean_B53, if_pos rfl]
