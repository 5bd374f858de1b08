/-! the reference's clauses: one set in, one gone -/
theorem g_addsL {u t : Int32} {p n : Nat} (hp : p ≤ n) (hn : n < 60) (hu : u = nI p) : ∀ k N M, k + p ≤ n → k < N → ∃ M', f_X10_adds_L5 u t N (nI (k + p)) M = f_X10_adds_B44 u t M' ∧ (∀ c, c ≠ 119 → c ≠ 120 → M' c = M c) ∧ (∀ i, M' 119 i = if p < i ∧ i ≤ k + p then M 119 (i - 1) else M 119 i) ∧ (∀ i, M' 120 i = if p < i ∧ i ≤ k + p then M 120 (i - 1) else M 120 i) := by
  subst hu
  intro k
  induction k with
  | zero =>
    intro N M hk hN
    obtain ⟨N, rfl⟩ : ∃ N', N = N' + 1 := ⟨N - 1, by omega⟩
    refine ⟨M, ?_, fun _ _ _ => rfl, fun i => by rw [if_neg (by omega)], fun i => by rw [if_neg (by omega)]⟩
    rw [f_X10_adds_L5]
    simp (disch := omega) only [zl_2, zl_3, zl_4, zl_5, zl_6, zl_7, zl_8, zl_12, zl_20, zl_24, zl_28, zl_40, zl_60, zl_300, zl_320, zl_400, zl_600, zd_lt0, zd_l0n, zd_l0y, zd_0lt, zd_1lt, zd_1lty, zd_e0n, zd_e0y, zd_e1n, zd_e1y, zd_nn, zd_ny, zd_mn, zd_my, zd_en, zd_ey, zd_e1, zd_in, zCk_T, zIx_n, nI_1, nI_add, zd_sub, zd_dec, if_true, if_false, ite_true, ite_false]
  | succ k ih =>
    intro N M hk hN
    obtain ⟨N, rfl⟩ : ∃ N', N = N' + 1 := ⟨N - 1, by omega⟩
    obtain ⟨M', e1, a1, a2, a3⟩ := ih N (zUp (zUp M 119 (k + 1 + p) (M 119 (k + p))) 120 (k + 1 + p) (M 120 (k + p))) (by omega) (by omega)
    have e2 : k + 1 + p - 1 = k + p := by omega
    refine ⟨M', ?_, fun c h1 h2 => (a1 c h1 h2).trans ((zUp_off h2).trans (zUp_off h1)), fun i => ?_, fun i => ?_⟩
    · rw [f_X10_adds_L5]
      simp (disch := omega) only [zl_2, zl_3, zl_4, zl_5, zl_6, zl_7, zl_8, zl_12, zl_20, zl_24, zl_28, zl_40, zl_60, zl_300, zl_320, zl_400, zl_600, zd_lt0, zd_l0n, zd_l0y, zd_0lt, zd_1lt, zd_1lty, zd_e0n, zd_e0y, zd_e1n, zd_e1y, zd_nn, zd_ny, zd_mn, zd_my, zd_en, zd_ey, zd_e1, zd_in, zCk_T, zIx_n, nI_1, nI_add, zd_sub, zd_dec, if_true, if_false, ite_true, ite_false, zBd_some, zLt_eq, zUp_s, zUp_c, zUp_i, zCk_t]
      rw [e2]
      exact e1
    · rw [a2 i, zUp_off (show (119 : Nat) ≠ 120 by omega)]
      rcases (by omega : (p < i ∧ i ≤ k + p) ∨ i = k + 1 + p ∨ ¬ (p < i ∧ i ≤ k + 1 + p)) with q | q | q
      · rw [if_pos q, if_pos (by omega), zUp_x (by omega)]
      · subst q
        rw [if_neg (by omega), if_pos (by omega), zUp_s, e2]
      · rw [if_neg (by omega), if_neg q, zUp_x (by omega)]
    · rw [a3 i]
      rcases (by omega : (p < i ∧ i ≤ k + p) ∨ i = k + 1 + p ∨ ¬ (p < i ∧ i ≤ k + 1 + p)) with q | q | q
      · rw [if_pos q, if_pos (by omega), zUp_x (by omega), zUp_c (by omega)]
      · subst q
        rw [if_neg (by omega), if_pos (by omega), zUp_s, e2]
      · rw [if_neg (by omega), if_neg q, zUp_x (by omega), zUp_c (by omega)]
theorem g_adds {M : zMem} {p n : Nat} (hp : p ≤ n) (hn : n < 60) (h49 : M 74 49 = nI n) (t : Int32) : ∃ M', f_X10_adds (nI p) t M = some (0, M') ∧ (∀ c, c ≠ 119 → c ≠ 120 → c ≠ 74 → M' c = M c) ∧ (∀ i, i ≠ 49 → i ≠ 50 → M' 74 i = M 74 i) ∧ M' 74 49 = nI (n + 1) ∧ M' 74 50 = M 74 50 + 1 ∧ (∀ i, i ≤ n → M' 119 i = if i < p then M 119 i else if i = p then M 74 50 else M 119 (i - 1)) ∧ (∀ i, i ≤ n → M' 120 i = if i < p then M 120 i else if i = p then t else M 120 (i - 1)) := by
  obtain ⟨M1, e1, a1, a2, a3⟩ := g_addsL (t := t) hp hn rfl (n - p) zFu M (by omega) (by unfold zFu; omega)
  have e2 : n - p + p = n := by omega
  rw [e2] at e1 a2 a3
  have b49 : M1 74 49 = nI n := by rw [a1 74 (by omega) (by omega), h49]
  have b50 : M1 74 50 = M 74 50 := by rw [a1 74 (by omega) (by omega)]
  refine ⟨zUp (zUp (zUp (zUp M1 119 p (M 74 50)) 120 p t) 74 50 (M 74 50 + 1)) 74 49 (nI (n + 1)), ?_, ?_, ?_, ?_, ?_, ?_, ?_⟩
  · rw [f_X10_adds, h49, e1, f_X10_adds_B44, b50]
    simp (disch := omega) only [zl_2, zl_3, zl_4, zl_5, zl_6, zl_7, zl_8, zl_12, zl_20, zl_24, zl_28, zl_40, zl_60, zl_300, zl_320, zl_400, zl_600, zd_lt0, zd_l0n, zd_l0y, zd_0lt, zd_1lt, zd_1lty, zd_e0n, zd_e0y, zd_e1n, zd_e1y, zd_nn, zd_ny, zd_mn, zd_my, zd_en, zd_ey, zd_e1, zd_in, zCk_T, zIx_n, nI_1, nI_add, zd_sub, zd_dec, if_true, if_false, ite_true, ite_false, zBd_some, zLt_eq, zUp_s, zUp_c, zUp_i, zCk_t, b49, b50]
  · intro c h1 h2 h3
    rw [zUp_off h3, zUp_off h3, zUp_off h2, zUp_off h1, a1 c h1 h2]
  · intro i h1 h2
    rw [zUp_x h1, zUp_x h2, zUp_c (by omega), zUp_c (by omega), a1 74 (by omega) (by omega)]
  · rw [zUp_s]
  · rw [zUp_x (by omega), zUp_s]
  · intro i hi
    rw [zUp_c (by omega), zUp_c (by omega), zUp_c (by omega)]
    by_cases q : i = p
    · subst q
      rw [zUp_s, if_neg (by omega), if_pos rfl]
    · rw [zUp_x q, a2 i]
      by_cases q2 : i < p
      · rw [if_pos q2, if_neg (by omega)]
      · rw [if_neg q2, if_neg q, if_pos (by omega)]
  · intro i hi
    rw [zUp_c (by omega), zUp_c (by omega)]
    by_cases q : i = p
    · subst q
      rw [zUp_s, if_neg (by omega), if_pos rfl]
    · rw [zUp_x q, zUp_c (by omega), a3 i]
      by_cases q2 : i < p
      · rw [if_pos q2, if_neg (by omega)]
      · rw [if_neg q2, if_neg q, if_pos (by omega)]
theorem g_goesS {u : Int32} {n : Nat} (hn : n < 60) : ∀ k p N M, p + k = n → k < N → M 74 49 = nI n → ∃ M', f_X10_goes_L53 u N (nI p) M = some (0, M') ∧ (∀ c, c ≠ 119 → c ≠ 120 → M' c = M c) ∧ (∀ i, i < n → M' 119 i = if i < p then M 119 i else M 119 (i + 1)) ∧ (∀ i, i < n → M' 120 i = if i < p then M 120 i else M 120 (i + 1)) := by
  intro k
  induction k with
  | zero =>
    intro p N M hp hN h4
    obtain ⟨N, rfl⟩ : ∃ N', N = N' + 1 := ⟨N - 1, by omega⟩
    refine ⟨M, ?_, fun _ _ _ => rfl, fun i hi => by rw [if_pos (by omega)], fun i hi => by rw [if_pos (by omega)]⟩
    rw [f_X10_goes_L53, h4]
    simp (disch := omega) only [zl_2, zl_3, zl_4, zl_5, zl_6, zl_7, zl_8, zl_12, zl_20, zl_24, zl_28, zl_40, zl_60, zl_300, zl_320, zl_400, zl_600, zd_lt0, zd_l0n, zd_l0y, zd_0lt, zd_1lt, zd_1lty, zd_e0n, zd_e0y, zd_e1n, zd_e1y, zd_nn, zd_ny, zd_mn, zd_my, zd_en, zd_ey, zd_e1, zd_in, zCk_T, zIx_n, nI_1, nI_add, zd_sub, zd_dec, if_true, if_false, ite_true, ite_false]
  | succ k ih =>
    intro p N M hp hN h4
    obtain ⟨N, rfl⟩ : ∃ N', N = N' + 1 := ⟨N - 1, by omega⟩
    obtain ⟨M', e, a1, a2, a3⟩ := ih (p + 1) N (zUp (zUp M 119 p (M 119 (p + 1))) 120 p (M 120 (p + 1))) (by omega) (by omega) (by rw [zUp_c (by omega), zUp_c (by omega), h4])
    refine ⟨M', ?_, fun c h1 h2 => (a1 c h1 h2).trans ((zUp_off h2).trans (zUp_off h1)), fun i hi => ?_, fun i hi => ?_⟩
    · rw [f_X10_goes_L53, h4]
      simp (disch := omega) only [zl_2, zl_3, zl_4, zl_5, zl_6, zl_7, zl_8, zl_12, zl_20, zl_24, zl_28, zl_40, zl_60, zl_300, zl_320, zl_400, zl_600, zd_lt0, zd_l0n, zd_l0y, zd_0lt, zd_1lt, zd_1lty, zd_e0n, zd_e0y, zd_e1n, zd_e1y, zd_nn, zd_ny, zd_mn, zd_my, zd_en, zd_ey, zd_e1, zd_in, zCk_T, zIx_n, nI_1, nI_add, zd_sub, zd_dec, if_true, if_false, ite_true, ite_false, zBd_some, zLt_eq, zUp_s, zUp_c, zUp_i, zCk_t]
      exact e
    · rw [a2 i hi, zUp_off (show (119 : Nat) ≠ 120 by omega)]
      rcases (by omega : i < p ∨ i = p ∨ p < i) with q | q | q
      · rw [if_pos (by omega), if_pos q, zUp_x (by omega)]
      · subst q
        rw [if_pos (by omega), if_neg (by omega), zUp_s]
      · rw [if_neg (by omega), if_neg (by omega), zUp_x (by omega)]
    · rw [a3 i hi]
      rcases (by omega : i < p ∨ i = p ∨ p < i) with q | q | q
      · rw [if_pos (by omega), if_pos q, zUp_x (by omega), zUp_c (by omega)]
      · subst q
        rw [if_pos (by omega), if_neg (by omega), zUp_s]
      · rw [if_neg (by omega), if_neg (by omega), zUp_x (by omega), zUp_c (by omega)]
theorem g_goesA {p x : Nat} (hp : p < 60) (hx : x < 400) : ∀ k i N M, i + k = p → k < N → ∃ M', f_X10_goes_L16 (nI p) N (nI x) (nI i) M = f_X10_goes_B41 (nI p) M' ∧ (∀ c, c ≠ 141 + x → M' c = M c) ∧ (∀ j, j < p → M' (141 + x) j = if i ≤ j then M 119 j else M (141 + x) j) := by
  intro k
  induction k with
  | zero =>
    intro i N M hi hN
    obtain ⟨N, rfl⟩ : ∃ N', N = N' + 1 := ⟨N - 1, by omega⟩
    refine ⟨M, ?_, fun _ _ => rfl, fun j hj => by rw [if_neg (by omega)]⟩
    rw [f_X10_goes_L16]
    simp (disch := omega) only [zl_2, zl_3, zl_4, zl_5, zl_6, zl_7, zl_8, zl_12, zl_20, zl_24, zl_28, zl_40, zl_60, zl_300, zl_320, zl_400, zl_600, zd_lt0, zd_l0n, zd_l0y, zd_0lt, zd_1lt, zd_1lty, zd_e0n, zd_e0y, zd_e1n, zd_e1y, zd_nn, zd_ny, zd_mn, zd_my, zd_en, zd_ey, zd_e1, zd_in, zCk_T, zIx_n, nI_1, nI_add, zd_sub, zd_dec, if_true, if_false, ite_true, ite_false]
  | succ k ih =>
    intro i N M hi hN
    obtain ⟨N, rfl⟩ : ∃ N', N = N' + 1 := ⟨N - 1, by omega⟩
    obtain ⟨M', e, a1, a2⟩ := ih (i + 1) N (zUp M (141 + x) i (M 119 i)) (by omega) (by omega)
    refine ⟨M', ?_, fun c hc => (a1 c hc).trans (zUp_off hc), fun j hj => ?_⟩
    · rw [f_X10_goes_L16]
      simp (disch := omega) only [zl_2, zl_3, zl_4, zl_5, zl_6, zl_7, zl_8, zl_12, zl_20, zl_24, zl_28, zl_40, zl_60, zl_300, zl_320, zl_400, zl_600, zd_lt0, zd_l0n, zd_l0y, zd_0lt, zd_1lt, zd_1lty, zd_e0n, zd_e0y, zd_e1n, zd_e1y, zd_nn, zd_ny, zd_mn, zd_my, zd_en, zd_ey, zd_e1, zd_in, zCk_T, zIx_n, nI_1, nI_add, zd_sub, zd_dec, if_true, if_false, ite_true, ite_false, zBd_some, zLt_eq, zUp_s, zUp_c, zUp_i, zCk_t]
      exact e
    · rw [a2 j hj, zUp_c (by omega)]
      rcases (by omega : j < i ∨ j = i ∨ i < j) with q | q | q
      · rw [if_neg (by omega), if_neg (by omega), zUp_x (by omega)]
      · subst q
        rw [if_neg (by omega), if_pos (by omega), zUp_s]
      · rw [if_pos (by omega), if_pos (by omega)]
theorem g_goes {M : zMem} {p n x : Nat} (hp : p < n) (hn : n < 60) (h49 : M 74 49 = nI n) (hx : x < 400) (hm : M 119 p = nI x) : ∃ M', f_X10_goes (nI p) M = some (0, M') ∧ (∀ c, c ≠ 119 → c ≠ 120 → c ≠ 74 → c ≠ 121 → c ≠ 141 + x → M' c = M c) ∧ (∀ i, i ≠ 49 → M' 74 i = M 74 i) ∧ M' 74 49 = nI (n - 1) ∧ (∀ i, M' 121 i = if i = x then nI p else M 121 i) ∧ (∀ j, j < p → M' (141 + x) j = M 119 j) ∧ (∀ i, i < n - 1 → M' 119 i = if i < p then M 119 i else M 119 (i + 1)) ∧ (∀ i, i < n - 1 → M' 120 i = if i < p then M 120 i else M 120 (i + 1)) := by
  obtain ⟨M1, e1, a1, a2⟩ := g_goesA (p := p) (x := x) (by omega) hx p 0 zFu (zUp M 121 x (nI p)) (by omega) (by unfold zFu; omega)
  obtain ⟨M2, e2, b1, b2, b3⟩ := g_goesS (u := nI p) (n := n - 1) (by omega) (n - 1 - p) p zFu (zUp M1 74 49 (nI (n - 1))) (by omega) (by unfold zFu; omega) zUp_s
  have c49 : M1 74 49 = nI n := by rw [a1 74 (by omega), zUp_c (by omega), h49]
  refine ⟨M2, ?_, ?_, ?_, ?_, ?_, ?_, ?_, ?_⟩
  · rw [f_X10_goes, zIx_n (show p < 2 ^ 31 by omega), hm]
    simp (disch := omega) only [zl_2, zl_3, zl_4, zl_5, zl_6, zl_7, zl_8, zl_12, zl_20, zl_24, zl_28, zl_40, zl_60, zl_300, zl_320, zl_400, zl_600, zd_lt0, zd_l0n, zd_l0y, zd_0lt, zd_1lt, zd_1lty, zd_e0n, zd_e0y, zd_e1n, zd_e1y, zd_nn, zd_ny, zd_mn, zd_my, zd_en, zd_ey, zd_e1, zd_in, zCk_T, zIx_n, nI_1, nI_add, zd_sub, zd_dec, if_true, if_false, ite_true, ite_false, zBd_some, zLt_eq, zUp_s, zUp_c, zUp_i, zCk_t]
    show f_X10_goes_L16 (nI p) zFu (nI x) (nI 0) _ = _
    rw [e1, f_X10_goes_B41, c49]
    simp (disch := omega) only [zl_2, zl_3, zl_4, zl_5, zl_6, zl_7, zl_8, zl_12, zl_20, zl_24, zl_28, zl_40, zl_60, zl_300, zl_320, zl_400, zl_600, zd_lt0, zd_l0n, zd_l0y, zd_0lt, zd_1lt, zd_1lty, zd_e0n, zd_e0y, zd_e1n, zd_e1y, zd_nn, zd_ny, zd_mn, zd_my, zd_en, zd_ey, zd_e1, zd_in, zCk_T, zIx_n, nI_1, nI_add, zd_sub, zd_dec, if_true, if_false, ite_true, ite_false, zBd_some, zLt_eq, zUp_s, zUp_c, zUp_i, zCk_t]
    exact e2
  · intro c h1 h2 h3 h4 h5
    rw [b1 c h1 h2, zUp_off h3, a1 c h5, zUp_off h4]
  · intro i hi
    rw [b1 74 (by omega) (by omega), zUp_x hi, a1 74 (by omega), zUp_c (by omega)]
  · rw [b1 74 (by omega) (by omega), zUp_s]
  · intro i
    rw [b1 121 (by omega) (by omega), zUp_c (by omega), a1 121 (by omega)]
    by_cases q : i = x
    · subst q
      rw [zUp_s, if_pos rfl]
    · rw [zUp_x q, if_neg q]
  · intro j hj
    rw [b1 _ (by omega) (by omega), zUp_c (by omega), a2 j hj, if_pos (by omega), zUp_c (by omega)]
  · intro i hi
    have e9 : ∀ j, zUp M1 74 49 (nI (n - 1)) 119 j = M 119 j := fun j => by rw [zUp_c (by omega), a1 119 (by omega), zUp_c (by omega)]
    rw [b2 i hi, e9, e9]
  · intro i hi
    have e9 : ∀ j, zUp M1 74 49 (nI (n - 1)) 120 j = M 120 j := fun j => by rw [zUp_c (by omega), a1 120 (by omega), zUp_c (by omega)]
    rw [b3 i hi, e9, e9]
/-! those ahead of one that is gone -/
def s_bf (S : zMem) (u c : Int32) : Nat → Nat → List Nat
  | 0, _ => []
  | k + 1, i => if S 13 i = u then [] else if S 15 (zIx (S 13 i)) = 0 ∧ S 13 i < c then zIx (S 13 i) :: s_bf S u c k (i + 1) else s_bf S u c k (i + 1)
def zMG (S M : zMem) (e : Nat) : Prop := ∀ n, n < e → S 15 n ≠ 0 → ∃ A : List Nat, A.length ≤ 60 ∧ M 121 n = nI A.length ∧ (∀ i, i < A.length → M (141 + n) i = nI (A.getD i 0)) ∧ (∀ x, x ∈ A → x < zIx (S 15 n)) ∧ A.filter (fun x => decide (S 15 x = 0)) = s_bf S (nI n) (S 15 n) e 0
theorem s_spot_bf {S : zMem} {e : Nat} (hw : zWO S e) {n : Nat} (hn : n < e) (hg : S 15 n ≠ 0) (c : Int32) : ∀ k i x, i + k = e → (s_bf S (nI n) c k i = [] → s_spot S (nI n) c k i x = x) ∧ (∀ l q, s_bf S (nI n) c k i = l ++ [q] → ∃ j, i ≤ j ∧ j < e ∧ q < e ∧ S 13 j = nI q ∧ S 15 q = 0 ∧ s_spot S (nI n) c k i x = j + 1) := by
  have h320 := hw.2.1
  intro k
  induction k with
  | zero =>
    intro i x hi
    refine ⟨fun _ => rfl, fun l q h => ?_⟩
    simp [s_bf] at h
  | succ k ih =>
    intro i x hi
    obtain ⟨o, ho, eo⟩ := zIn_of (hw.2.2.1 i (by omega))
    have eoz : zIx (S 13 i) = o := by rw [eo, zIx_n (by omega)]
    unfold s_bf s_spot
    by_cases q1 : S 13 i = nI n
    · have hno : ¬ (S 15 (zIx (S 13 i)) = 0 ∧ S 13 i < c) := by
        rw [q1, zIx_n (by omega)]
        exact fun y => hg y.1
      rw [if_pos q1, if_pos q1, if_neg hno]
      refine ⟨fun _ => rfl, fun l q h => ?_⟩
      simp at h
    · rw [if_neg q1, if_neg q1]
      by_cases q2 : S 15 (zIx (S 13 i)) = 0 ∧ S 13 i < c
      · simp only [if_pos q2]
        refine ⟨fun h => by simp at h, fun l q h => ?_⟩
        have hi2 := ih (i + 1) (i + 1) (by omega)
        cases hB : s_bf S (nI n) c k (i + 1) with
        | nil =>
          rw [hB] at h
          have : l = [] ∧ zIx (S 13 i) = q := by
            cases l with
            | nil => simpa using h
            | cons a l => simp at h
          refine ⟨i, by omega, by omega, by rw [← this.2, eoz]; exact ho, ?_, ?_, ?_⟩
          · rw [← this.2, eoz]; exact eo
          · rw [← this.2]; exact q2.1
          · exact hi2.1 hB
        | cons b B =>
          rw [hB] at h
          cases l with
          | nil => simp at h
          | cons a l =>
            simp only [List.cons_append, List.cons.injEq] at h
            obtain ⟨j, h1, h2, h3, h4, h5, h6⟩ := hi2.2 l q (by rw [hB]; exact h.2)
            exact ⟨j, by omega, h2, h3, h4, h5, h6⟩
      · simp only [if_neg q2]
        have hi2 := ih (i + 1) x (by omega)
        refine ⟨hi2.1, fun l q h => ?_⟩
        obtain ⟨j, h1, h2, h3, h4, h5, h6⟩ := hi2.2 l q h
        exact ⟨j, by omega, h2, h3, h4, h5, h6⟩
theorem s_spot_there {S : zMem} {e : Nat} (hw : zWO S e) {n : Nat} (hn : n < e) (ht : S 15 n = 0) : ∀ k i x, i + k = e → (∃ j, i ≤ j ∧ j < e ∧ S 13 j = nI n) → ∃ j, i ≤ j ∧ j < e ∧ S 13 j = nI n ∧ s_spot S (nI n) (nI e) k i x = j + 1 := by
  have h320 := hw.2.1
  intro k
  induction k with
  | zero =>
    rintro i x hi ⟨j, h1, h2, _⟩
    omega
  | succ k ih =>
    rintro i x hi ⟨j, h1, h2, h3⟩
    unfold s_spot
    by_cases q1 : S 13 i = nI n
    · have hy : S 15 (zIx (S 13 i)) = 0 ∧ S 13 i < nI e := by
        rw [q1, zIx_n (by omega)]
        exact ⟨ht, nI_lt hn (by omega)⟩
      rw [if_pos q1, if_pos hy]
      exact ⟨i, by omega, by omega, q1, rfl⟩
    · rw [if_neg q1]
      have hji : j ≠ i := fun y => q1 (by rw [← y]; exact h3)
      obtain ⟨j2, a1, a2, a3, a4⟩ := ih (i + 1) (if S 15 (zIx (S 13 i)) = 0 ∧ S 13 i < nI e then i + 1 else x) (by omega) ⟨j, by omega, h2, h3⟩
      exact ⟨j2, by omega, a2, a3, a4⟩
