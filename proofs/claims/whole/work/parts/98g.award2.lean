/-! the means are of a few cells alone -/
def zJc (M M' : zMem) : Prop := M' 14 = M 14 ∧ M' 65 = M 65 ∧ (∀ j, j < 6 → M' (67 + j) = M (67 + j))
theorem yQk_c {M M' : zMem} (h : zJc M M') {j m : Nat} (hj : j < 6) : yQk M' j m ↔ yQk M j m := by
  unfold yQk
  rw [h.1, h.2.1, h.2.2 j hj]
theorem zLw_c {M M' : zMem} (h : zJc M M') {j : Nat} (hj : j < 6) : ∀ i, zLw M' j i = zLw M j i ∧ zHg M' j i = zHg M j i
  | 0 => ⟨rfl, rfl⟩
  | i + 1 => by
    have ih := zLw_c h hj i
    rw [zLw, zLw, zHg, zHg, ih.1, ih.2, propext (yQk_c h hj (m := i)), h.2.2 j hj]
    exact ⟨rfl, rfl⟩
theorem zSc_c {M M' : zMem} (h : zJc M M') {j m : Nat} (hj : j < 6) : zSc M' j m = zSc M j m := by
  have ih := zLw_c h hj 24
  unfold zSc
  rw [ih.1, ih.2, h.2.2 j hj]
theorem zSu_c {M M' : zMem} (h : zJc M M') {m : Nat} : ∀ j, j ≤ 6 → zSu M' m j = zSu M m j ∧ zCo M' m j = zCo M m j
  | 0, _ => ⟨rfl, rfl⟩
  | j + 1, hj => by
    have ih := zSu_c h (m := m) j (by omega)
    rw [zSu, zSu, zCo, zCo, ih.1, ih.2, propext (yQk_c h (by omega) (j := j) (m := m)), zSc_c h (by omega)]
    exact ⟨rfl, rfl⟩
theorem zMn_c {M M' : zMem} (h : zJc M M') (m : Nat) : zMn M' m = zMn M m := by
  have ih := zSu_c h (m := m) 6 (Nat.le_refl _)
  unfold zMn
  rw [ih.1, ih.2]
/-- x is ahead of m -/
def zAh (g : Nat → Int32) (x m : Nat) : Prop := g m < g x ∨ (g x = g m ∧ x < m)
noncomputable def zRk (g : Nat → Int32) (m : Nat) : Nat := yN (fun x => zAh g x m) 24
theorem zAh_t {g : Nat → Int32} {a b c : Nat} (h1 : zAh g a b) (h2 : zAh g b c) : zAh g a c := by
  unfold zAh at *
  rcases h1 with x | ⟨x, y⟩
  · rcases h2 with z | ⟨z, w⟩
    · exact Or.inl (Int32.lt_trans z x)
    · rw [← z]; exact Or.inl x
  · rcases h2 with z | ⟨z, w⟩
    · rw [x]; exact Or.inl z
    · exact Or.inr ⟨x.trans z, by omega⟩
theorem zAh_i {g : Nat → Int32} {a : Nat} : ¬ zAh g a a := by
  rintro (x | ⟨_, x⟩)
  · exact absurd x (Int32.not_lt.mpr (Int32.le_refl _))
  · omega
theorem zAh_tot {g : Nat → Int32} {a b : Nat} (h : a ≠ b) : zAh g a b ∨ zAh g b a := by
  unfold zAh
  by_cases x : g b < g a
  · exact Or.inl (Or.inl x)
  by_cases y : g a < g b
  · exact Or.inr (Or.inl y)
  have e : g a = g b := Int32.le_antisymm (Int32.not_lt.mp x) (Int32.not_lt.mp y)
  rcases Nat.lt_or_gt_of_ne h with z | z
  · exact Or.inl (Or.inr ⟨e, z⟩)
  · exact Or.inr (Or.inr ⟨e.symm, z⟩)
theorem zRk_lt {g : Nat → Int32} {a b : Nat} (ha : a < 24) (h : zAh g a b) : zRk g a < zRk g b := by
  unfold zRk
  have h1 := yN_1 (p := fun x => zAh g x a) (b := a) 24 zAh_i
  rw [if_pos ha] at h1
  have h2 := yN_m (p := fun i => zAh g i a ∨ i = a) (r := fun x => zAh g x b) 24 (fun i _ hp => hp.elim (fun y => zAh_t y h) (fun y => by rw [y]; exact h))
  omega
theorem zRk_one {g : Nat → Int32} {a b : Nat} (ha : a < 24) (hb : b < 24) (h : zRk g a = zRk g b) : a = b := by
  refine Classical.byContradiction (fun hne => ?_)
  rcases zAh_tot (g := g) hne with x | x
  · have := zRk_lt ha x; omega
  · have := zRk_lt hb x; omega
/-! the program -/
theorem c_aheadL {M : zMem} {g : Nat → Int32} {m : Nat} (hm : m < 24) (h : ∀ i, i < 24 → M 73 i = g i) : ∀ k i N, i + k = 24 → k < N → f_X1_countAheadOf_L4 (nI m) N (nI (yN (fun x => zAh g x m) i)) (nI i) M = some (nI (zRk g m), M) := by
  intro k
  induction k with
  | zero =>
    intro i N hi hN
    obtain ⟨N, rfl⟩ : ∃ N', N = N' + 1 := ⟨N - 1, by omega⟩
    obtain rfl : i = 24 := by omega
    rw [f_X1_countAheadOf_L4, if_pos (show (24 : Int32) ≤ nI 24 by decide)]
    rfl
  | succ k ih =>
    intro i N hi hN
    obtain ⟨N, rfl⟩ : ∃ N', N = N' + 1 := ⟨N - 1, by omega⟩
    have e := ih (i + 1) N (by omega) (by omega)
    rw [yN] at e
    have hi24 : zIn (nI i) 24 := zIn_n (by omega) (by omega)
    have hm24 : zIn (nI m) 24 := zIn_n (by omega) (by omega)
    rw [f_X1_countAheadOf_L4, if_neg (show ¬ (24 : Int32) ≤ nI i from nI_ge (b := 24) (by omega) (by omega)), zCk_t hi24, zCk_t hm24, zCk_t hi24, zCk_t hm24, zIx_n (by omega), zIx_n (by omega), h m hm, h i (by omega), nI_1, nI_1]
    by_cases c1 : g m < g i
    · rw [zIf_t (show zAh g i m from Or.inl c1)] at e
      rw [if_pos c1]
      exact e
    rw [if_neg c1]
    by_cases c2 : g i = g m
    · rw [if_pos c2]
      by_cases c3 : i < m
      · rw [zIf_t (show zAh g i m from Or.inr ⟨c2, c3⟩)] at e
        rw [if_neg (nI_ge c3 (by omega))]
        exact e
      · rw [zIf_f (show ¬ zAh g i m from fun y => y.elim c1 (fun z => c3 z.2))] at e
        rw [if_pos (nI_le (by omega) (by omega))]
        exact e
    · rw [zIf_f (show ¬ zAh g i m from fun y => y.elim c1 (fun z => c2 z.1))] at e
      rw [if_neg c2]
      exact e
theorem c_memL {M : zMem} {g : Nat → Int32} {u : Int32} (h : ∀ i, i < 24 → M 73 i = g i) : ∀ k i N, i + k = 24 → k < N → ((∀ m, i ≤ m → m < 24 → ¬ (g m ≠ -1 ∧ nI (zRk g m) = u)) → f_X1_memberAt_L27 u N (nI i) M = some (-1, M)) ∧ (∀ m, i ≤ m → m < 24 → (g m ≠ -1 ∧ nI (zRk g m) = u) → (∀ x, i ≤ x → x < m → ¬ (g x ≠ -1 ∧ nI (zRk g x) = u)) → f_X1_memberAt_L27 u N (nI i) M = some (nI m, M)) := by
  intro k
  induction k with
  | zero =>
    intro i N hi hN
    obtain ⟨N, rfl⟩ : ∃ N', N = N' + 1 := ⟨N - 1, by omega⟩
    refine ⟨fun _ => ?_, fun m h1 h2 => by omega⟩
    rw [f_X1_memberAt_L27, if_pos (show (24 : Int32) ≤ nI i from nI_le (a := 24) (by omega) (by omega))]
  | succ k ih =>
    intro i N hi hN
    obtain ⟨N, rfl⟩ : ∃ N', N = N' + 1 := ⟨N - 1, by omega⟩
    have e := ih (i + 1) N (by omega) (by omega)
    have hst : f_X1_memberAt_L27 u (N + 1) (nI i) M = zIf (g i ≠ -1 ∧ nI (zRk g i) = u) (some (nI i, M)) (f_X1_memberAt_L27 u N (nI (i + 1)) M) := by
      rw [f_X1_memberAt_L27, if_neg (show ¬ (24 : Int32) ≤ nI i from nI_ge (b := 24) (by omega) (by omega)), zCk_t (zIn_n (by omega) (by omega)), zIx_n (by omega), h i (by omega), nI_1, f_X1_countAheadOf]
      by_cases c : g i = -1
      · rw [if_pos c, zIf_f (fun y => y.1 c)]
      · have e2 := c_aheadL (m := i) (by omega) h 24 0 zFu (by omega) (by unfold zFu; omega)
        rw [if_neg c, show f_X1_countAheadOf_L4 (nI i) zFu 0 0 M = some (nI (zRk g i), M) from e2, zBd_some]
        by_cases c2 : nI (zRk g i) = u
        · rw [if_pos c2, zIf_t ⟨c, c2⟩]
        · rw [if_neg c2, zIf_f (fun y => c2 y.2)]
    rw [hst]
    refine ⟨fun hn => ?_, fun m h1 h2 h3 h4 => ?_⟩
    · rw [zIf_f (hn i (by omega) (by omega))]
      exact e.1 (fun m h1 h2 => hn m (by omega) h2)
    · by_cases y : m = i
      · subst y
        rw [zIf_t h3]
      · rw [zIf_f (h4 i (by omega) (by omega))]
        exact e.2 m (by omega) h2 h3 (fun x hx1 hx2 => h4 x (by omega) hx2)
theorem c_memF {M0 : zMem} {u : Int32} : ∀ k i N M, i + k = 24 → k < N → (∀ c, c ≠ 73 → M c = M0 c) → (∀ j, j < i → M 73 j = zMn M0 j) → ∃ M', f_X1_memberAt_L2 u N (nI i) M = f_X1_memberAt_L27 u zFu 0 M' ∧ (∀ c, c ≠ 73 → M' c = M0 c) ∧ (∀ j, j < 24 → M' 73 j = zMn M0 j) := by
  intro k
  induction k with
  | zero =>
    intro i N M hi hN h1 h2
    obtain ⟨N, rfl⟩ : ∃ N', N = N' + 1 := ⟨N - 1, by omega⟩
    refine ⟨M, ?_, h1, fun j hj => h2 j (by omega)⟩
    rw [f_X1_memberAt_L2, if_pos (show (24 : Int32) ≤ nI i from nI_le (a := 24) (by omega) (by omega))]
  | succ k ih =>
    intro i N M hi hN h1 h2
    obtain ⟨N, rfl⟩ : ∃ N', N = N' + 1 := ⟨N - 1, by omega⟩
    have hc : zMn M i = zMn M0 i := zMn_c ⟨h1 14 (by omega), h1 65 (by omega), fun j hj => h1 _ (by omega)⟩ i
    obtain ⟨M', e, a1, a2⟩ := ih (i + 1) N (zUp M 73 i (zMn M0 i)) (by omega) (by omega) (fun c hcc => by rw [zUp_off hcc, h1 c hcc]) (fun j hj => by
      by_cases y : j = i
      · subst y; rw [zUp_s]
      · rw [zUp_x y]; exact h2 j (by omega))
    refine ⟨M', ?_, a1, a2⟩
    rw [f_X1_memberAt_L2, if_neg (show ¬ (24 : Int32) ≤ nI i from nI_ge (b := 24) (by omega) (by omega)), c_mean (by omega), zBd_some, hc, zCk_t (zIn_n (by omega) (by omega)), zLt_eq, zIx_n (by omega), nI_1]
    exact e
