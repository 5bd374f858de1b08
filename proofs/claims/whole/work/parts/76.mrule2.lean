/-! the reference's session: how its memory M holds S (side sd, k acts worked) -/
def zM1 (S M : zMem) : Prop := M 74 31 = S 1 4 ∧ M 74 32 = S 1 5 ∧ M 74 33 = S 1 6 ∧ M 74 37 = S 1 7 ∧ M 74 34 = S 0 12 ∧ M 74 35 = S 0 14 ∧ M 74 36 = S 0 13 ∧ M 74 38 = S 0 15 ∧ M 74 39 = S 4 8
def zM3 (S M : zMem) : Prop := ∀ m, m < 24 → M 108 m = yB (bt (S 0 11) m = true)
def zM4 (S M : zMem) : Prop := ∀ i, i < zIx (S 4 8) → M 111 i = S 5 i ∧ M 112 i = S 6 i ∧ M 113 i = S 7 i ∧ M 114 i = S 8 i ∧ M 116 i = S 10 i ∧ M 117 i = S 11 i ∧ M 115 i = (if S 5 i = 7 then S 9 i else -1)
def zM5 (sd k : Nat) (S M : zMem) : Prop := (∀ i, i < k → M (100 + sd) i = S 16 i ∧ M (103 + sd) i = S 17 i) ∧ (∀ i, i < 300 → M (106 + sd) i = (if i < k then S 18 i else 0) ∧ M 118 i = (if i < k then S 19 i else 0))
/-- the acts in both logs are the same; which acts were refused as not in order last -/
def yRf (E S : zMem) (k : Nat) : Prop := (S 0 10 = -1 ∧ ∀ j, j < k → ¬ (S 16 j = 6 ∧ (E 16 j = 6 ∨ E 16 j = 5))) ∨ (∃ r, r < k ∧ S 0 10 = nI r ∧ (S 16 r = 6 ∧ (E 16 r = 6 ∨ E 16 r = 5)) ∧ ∀ j, r < j → j < k → ¬ (S 16 j = 6 ∧ (E 16 j = 6 ∨ E 16 j = 5)))
theorem g_refused_L {M : zMem} {sd : Nat} (hs : M 74 25 = nI sd) (hsd : sd < 2) (u : Int32) : ∀ n N, n < N → n ≤ 300 → ((∀ j, j < n → ¬ (M (100 + sd) j = 6 ∧ (M 94 j = 6 ∨ M 94 j = 5))) → f_X10_refused_L4 u N (nI n - 1) M = some (-1, M)) ∧ (∀ r, r < n → (M (100 + sd) r = 6 ∧ (M 94 r = 6 ∨ M 94 r = 5)) → (∀ j, r < j → j < n → ¬ (M (100 + sd) j = 6 ∧ (M 94 j = 6 ∨ M 94 j = 5))) → f_X10_refused_L4 u N (nI n - 1) M = some (nI r, M)) := by
  intro n
  induction n with
  | zero =>
    intro N hN hn
    obtain ⟨N, rfl⟩ : ∃ N', N = N' + 1 := ⟨N - 1, by omega⟩
    refine ⟨fun _ => ?_, fun r hr => by omega⟩
    rw [f_X10_refused_L4, if_pos (by decide)]
  | succ n ih =>
    intro N hN hn
    obtain ⟨N, rfl⟩ : ∃ N', N = N' + 1 := ⟨N - 1, by omega⟩
    have hg : f_X10_refused_L4 u (N + 1) (nI (n + 1) - 1) M = if (M (100 + sd) n = 6 ∧ (M 94 n = 6 ∨ M 94 n = 5)) then some (nI n, M) else f_X10_refused_L4 u N (nI n - 1) M := by
      have hs2 : ∀ v, nI n + (-1) = v → nI n - 1 = v := fun v hv => by rw [← hv, Int32.sub_eq_add_neg]
      rw [nI_pred, f_X10_refused_L4, hs, if_neg (nI_pos (by omega)), zCk_t (zIn_n hsd (by omega)), zCk_t (zIn_n (by omega) (by omega)), zCk_t (zIn_n (by omega) (by omega)), zCk_t (zIn_n (by omega) (by omega)), zIx_n (by omega), zIx_n (by omega), ← Int32.sub_eq_add_neg]
      by_cases q1 : M (100 + sd) n = 6
      · rw [if_pos q1]
        by_cases q2 : M 94 n = 6
        · rw [if_pos q2, if_pos ⟨q1, Or.inl q2⟩]
        rw [if_neg q2]
        by_cases q3 : M 94 n = 5
        · rw [if_pos q3, if_pos ⟨q1, Or.inr q3⟩]
        · rw [if_neg q3, if_neg (fun x => x.2.elim q2 q3)]
      · rw [if_neg q1, if_neg (fun x => q1 x.1)]
    have hi := ih N (by omega) (by omega)
    rw [hg]
    refine ⟨fun h => ?_, fun r hr h1 h2 => ?_⟩
    · rw [if_neg (h n (by omega))]
      exact hi.1 (fun j hj => h j (by omega))
    · by_cases e : r = n
      · subst e
        rw [if_pos h1]
      · rw [if_neg (h2 n (by omega) (by omega))]
        exact hi.2 r (by omega) h1 (fun j hj1 hj2 => h2 j hj1 (by omega))
theorem g_refused {E S M : zMem} {sd k : Nat} (hs : M 74 25 = nI sd) (hsd : sd < 2) (hk : k ≤ 300) (h5 : ∀ i, i < k → M (100 + sd) i = S 16 i) (hl : ∀ i, i < k → M 94 i = E 16 i) (hr : yRf E S k) : f_X10_refused (nI k) M = some (S 0 10, M) := by
  have hg := g_refused_L hs hsd (nI k) k zFu (by unfold zFu; omega) hk
  rw [f_X10_refused]
  rcases hr with ⟨e, h⟩ | ⟨r, hr, e, h1, h2⟩
  · rw [e]
    refine hg.1 (fun j hj => ?_)
    rw [h5 j hj, hl j hj]
    exact h j hj
  · rw [e]
    refine hg.2 r hr ?_ (fun j hj1 hj2 => ?_)
    · rw [h5 r hr, hl r hr]
      exact h1
    · rw [h5 j hj2, hl j hj2]
      exact h2 j hj1 hj2
/-! the paper in the reference's memory -/
def zMPn (S M : zMem) (e : Nat) : Prop := M 74 48 = S 12 3 ∧ M 74 49 = nI (s_pl S e 0).length ∧ M 74 50 = S 12 4 ∧ (∀ i, i < (s_pl S e 0).length → M 119 i = nI ((s_pl S e 0).getD i 0) ∧ M 120 i = S 14 ((s_pl S e 0).getD i 0))
/-- the paper as it must be -/
def zWP (S : zMem) (e : Nat) : Prop := zWO S e ∧ S 12 5 = nI (s_pl S e 0).length ∧ (s_pl S e 0).length ≤ 40 ∧ (S 12 3 = 0 → e = 0) ∧ (S 12 3 = 0 ∨ S 12 3 = 1) ∧ (∀ n, n < e → (S 15 n = 0 ∨ ∃ c, 1 ≤ c ∧ c ≤ e ∧ S 15 n = nI c) ∧ 0 ≤ S 14 n)
theorem zPo_L {S : zMem} {M : zMem} {u : Int32} (l : List Nat) (hl : ∀ i, i < l.length → M 119 i = nI (l.getD i 0)) (h48 : M 74 48 ≠ 0) (h49 : M 74 49 = nI l.length) (h40 : l.length ≤ 60) : ∀ (t : List Nat) (c N : Nat), l.drop c = t → c + t.length = l.length → t.length < N → f_X10_placeOf_L2 u N (nI c) M = some (zPo t u c, M) := by
  intro t
  induction t with
  | nil =>
    intro c N hd hc hN
    obtain ⟨N, rfl⟩ : ∃ N', N = N' + 1 := ⟨N - 1, by omega⟩
    simp only [List.length_nil] at hc
    rw [f_X10_placeOf_L2, if_neg h48, h49]
    simp (disch := omega) only [zl_2, zl_3, zl_4, zl_5, zl_6, zl_7, zl_8, zl_12, zl_20, zl_24, zl_28, zl_40, zl_60, zl_300, zl_320, zl_400, zl_600, zd_lt0, zd_l0n, zd_l0y, zd_0lt, zd_1lt, zd_1lty, zd_e0n, zd_e0y, zd_e1n, zd_e1y, zd_nn, zd_ny, zd_mn, zd_my, zd_en, zd_ey, zd_e1, zd_in, zCk_T, zIx_n, nI_1, nI_add, zd_sub, zd_dec, if_true, if_false, ite_true, ite_false]
    rfl
  | cons x t ih =>
    intro c N hd hc hN
    obtain ⟨N, rfl⟩ : ∃ N', N = N' + 1 := ⟨N - 1, by omega⟩
    simp only [List.length_cons] at hc hN
    have hx : l.getD c 0 = x := by
      have := congrArg (fun y => y.getD 0 0) hd
      simp only [List.getD_eq_getElem?_getD, List.getElem?_drop, Nat.add_zero, List.getElem?_cons_zero, Option.getD_some] at this
      rw [List.getD_eq_getElem?_getD]
      exact this
    rw [f_X10_placeOf_L2, if_neg h48, h49]
    simp (disch := omega) only [zl_2, zl_3, zl_4, zl_5, zl_6, zl_7, zl_8, zl_12, zl_20, zl_24, zl_28, zl_40, zl_60, zl_300, zl_320, zl_400, zl_600, zd_lt0, zd_l0n, zd_l0y, zd_0lt, zd_1lt, zd_1lty, zd_e0n, zd_e0y, zd_e1n, zd_e1y, zd_nn, zd_ny, zd_mn, zd_my, zd_en, zd_ey, zd_e1, zd_in, zCk_T, zIx_n, nI_1, nI_add, zd_sub, zd_dec, if_true, if_false, ite_true, ite_false, zBd_some, zLt_eq, zUp_s, zUp_c, zUp_i, zCk_t]
    rw [hl c (by omega), hx, zPo]
    by_cases q : nI x = u
    · rw [if_pos q, if_pos q]
    · rw [if_neg q, if_neg q]
      refine ih (c + 1) N ?_ (by omega) (by omega)
      rw [← List.drop_drop, hd]
      rfl
theorem s_pl_nil (S : zMem) (i : Nat) : s_pl S 0 i = [] := rfl
theorem g_placeOf {S M : zMem} {e : Nat} (hw : zWP S e) (h : zMPn S M e) (u : Int32) : f_X10_placeOf u M = some (zPo (s_pl S e 0) u 0, M) := by
  obtain ⟨_, _, h40, h30, h31, _⟩ := hw
  obtain ⟨h48, h49, h50, hl⟩ := h
  by_cases q : S 12 3 = 0
  · have he := h30 q
    subst he
    rw [f_X10_placeOf]
    show f_X10_placeOf_L2 u (1999 + 1) 0 M = _
    rw [f_X10_placeOf_L2, h48, if_pos q]
    rfl
  · exact zPo_L (S := S) (s_pl S e 0) (fun i hi => (hl i hi).1) (by rw [h48]; exact q) h49 (by omega) (s_pl S e 0) 0 zFu rfl (by omega) (by unfold zFu; omega)
theorem zPo_1 {l : List Nat} {u : Int32} : ∀ c, c + l.length < 2 ^ 31 → (zPo l u c = -1 ↔ ∀ x, x ∈ l → nI x ≠ u) := by
  induction l with
  | nil =>
    intro c _
    simp [zPo]
  | cons x t ih =>
    intro c hc
    simp only [List.length_cons] at hc
    rw [zPo]
    by_cases q : nI x = u
    · rw [if_pos q]
      constructor
      · intro h
        exact absurd h (by rw [zd_e1 (by omega)]; exact fun y => y)
      · intro h
        exact absurd q (h x (by simp))
    · rw [if_neg q, ih (c + 1) (by omega)]
      constructor
      · intro h y hy
        rcases List.mem_cons.mp hy with e | e
        · rw [e]; exact q
        · exact h y e
      · intro h y hy
        exact h y (by simp [hy])
/-- the place of what is there -/
theorem zPo_2 {n : Nat} (hn : n < 2 ^ 31) : ∀ (l : List Nat) (c : Nat), n ∈ l → (∀ x, x ∈ l → x < 2 ^ 31) → ∃ p, p < l.length ∧ zPo l (nI n) c = nI (c + p) ∧ l.getD p 0 = n ∧ ∀ q, q < p → l.getD q 0 ≠ n
  | [], _, h, _ => by simp at h
  | x :: t, c, h, hb => by
    rw [zPo]
    by_cases q : x = n
    · refine ⟨0, by simp, ?_, by simpa using q, fun q hq => by omega⟩
      rw [if_pos (by rw [q])]
      rfl
    · have hx := hb x (by simp)
      have hm : n ∈ t := by
        rcases List.mem_cons.mp h with e | e
        · exact absurd e.symm q
        · exact e
      obtain ⟨p, hp, e1, e2, e3⟩ := zPo_2 hn t (c + 1) hm (fun y hy => hb y (by simp [hy]))
      refine ⟨p + 1, by simp; omega, ?_, by simpa using e2, ?_⟩
      · rw [if_neg (by rw [nI_eq hx hn]; exact q), e1, show c + 1 + p = c + (p + 1) by omega]
      · intro k hk
        cases k with
        | zero => simpa using q
        | succ k => simpa using e3 k (by omega)
