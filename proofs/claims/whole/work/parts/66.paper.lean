/-! the paper -/
def s_pl (S : zMem) : Nat → Nat → List Nat
  | 0, _ => []
  | k + 1, i => if S 15 (zIx (S 13 i)) = 0 then zIx (S 13 i) :: s_pl S k (i + 1) else s_pl S k (i + 1)
def zAt : List Nat → Int32 → Nat → Int32
  | [], _, _ => -1
  | x :: t, u, c => if nI c = u then nI x else zAt t u (c + 1)
def zPo : List Nat → Int32 → Nat → Int32
  | [], _, _ => -1
  | x :: t, u, c => if nI x = u then nI c else zPo t u (c + 1)
def zHd : List Nat → Int32
  | [] => -1
  | x :: _ => nI x
def zBh : List Nat → Int32 → Int32
  | [], _ => -1
  | x :: t, u => if nI x = u then zHd t else zBh t u
def s_spot (S : zMem) (u c : Int32) : Nat → Nat → Nat → Nat
  | 0, _, x => x
  | k + 1, i, x => if S 13 i = u then (if S 15 (zIx (S 13 i)) = 0 ∧ S 13 i < c then i + 1 else x) else s_spot S u c k (i + 1) (if S 15 (zIx (S 13 i)) = 0 ∧ S 13 i < c then i + 1 else x)
def s_ins (S : zMem) (s : Nat) (t : Int32) : zMem := zUp (zUp (zUp (zUp (yPc S 13 (fun i => if i < s then S 13 i else if i = s then S 12 4 else S 13 (i - 1))) 14 (zIx (S 12 4)) t) 15 (zIx (S 12 4)) 0) 12 4 (nI (zIx (S 12 4) + 1))) 12 5 (S 12 5 + 1)
def s_away (S : zMem) : zMem := zUp (zUp (zUp S 12 3 0) 12 4 0) 12 5 0
def s_layL (b : Int32) : Nat → Nat → zMem → zMem
  | 0, _, S => S
  | k + 1, i, S => s_layL b k (i + 1) (s_ins S i (b + nI i))
def s_lay (S : zMem) (a : Nat) (b : Int32) : zMem := if 1 ≤ a ∧ a ≤ 20 then s_layL b a 0 (zUp (s_away S) 12 3 1) else S
def s_rem (S : zMem) (n : Nat) : zMem := zUp (zUp S 15 n (S 12 4)) 12 5 (S 12 5 - 1)
def s_isT (S : zMem) (n : Nat) : Prop := n < zIx (S 12 4) ∧ S 15 n = 0
/-- what a text is of, or none -/
def s_txt (S : zMem) (u : Int32) : Int32 := if zIn u (zIx (S 12 4)) ∧ S 15 (zIx u) = 0 then S 14 (zIx u) else -1
def zWO (S : zMem) (e : Nat) : Prop := S 12 4 = nI e ∧ e ≤ 320 ∧ (∀ i, i < e → zIn (S 13 i) e) ∧ (∀ i j, i < j → j < e → S 13 i ≠ S 13 j)
theorem zO_x {S : zMem} {e : Nat} (h : S 12 4 = nI e) (he : e ≤ 320) : zIx (S 12 4) = e := by rw [h, zIx_n (by omega)]
theorem k_pth {f : Nat} {S M : zMem} (h : zCP f S M) {e : Nat} (hn : S 12 4 = nI e) (he : e ≤ 320) (u : Int32) : f_X4_isThere f u M = some (yB (zIn u e ∧ S 15 (zIx u) = 0), M) := by
  have hx := zO_x hn he
  have h4 : M f 4 = nI e := by rw [zCP_0 h (by omega) (by omega), hn]
  rw [f_X4_isThere, h4]
  by_cases q0 : u < 0
  · rw [if_pos q0, yB_f (fun x => by
      obtain ⟨j, hj, ej⟩ := zIn_of x.1
      rw [ej] at q0
      exact nI_pos (by omega) q0)]
  obtain ⟨j, hj, rfl⟩ := nI_of q0
  rw [if_neg q0]
  by_cases q1 : j < e
  · simp (disch := omega) only [zl_2, zl_3, zl_4, zl_5, zl_6, zl_7, zl_8, zl_12, zl_20, zl_24, zl_28, zl_40, zl_60, zl_300, zl_320, zl_400, zl_600, zd_lt0, zd_l0n, zd_l0y, zd_0lt, zd_1lt, zd_1lty, zd_e0n, zd_e0y, zd_e1n, zd_e1y, zd_nn, zd_ny, zd_mn, zd_my, zd_en, zd_ey, zd_e1, zd_in, zCk_T, zIx_n, nI_1, nI_add, zd_sub, zd_dec, if_true, if_false, ite_true, ite_false, zBd_some, zLt_eq, zUp_s, zUp_c, zUp_i, zCk_t]
    rw [zCP_c h 3 (by omega) (by omega) (by omega)]
    by_cases q2 : S 15 j = 0
    · rw [if_pos q2, yB_t ⟨trivial, q2⟩]
    · rw [if_neg q2, yB_f (fun x => q2 x.2)]
  · rw [if_pos (nI_le (by omega) hj), yB_f (fun x => by
      obtain ⟨j2, hj2, ej⟩ := zIn_of x.1
      have := (nI_eq hj (by omega)).mp ej
      omega)]
theorem k_pth_o {f : Nat} {S M : zMem} (h : zCP f S M) {e : Nat} (hw : zWO S e) {i : Nat} (hi : i < e) : f_X4_isThere f (S 13 i) M = some (yB (S 15 (zIx (S 13 i)) = 0), M) := by
  obtain ⟨hn, he, h13, _⟩ := hw
  rw [k_pth h hn he]
  rw [yB_congr (q := S 15 (zIx (S 13 i)) = 0) ⟨fun x => x.2, fun x => ⟨h13 i hi, x⟩⟩]
theorem k_numberAt_L {f : Nat} {S M : zMem} (h : zCP f S M) {e : Nat} (hw : zWO S e) (u : Int32) : ∀ k i c N, i + k = e → c ≤ i → k < N → f_X4_numberAt_L4 f u N (nI c) (nI i) M = some (zAt (s_pl S k i) u c, M) := by
  have hn := hw.1
  have he := hw.2.1
  have hx := zO_x hn he
  have h4 : M f 4 = nI e := by rw [zCP_0 h (by omega) (by omega), hn]
  intro k
  induction k with
  | zero =>
    intro i c N hi hc hN
    obtain ⟨N, rfl⟩ : ∃ N', N = N' + 1 := ⟨N - 1, by omega⟩
    rw [f_X4_numberAt_L4, h4]
    simp (disch := omega) only [zl_2, zl_3, zl_4, zl_5, zl_6, zl_7, zl_8, zl_12, zl_20, zl_24, zl_28, zl_40, zl_60, zl_300, zl_320, zl_400, zl_600, zd_lt0, zd_l0n, zd_l0y, zd_0lt, zd_1lt, zd_1lty, zd_e0n, zd_e0y, zd_e1n, zd_e1y, zd_nn, zd_ny, zd_mn, zd_my, zd_en, zd_ey, zd_e1, zd_in, zCk_T, zIx_n, nI_1, nI_add, zd_sub, zd_dec, if_true, if_false, ite_true, ite_false]
    rfl
  | succ k ih =>
    intro i c N hi hc hN
    obtain ⟨N, rfl⟩ : ∃ N', N = N' + 1 := ⟨N - 1, by omega⟩
    obtain ⟨o, ho, eo⟩ := zIn_of (hw.2.2.1 i (by omega))
    rw [f_X4_numberAt_L4, h4]
    simp (disch := omega) only [zl_2, zl_3, zl_4, zl_5, zl_6, zl_7, zl_8, zl_12, zl_20, zl_24, zl_28, zl_40, zl_60, zl_300, zl_320, zl_400, zl_600, zd_lt0, zd_l0n, zd_l0y, zd_0lt, zd_1lt, zd_1lty, zd_e0n, zd_e0y, zd_e1n, zd_e1y, zd_nn, zd_ny, zd_mn, zd_my, zd_en, zd_ey, zd_e1, zd_in, zCk_T, zIx_n, nI_1, nI_add, zd_sub, zd_dec, if_true, if_false, ite_true, ite_false, zBd_some, zLt_eq, zUp_s, zUp_c, zUp_i, zCk_t]
    rw [zCP_c h 1 (by omega) (by omega) (by omega), k_pth_o h hw (by omega), zBd_some, s_pl]
    by_cases q : S 15 (zIx (S 13 i)) = 0
    · rw [if_pos q, yB_t q, if_neg (by decide), zAt]
      by_cases q2 : nI c = u
      · rw [if_pos q2, if_pos q2, zCP_c h 1 (by omega) (by omega) (by omega)]
        show some (S 13 i, M) = _
        rw [eo, zIx_n (by omega)]
      · rw [if_neg q2, if_neg q2]
        exact ih (i + 1) (c + 1) N (by omega) (by omega) (by omega)
    · rw [if_neg q, yB_f q, if_pos rfl]
      exact ih (i + 1) c N (by omega) (by omega) (by omega)
theorem k_numberAt {f : Nat} {S M : zMem} (h : zCP f S M) {e : Nat} (hw : zWO S e) (u : Int32) : f_X4_numberAt f u M = some (zAt (s_pl S e 0) u 0, M) := k_numberAt_L h hw u e 0 0 zFu (by omega) (by omega) (by have := hw.2.1; unfold zFu; omega)
theorem k_placeOf_L {f : Nat} {S M : zMem} (h : zCP f S M) {e : Nat} (hw : zWO S e) (u : Int32) : ∀ k i c N, i + k = e → c ≤ i → k < N → f_X4_placeOf_L4 f u N (nI c) (nI i) M = some (zPo (s_pl S k i) u c, M) := by
  have hn := hw.1
  have he := hw.2.1
  have hx := zO_x hn he
  have h4 : M f 4 = nI e := by rw [zCP_0 h (by omega) (by omega), hn]
  intro k
  induction k with
  | zero =>
    intro i c N hi hc hN
    obtain ⟨N, rfl⟩ : ∃ N', N = N' + 1 := ⟨N - 1, by omega⟩
    rw [f_X4_placeOf_L4, h4]
    simp (disch := omega) only [zl_2, zl_3, zl_4, zl_5, zl_6, zl_7, zl_8, zl_12, zl_20, zl_24, zl_28, zl_40, zl_60, zl_300, zl_320, zl_400, zl_600, zd_lt0, zd_l0n, zd_l0y, zd_0lt, zd_1lt, zd_1lty, zd_e0n, zd_e0y, zd_e1n, zd_e1y, zd_nn, zd_ny, zd_mn, zd_my, zd_en, zd_ey, zd_e1, zd_in, zCk_T, zIx_n, nI_1, nI_add, zd_sub, zd_dec, if_true, if_false, ite_true, ite_false]
    rfl
  | succ k ih =>
    intro i c N hi hc hN
    obtain ⟨N, rfl⟩ : ∃ N', N = N' + 1 := ⟨N - 1, by omega⟩
    obtain ⟨o, ho, eo⟩ := zIn_of (hw.2.2.1 i (by omega))
    rw [f_X4_placeOf_L4, h4]
    simp (disch := omega) only [zl_2, zl_3, zl_4, zl_5, zl_6, zl_7, zl_8, zl_12, zl_20, zl_24, zl_28, zl_40, zl_60, zl_300, zl_320, zl_400, zl_600, zd_lt0, zd_l0n, zd_l0y, zd_0lt, zd_1lt, zd_1lty, zd_e0n, zd_e0y, zd_e1n, zd_e1y, zd_nn, zd_ny, zd_mn, zd_my, zd_en, zd_ey, zd_e1, zd_in, zCk_T, zIx_n, nI_1, nI_add, zd_sub, zd_dec, if_true, if_false, ite_true, ite_false, zBd_some, zLt_eq, zUp_s, zUp_c, zUp_i, zCk_t]
    rw [zCP_c h 1 (by omega) (by omega) (by omega), k_pth_o h hw (by omega), zBd_some, s_pl]
    by_cases q : S 15 (zIx (S 13 i)) = 0
    · rw [if_pos q, yB_t q, if_neg (by decide), zPo, zCP_c h 1 (by omega) (by omega) (by omega)]
      show (if S 13 i = u then _ else _) = _
      have e2 : nI (zIx (S 13 i)) = S 13 i := by rw [eo, zIx_n (by omega)]
      rw [e2]
      by_cases q2 : S 13 i = u
      · rw [if_pos q2, if_pos q2]
      · rw [if_neg q2, if_neg q2]
        exact ih (i + 1) (c + 1) N (by omega) (by omega) (by omega)
    · rw [if_neg q, yB_f q, if_pos rfl]
      exact ih (i + 1) c N (by omega) (by omega) (by omega)
theorem k_placeOf {f : Nat} {S M : zMem} (h : zCP f S M) {e : Nat} (hw : zWO S e) (u : Int32) : f_X4_placeOf f u M = some (zPo (s_pl S e 0) u 0, M) := k_placeOf_L h hw u e 0 0 zFu (by omega) (by omega) (by have := hw.2.1; unfold zFu; omega)
theorem k_behind1_L {f : Nat} {S M : zMem} (h : zCP f S M) {e : Nat} (hw : zWO S e) (u : Int32) : ∀ k i N, i + k = e → k < N → f_X4_behind_L4 f u N 1 (nI i) M = some (zHd (s_pl S k i), M) := by
  have hn := hw.1
  have he := hw.2.1
  have hx := zO_x hn he
  have h4 : M f 4 = nI e := by rw [zCP_0 h (by omega) (by omega), hn]
  intro k
  induction k with
  | zero =>
    intro i N hi hN
    obtain ⟨N, rfl⟩ : ∃ N', N = N' + 1 := ⟨N - 1, by omega⟩
    rw [f_X4_behind_L4, h4]
    simp (disch := omega) only [zl_2, zl_3, zl_4, zl_5, zl_6, zl_7, zl_8, zl_12, zl_20, zl_24, zl_28, zl_40, zl_60, zl_300, zl_320, zl_400, zl_600, zd_lt0, zd_l0n, zd_l0y, zd_0lt, zd_1lt, zd_1lty, zd_e0n, zd_e0y, zd_e1n, zd_e1y, zd_nn, zd_ny, zd_mn, zd_my, zd_en, zd_ey, zd_e1, zd_in, zCk_T, zIx_n, nI_1, nI_add, zd_sub, zd_dec, if_true, if_false, ite_true, ite_false]
    rfl
  | succ k ih =>
    intro i N hi hN
    obtain ⟨N, rfl⟩ : ∃ N', N = N' + 1 := ⟨N - 1, by omega⟩
    obtain ⟨o, ho, eo⟩ := zIn_of (hw.2.2.1 i (by omega))
    rw [f_X4_behind_L4, h4, if_neg (show ¬ (1 : Int32) = 0 by decide)]
    simp (disch := omega) only [zl_2, zl_3, zl_4, zl_5, zl_6, zl_7, zl_8, zl_12, zl_20, zl_24, zl_28, zl_40, zl_60, zl_300, zl_320, zl_400, zl_600, zd_lt0, zd_l0n, zd_l0y, zd_0lt, zd_1lt, zd_1lty, zd_e0n, zd_e0y, zd_e1n, zd_e1y, zd_nn, zd_ny, zd_mn, zd_my, zd_en, zd_ey, zd_e1, zd_in, zCk_T, zIx_n, nI_1, nI_add, zd_sub, zd_dec, if_true, if_false, ite_true, ite_false, zBd_some, zLt_eq, zUp_s, zUp_c, zUp_i, zCk_t]
    rw [zCP_c h 1 (by omega) (by omega) (by omega), k_pth_o h hw (by omega), zBd_some, s_pl]
    by_cases q : S 15 (zIx (S 13 i)) = 0
    · rw [if_pos q, yB_t q, if_neg (by decide), zCP_c h 1 (by omega) (by omega) (by omega)]
      show some (S 13 i, M) = some (nI (zIx (S 13 i)), M)
      rw [eo, zIx_n (by omega)]
    · rw [if_neg q, yB_f q, if_pos rfl, f_X4_behind_B43, if_neg (show ¬ (1 : Int32) = 0 by decide), nI_1]
      exact ih (i + 1) N (by omega) (by omega)
theorem k_behind_L {f : Nat} {S M : zMem} (h : zCP f S M) {e n : Nat} (hw : zWO S e) (hne : n < e) (ht : S 15 n = 0) : ∀ k i N, i + k = e → k < N → f_X4_behind_L4 f (nI n) N 0 (nI i) M = some (zBh (s_pl S k i) (nI n), M) := by
  have hn := hw.1
  have he := hw.2.1
  have hx := zO_x hn he
  have h4 : M f 4 = nI e := by rw [zCP_0 h (by omega) (by omega), hn]
  intro k
  induction k with
  | zero =>
    intro i N hi hN
    obtain ⟨N, rfl⟩ : ∃ N', N = N' + 1 := ⟨N - 1, by omega⟩
    rw [f_X4_behind_L4, h4]
    simp (disch := omega) only [zl_2, zl_3, zl_4, zl_5, zl_6, zl_7, zl_8, zl_12, zl_20, zl_24, zl_28, zl_40, zl_60, zl_300, zl_320, zl_400, zl_600, zd_lt0, zd_l0n, zd_l0y, zd_0lt, zd_1lt, zd_1lty, zd_e0n, zd_e0y, zd_e1n, zd_e1y, zd_nn, zd_ny, zd_mn, zd_my, zd_en, zd_ey, zd_e1, zd_in, zCk_T, zIx_n, nI_1, nI_add, zd_sub, zd_dec, if_true, if_false, ite_true, ite_false]
    rfl
  | succ k ih =>
    intro i N hi hN
    obtain ⟨N, rfl⟩ : ∃ N', N = N' + 1 := ⟨N - 1, by omega⟩
    obtain ⟨o, ho, eo⟩ := zIn_of (hw.2.2.1 i (by omega))
    rw [f_X4_behind_L4, h4, if_pos (show (0 : Int32) = 0 from rfl), f_X4_behind_B43, if_pos rfl]
    simp (disch := omega) only [zl_2, zl_3, zl_4, zl_5, zl_6, zl_7, zl_8, zl_12, zl_20, zl_24, zl_28, zl_40, zl_60, zl_300, zl_320, zl_400, zl_600, zd_lt0, zd_l0n, zd_l0y, zd_0lt, zd_1lt, zd_1lty, zd_e0n, zd_e0y, zd_e1n, zd_e1y, zd_nn, zd_ny, zd_mn, zd_my, zd_en, zd_ey, zd_e1, zd_in, zCk_T, zIx_n, nI_1, nI_add, zd_sub, zd_dec, if_true, if_false, ite_true, ite_false, zBd_some, zLt_eq, zUp_s, zUp_c, zUp_i, zCk_t]
    rw [zCP_c h 1 (by omega) (by omega) (by omega), s_pl]
    show (if S 13 i = nI n then _ else _) = _
    by_cases q : S 13 i = nI n
    · have e3 : zIx (S 13 i) = n := by rw [q, zIx_n (by omega)]
      rw [if_pos q, e3, if_pos ht, zBh, if_pos rfl]
      exact k_behind1_L h hw (nI n) k (i + 1) N (by omega) (by omega)
    · rw [if_neg q, ih (i + 1) N (by omega) (by omega)]
      by_cases q2 : S 15 (zIx (S 13 i)) = 0
      · rw [if_pos q2, zBh, if_neg (by rw [eo, zIx_n (by omega), ← eo]; exact q)]
      · rw [if_neg q2]
theorem k_behind {f : Nat} {S M : zMem} (h : zCP f S M) {e n : Nat} (hw : zWO S e) (hne : n < e) (ht : S 15 n = 0) : f_X4_behind f (nI n) M = some (zBh (s_pl S e 0) (nI n), M) := k_behind_L h hw hne ht e 0 zFu (by omega) (by have := hw.2.1; unfold zFu; omega)
theorem k_txt {f : Nat} {S M : zMem} (h : zCP f S M) {e : Nat} (hn : S 12 4 = nI e) (he : e ≤ 320) (u : Int32) : f_X4_textOf f u M = some (s_txt S u, M) := by
  have hx := zO_x hn he
  rw [f_X4_textOf, k_pth h hn he, zBd_some]
  unfold s_txt
  rw [hx]
  by_cases q : zIn u e ∧ S 15 (zIx u) = 0
  · have q1 : zIn u 320 := ⟨q.1.1, by have := q.1.2; omega⟩
    have q2 : zIx u < e := zIx_lt q.1
    rw [if_pos q, yB_t q, if_neg (by decide), zCk_t q1, zCP_c h 2 (by omega) (by omega) (by omega)]
  · rw [if_neg q, yB_f q, if_pos rfl]
theorem k_insL {f : Nat} {u t : Int32} {s e : Nat} (hse : s ≤ e) (he : e < 320) (hu : u = nI s) : ∀ k N M, k + s ≤ e → k < N → M f 4 = nI e → ∃ M', f_X4_insert_L35 f u t N (nI (k + s)) M = f_X4_insert_B60 f u t M' ∧ (∀ c, c ≠ f + 1 → M' c = M c) ∧ (∀ i, M' (f + 1) i = if s < i ∧ i ≤ k + s then M (f + 1) (i - 1) else M (f + 1) i) := by
  subst hu
  intro k
  induction k with
  | zero =>
    intro N M hk hN h4
    obtain ⟨N, rfl⟩ : ∃ N', N = N' + 1 := ⟨N - 1, by omega⟩
    refine ⟨M, ?_, fun _ _ => rfl, fun i => by rw [if_neg (by omega)]⟩
    rw [f_X4_insert_L35]
    simp (disch := omega) only [zl_2, zl_3, zl_4, zl_5, zl_6, zl_7, zl_8, zl_12, zl_20, zl_24, zl_28, zl_40, zl_60, zl_300, zl_320, zl_400, zl_600, zd_lt0, zd_l0n, zd_l0y, zd_0lt, zd_1lt, zd_1lty, zd_e0n, zd_e0y, zd_e1n, zd_e1y, zd_nn, zd_ny, zd_mn, zd_my, zd_en, zd_ey, zd_e1, zd_in, zCk_T, zIx_n, nI_1, nI_add, zd_sub, zd_dec, if_true, if_false, ite_true, ite_false]
  | succ k ih =>
    intro N M hk hN h4
    obtain ⟨N, rfl⟩ : ∃ N', N = N' + 1 := ⟨N - 1, by omega⟩
    obtain ⟨M', e1, a1, a2⟩ := ih N (zUp M (f + 1) (k + 1 + s) (M (f + 1) (k + s))) (by omega) (by omega) (by rw [zUp_c (by omega), h4])
    refine ⟨M', ?_, fun c hc => (a1 c hc).trans (zUp_off hc), fun i => ?_⟩
    · rw [f_X4_insert_L35]
      simp (disch := omega) only [zl_2, zl_3, zl_4, zl_5, zl_6, zl_7, zl_8, zl_12, zl_20, zl_24, zl_28, zl_40, zl_60, zl_300, zl_320, zl_400, zl_600, zd_lt0, zd_l0n, zd_l0y, zd_0lt, zd_1lt, zd_1lty, zd_e0n, zd_e0y, zd_e1n, zd_e1y, zd_nn, zd_ny, zd_mn, zd_my, zd_en, zd_ey, zd_e1, zd_in, zCk_T, zIx_n, nI_1, nI_add, zd_sub, zd_dec, if_true, if_false, ite_true, ite_false, zBd_some, zLt_eq, zUp_s, zUp_c, zUp_i, zCk_t]
      have e2 : k + 1 + s - 1 = k + s := by omega
      rw [e2]
      exact e1
    · rw [a2 i]
      rcases (by omega : (s < i ∧ i ≤ k + s) ∨ i = k + 1 + s ∨ ¬ (s < i ∧ i ≤ k + 1 + s)) with q | q | q
      · rw [if_pos q, if_pos (by omega), zUp_x (by omega)]
      · subst q
        rw [if_neg (by omega), if_pos (by omega), zUp_s, show k + 1 + s - 1 = k + s by omega]
      · rw [if_neg (by omega), if_neg q, zUp_x (by omega)]
theorem k_ins {f : Nat} {S M : zMem} (h : zCP f S M) {e s : Nat} (hn : S 12 4 = nI e) (he : e < 320) (hs : s ≤ e) (t : Int32) : ∃ M', f_X4_insert f (nI s) t M = some (0, M') ∧ zCP f (s_ins S s t) M' ∧ yFr f 4 M M' := by
  have hx := zO_x hn (by omega)
  have h4 : M f 4 = nI e := by rw [zCP_0 h (by omega) (by omega), hn]
  obtain ⟨M1, e1, a1, a2⟩ := k_insL (f := f) (t := t) hs he rfl (e - s) zFu M (by omega) (by unfold zFu; omega) h4
  have e2 : e - s + s = e := by omega
  rw [e2] at e1 a2
  have b4 : M1 f 4 = nI e := by rw [a1 f (by omega), h4]
  have b5 : M1 f 5 = S 12 5 := by rw [a1 f (by omega), zCP_0 h (by omega) (by omega)]
  refine ⟨zUp (zUp (zUp (zUp (zUp M1 (f + 1) s (nI e)) (f + 2) e t) (f + 3) e 0) f 4 (nI (e + 1))) f 5 (S 12 5 + 1), ?_, ?_, ?_⟩
  · rw [f_X4_insert, h4]
    simp (disch := omega) only [zl_2, zl_3, zl_4, zl_5, zl_6, zl_7, zl_8, zl_12, zl_20, zl_24, zl_28, zl_40, zl_60, zl_300, zl_320, zl_400, zl_600, zd_lt0, zd_l0n, zd_l0y, zd_0lt, zd_1lt, zd_1lty, zd_e0n, zd_e0y, zd_e1n, zd_e1y, zd_nn, zd_ny, zd_mn, zd_my, zd_en, zd_ey, zd_e1, zd_in, zCk_T, zIx_n, nI_1, nI_add, zd_sub, zd_dec, if_true, if_false, ite_true, ite_false]
    rw [e1, f_X4_insert_B60, b4]
    simp (disch := omega) only [zl_2, zl_3, zl_4, zl_5, zl_6, zl_7, zl_8, zl_12, zl_20, zl_24, zl_28, zl_40, zl_60, zl_300, zl_320, zl_400, zl_600, zd_lt0, zd_l0n, zd_l0y, zd_0lt, zd_1lt, zd_1lty, zd_e0n, zd_e0y, zd_e1n, zd_e1y, zd_nn, zd_ny, zd_mn, zd_my, zd_en, zd_ey, zd_e1, zd_in, zCk_T, zIx_n, nI_1, nI_add, zd_sub, zd_dec, if_true, if_false, ite_true, ite_false, zBd_some, zLt_eq, zUp_s, zUp_c, zUp_i, zCk_t, b4, b5]
  · unfold s_ins
    rw [hx, hn]
    refine zCP_of ?_ ?_
    · intro i h1 h2
      rcases (by omega : i = 3 ∨ i = 4 ∨ i = 5) with q | q | q
      · subst q
        simp (disch := omega) only [zUp_x, zUp_c, yPc_c]
        rw [a1 f (by omega), zCP_0 h (by omega) (by omega)]
      · subst q
        simp (disch := omega) only [zUp_x, zUp_s]
      · subst q
        rw [zUp_s, zUp_s]
    · intro j i h1 h2 hi
      rw [zUp_x (by omega), zUp_s, zIx_n (by omega)] at hi
      rcases (by omega : j = 1 ∨ j = 2 ∨ j = 3) with q | q | q
      · subst q
        simp (disch := omega) only [zUp_c, yPc_s, Nat.reduceAdd]
        by_cases q1 : i = s
        · subst q1
          rw [zUp_s, if_neg (by omega), if_pos rfl]
        · rw [zUp_x q1, a2 i]
          by_cases q2 : i < s
          · rw [if_pos q2, if_neg (by omega), zCP_c h 1 (by omega) (by omega) (by omega)]
          · rw [if_neg q2, if_neg q1, if_pos (by omega), zCP_c h 1 (by omega) (by omega) (by omega)]
      · subst q
        simp (disch := omega) only [zUp_c, Nat.reduceAdd]
        by_cases q1 : i = e
        · subst q1
          rw [zUp_s, zUp_s]
        · rw [zUp_x q1, zUp_x q1, zUp_c (by omega), yPc_c (by omega), a1 _ (by omega), zCP_c h 2 (by omega) (by omega) (by omega)]
      · subst q
        simp (disch := omega) only [zUp_c, Nat.reduceAdd]
        by_cases q1 : i = e
        · subst q1
          rw [zUp_s, zUp_s]
        · simp (disch := omega) only [zUp_x, zUp_c, yPc_c]
          rw [a1 _ (by omega), zCP_c h 3 (by omega) (by omega) (by omega)]
  · exact yFr_u (yFr_u (yFr_u (yFr_u (yFr_u (fun c hc => a1 c (by omega)) (by omega) (by omega)) (by omega) (by omega)) (by omega) (by omega)) (by omega) (by omega)) (by omega) (by omega)
theorem k_away {f : Nat} {S M : zMem} : ∃ M', f_X4_takeAway f M = some (0, M') ∧ zCP f (s_away S) M' ∧ yFr f 4 M M' := by
  refine ⟨_, rfl, ?_, yFr_u (yFr_u (yFr_u yFr_r (by omega) (by omega)) (by omega) (by omega)) (by omega) (by omega)⟩
  unfold s_away
  refine zCP_of ?_ ?_
  · intro i h1 h2
    rcases (by omega : i = 3 ∨ i = 4 ∨ i = 5) with q | q | q <;> (subst q; simp (disch := omega) only [zUp_x, zUp_s])
  · intro j i h1 h2 hi
    rw [zUp_x (by omega), zUp_s] at hi
    exact absurd hi (Nat.not_lt_zero _)
theorem zCP_u0 {f : Nat} {S M : zMem} (h : zCP f S M) (i : Nat) (v : Int32) (hi : i ≠ 4) : zCP f (zUp S 12 i v) (zUp M f i v) := by
  refine zCP_of ?_ ?_
  · intro k h1 h2
    by_cases q : k = i
    · subst q; rw [zUp_s, zUp_s]
    · rw [zUp_x q, zUp_x q, zCP_0 h h1 h2]
  · intro j k h1 h2 hk
    rw [zUp_x (fun e => hi e.symm)] at hk
    rw [zUp_c (by omega), zUp_c (by omega), zCP_c h j h1 h2 hk]
theorem zCP_up {f : Nat} {S M : zMem} (h : zCP f S M) (a i : Nat) (v : Int32) (ha : 1 ≤ a) : zCP f (zUp S (12 + a) i v) (zUp M (f + a) i v) := by
  refine zCP_of ?_ ?_
  · intro k h1 h2
    rw [zUp_c (by omega), zUp_c (by omega), zCP_0 h h1 h2]
  · intro j k h1 h2 hk
    rw [zUp_c (by omega)] at hk
    by_cases q : j = a
    · subst q
      by_cases q2 : k = i
      · subst q2; rw [zUp_s, zUp_s]
      · rw [zUp_x q2, zUp_x q2, zCP_c h j h1 h2 hk]
    · rw [zUp_c (by omega), zUp_c (by omega), zCP_c h j h1 h2 hk]
theorem s_ins_4 (S : zMem) (s : Nat) (t : Int32) : s_ins S s t 12 4 = nI (zIx (S 12 4) + 1) := by
  unfold s_ins
  rw [zUp_x (by omega), zUp_s]
theorem k_layL {f a : Nat} {b : Int32} (ha : a ≤ 20) : ∀ k i S M N, i + k = a → k < N → zCP f S M → S 12 4 = nI i → ∃ M', f_X4_lay_L23 f (nI a) b N (nI i) M = some (0, M') ∧ zCP f (s_layL b k i S) M' ∧ yFr f 4 M M' := by
  intro k
  induction k with
  | zero =>
    intro i S M N hi hN h hn
    obtain ⟨N, rfl⟩ : ∃ N', N = N' + 1 := ⟨N - 1, by omega⟩
    refine ⟨M, ?_, h, yFr_r⟩
    rw [f_X4_lay_L23]
    simp (disch := omega) only [zl_2, zl_3, zl_4, zl_5, zl_6, zl_7, zl_8, zl_12, zl_20, zl_24, zl_28, zl_40, zl_60, zl_300, zl_320, zl_400, zl_600, zd_lt0, zd_l0n, zd_l0y, zd_0lt, zd_1lt, zd_1lty, zd_e0n, zd_e0y, zd_e1n, zd_e1y, zd_nn, zd_ny, zd_mn, zd_my, zd_en, zd_ey, zd_e1, zd_in, zCk_T, zIx_n, nI_1, nI_add, zd_sub, zd_dec, if_true, if_false, ite_true, ite_false]
  | succ k ih =>
    intro i S M N hi hN h hn
    obtain ⟨N, rfl⟩ : ∃ N', N = N' + 1 := ⟨N - 1, by omega⟩
    obtain ⟨M1, e1, a1, a2⟩ := k_ins h hn (by omega) (Nat.le_refl i) (b + nI i)
    obtain ⟨M2, e2, b1, b2⟩ := ih (i + 1) _ M1 N (by omega) (by omega) a1 (by rw [s_ins_4, hn, zIx_n (by omega)])
    refine ⟨M2, ?_, b1, yFr_t a2 b2⟩
    rw [f_X4_lay_L23]
    simp (disch := omega) only [zl_2, zl_3, zl_4, zl_5, zl_6, zl_7, zl_8, zl_12, zl_20, zl_24, zl_28, zl_40, zl_60, zl_300, zl_320, zl_400, zl_600, zd_lt0, zd_l0n, zd_l0y, zd_0lt, zd_1lt, zd_1lty, zd_e0n, zd_e0y, zd_e1n, zd_e1y, zd_nn, zd_ny, zd_mn, zd_my, zd_en, zd_ey, zd_e1, zd_in, zCk_T, zIx_n, nI_1, nI_add, zd_sub, zd_dec, if_true, if_false, ite_true, ite_false]
    rw [e1, zBd_some, e2]
theorem k_lay {f : Nat} {S M : zMem} (h : zCP f S M) {a : Nat} (ha : a < 2 ^ 31) (b : Int32) : ∃ M', f_X4_lay f (nI a) b M = some (0, M') ∧ zCP f (s_lay S a b) M' ∧ yFr f 4 M M' := by
  rw [f_X4_lay]
  unfold s_lay
  by_cases q : 1 ≤ a ∧ a ≤ 20
  · rw [if_pos q]
    simp (disch := omega) only [zl_2, zl_3, zl_4, zl_5, zl_6, zl_7, zl_8, zl_12, zl_20, zl_24, zl_28, zl_40, zl_60, zl_300, zl_320, zl_400, zl_600, zd_lt0, zd_l0n, zd_l0y, zd_0lt, zd_1lt, zd_1lty, zd_e0n, zd_e0y, zd_e1n, zd_e1y, zd_nn, zd_ny, zd_mn, zd_my, zd_en, zd_ey, zd_e1, zd_in, zCk_T, zIx_n, nI_1, nI_add, zd_sub, zd_dec, if_true, if_false, ite_true, ite_false]
    obtain ⟨M1, e1, a1, a2⟩ := k_away (f := f) (S := S) (M := M)
    obtain ⟨M2, e2, b1, b2⟩ := k_layL (f := f) (b := b) q.2 a 0 (zUp (s_away S) 12 3 1) (zUp M1 f 3 1) zFu (by omega) (by unfold zFu; omega) (zCP_u0 a1 3 1 (by omega)) (by
      rw [zUp_x (by omega)]
      unfold s_away
      rw [zUp_x (by omega), zUp_s]
      rfl)
    exact ⟨M2, by rw [e1, zBd_some, zLt_eq]; exact e2, b1, yFr_t (yFr_u a2 (by omega) (by omega)) b2⟩
  · rw [if_neg q]
    refine ⟨M, ?_, h, yFr_r⟩
    by_cases q1 : a < 1
    · simp (disch := omega) only [zl_2, zl_3, zl_4, zl_5, zl_6, zl_7, zl_8, zl_12, zl_20, zl_24, zl_28, zl_40, zl_60, zl_300, zl_320, zl_400, zl_600, zd_lt0, zd_l0n, zd_l0y, zd_0lt, zd_1lt, zd_1lty, zd_e0n, zd_e0y, zd_e1n, zd_e1y, zd_nn, zd_ny, zd_mn, zd_my, zd_en, zd_ey, zd_e1, zd_in, zCk_T, zIx_n, nI_1, nI_add, zd_sub, zd_dec, if_true, if_false, ite_true, ite_false]
    · simp (disch := omega) only [zl_2, zl_3, zl_4, zl_5, zl_6, zl_7, zl_8, zl_12, zl_20, zl_24, zl_28, zl_40, zl_60, zl_300, zl_320, zl_400, zl_600, zd_lt0, zd_l0n, zd_l0y, zd_0lt, zd_1lt, zd_1lty, zd_e0n, zd_e0y, zd_e1n, zd_e1y, zd_nn, zd_ny, zd_mn, zd_my, zd_en, zd_ey, zd_e1, zd_in, zCk_T, zIx_n, nI_1, nI_add, zd_sub, zd_dec, if_true, if_false, ite_true, ite_false]
theorem k_rem {f : Nat} {S M : zMem} (h : zCP f S M) {e : Nat} (hn : S 12 4 = nI e) (he : e ≤ 320) (u : Int32) : ∃ M', f_X4_remove f u M = some (0, M') ∧ zCP f (if zIn u e ∧ S 15 (zIx u) = 0 then s_rem S (zIx u) else S) M' ∧ yFr f 4 M M' := by
  rw [f_X4_remove, k_pth h hn he, zBd_some]
  by_cases q : zIn u e ∧ S 15 (zIx u) = 0
  · have q1 : zIn u 320 := ⟨q.1.1, by have := q.1.2; omega⟩
    rw [if_pos q, yB_t q, if_neg (by decide), zCk_t q1, zLt_eq, zLt_eq, zUp_c (by omega), zCP_0 h (by omega) (by omega), zCP_0 h (by omega) (by omega)]
    exact ⟨_, rfl, zCP_u0 (zCP_up h 3 _ _ (by omega)) 5 _ (by omega), yFr_u (yFr_u yFr_r (by omega) (by omega)) (by omega) (by omega)⟩
  · rw [if_neg q, yB_f q, if_pos rfl]
    exact ⟨M, rfl, h, yFr_r⟩
theorem s_spot_le (S : zMem) (u c : Int32) : ∀ k i x, x ≤ i → s_spot S u c k i x ≤ i + k
  | 0, i, x, h => by unfold s_spot; omega
  | k + 1, i, x, h => by
    unfold s_spot
    by_cases q : S 15 (zIx (S 13 i)) = 0 ∧ S 13 i < c
    · simp only [if_pos q]
      by_cases q2 : S 13 i = u
      · rw [if_pos q2]; omega
      · rw [if_neg q2]
        have := s_spot_le S u c k (i + 1) (i + 1) (by omega)
        omega
    · simp only [if_neg q]
      by_cases q2 : S 13 i = u
      · rw [if_pos q2]; omega
      · rw [if_neg q2]
        have := s_spot_le S u c k (i + 1) x (by omega)
        omega
theorem k_spot_L {f : Nat} {S M : zMem} (h : zCP f S M) {e : Nat} (hw : zWO S e) (u t c : Int32) : ∀ k i x N, i + k = e → x ≤ i → k < N → f_X4_addBehind_L46 f u t N c (nI x) (nI i) M = f_X4_addBehind_B114 f u t (nI (s_spot S u c k i x)) M := by
  have hn := hw.1
  have he := hw.2.1
  have hx := zO_x hn he
  have h4 : M f 4 = nI e := by rw [zCP_0 h (by omega) (by omega), hn]
  intro k
  induction k with
  | zero =>
    intro i x N hi hx2 hN
    obtain ⟨N, rfl⟩ : ∃ N', N = N' + 1 := ⟨N - 1, by omega⟩
    rw [f_X4_addBehind_L46, h4]
    simp (disch := omega) only [zl_2, zl_3, zl_4, zl_5, zl_6, zl_7, zl_8, zl_12, zl_20, zl_24, zl_28, zl_40, zl_60, zl_300, zl_320, zl_400, zl_600, zd_lt0, zd_l0n, zd_l0y, zd_0lt, zd_1lt, zd_1lty, zd_e0n, zd_e0y, zd_e1n, zd_e1y, zd_nn, zd_ny, zd_mn, zd_my, zd_en, zd_ey, zd_e1, zd_in, zCk_T, zIx_n, nI_1, nI_add, zd_sub, zd_dec, if_true, if_false, ite_true, ite_false]
    rfl
  | succ k ih =>
    intro i x N hi hx2 hN
    obtain ⟨N, rfl⟩ : ∃ N', N = N' + 1 := ⟨N - 1, by omega⟩
    rw [f_X4_addBehind_L46, h4]
    unfold f_X4_addBehind_B94 f_X4_addBehind_B105
    simp (disch := omega) only [zl_2, zl_3, zl_4, zl_5, zl_6, zl_7, zl_8, zl_12, zl_20, zl_24, zl_28, zl_40, zl_60, zl_300, zl_320, zl_400, zl_600, zd_lt0, zd_l0n, zd_l0y, zd_0lt, zd_1lt, zd_1lty, zd_e0n, zd_e0y, zd_e1n, zd_e1y, zd_nn, zd_ny, zd_mn, zd_my, zd_en, zd_ey, zd_e1, zd_in, zCk_T, zIx_n, nI_1, nI_add, zd_sub, zd_dec, if_true, if_false, ite_true, ite_false, zBd_some, zLt_eq, zUp_s, zUp_c, zUp_i, zCk_t]
    rw [zCP_c h 1 (by omega) (by omega) (by omega), k_pth_o h hw (by omega), zBd_some, zCP_c h 1 (by omega) (by omega) (by omega), s_spot]
    show (if yB _ = 0 then (if S 13 i = u then _ else _) else (if c ≤ S 13 i then (if S 13 i = u then _ else _) else (if S 13 i = u then _ else _))) = _
    by_cases q : S 15 (zIx (S 13 i)) = 0
    · rw [yB_t q, if_neg (show ¬ (1 : Int32) = 0 by decide)]
      by_cases q1 : c ≤ S 13 i
      · have q3 : ¬ (S 15 (zIx (S 13 i)) = 0 ∧ S 13 i < c) := fun y => Int32.not_lt.mpr q1 y.2
        rw [if_pos q1, if_neg q3]
        by_cases q2 : S 13 i = u
        · rw [if_pos q2, if_pos q2]
        · rw [if_neg q2, if_neg q2]
          exact ih (i + 1) x N (by omega) (by omega) (by omega)
      · have q3 : (S 15 (zIx (S 13 i)) = 0 ∧ S 13 i < c) := ⟨q, Int32.not_le.mp q1⟩
        rw [if_neg q1, if_pos q3]
        by_cases q2 : S 13 i = u
        · rw [if_pos q2, if_pos q2]
        · rw [if_neg q2, if_neg q2]
          exact ih (i + 1) (i + 1) N (by omega) (by omega) (by omega)
    · have q3 : ¬ (S 15 (zIx (S 13 i)) = 0 ∧ S 13 i < c) := fun y => q y.1
      rw [yB_f q, if_pos (show (0 : Int32) = 0 from rfl), if_neg q3]
      by_cases q2 : S 13 i = u
      · rw [if_pos q2, if_pos q2]
      · rw [if_neg q2, if_neg q2]
        exact ih (i + 1) x N (by omega) (by omega) (by omega)
def s_add (S : zMem) (n : Nat) (t : Int32) : zMem := if n < zIx (S 12 4) ∧ S 12 5 < 40 then s_ins S (s_spot S (nI n) (if S 15 n = 0 then S 12 4 else S 15 n) (zIx (S 12 4)) 0 0) t else S
theorem k_add {f : Nat} {S M : zMem} (h : zCP f S M) {e n : Nat} (hw : zWO S e) (he : e < 320) (hn31 : n < 2 ^ 31) (t : Int32) : ∃ M', f_X4_addBehind f (nI n) t M = some (0, M') ∧ zCP f (s_add S n t) M' ∧ yFr f 4 M M' := by
  have hn := hw.1
  have hx := zO_x hn (by omega)
  have h4 : M f 4 = nI e := by rw [zCP_0 h (by omega) (by omega), hn]
  have h5 : M f 5 = S 12 5 := by rw [zCP_0 h (by omega) (by omega)]
  rw [f_X4_addBehind, f_X4_wasEver, h4]
  unfold s_add
  rw [hx]
  by_cases q : n < e
  · rw [if_neg (nI_pos hn31), if_neg (nI_ge q (by omega)), if_neg (show ¬ (320 : Int32) ≤ nI n from nI_ge (b := 320) (by omega) (by omega)), zBd_some, h5, if_neg (show ¬ (1 : Int32) = 0 by decide)]
    by_cases q1 : S 12 5 < 40
    · rw [if_pos q1, if_pos ⟨q, q1⟩, k_pth h hn (by omega), zBd_some, zIx_n hn31]
      have hg : ∀ c : Int32, ∃ M', f_X4_addBehind_L46 f (nI n) t zFu c 0 0 M = some (0, M') ∧ zCP f (s_ins S (s_spot S (nI n) c e 0 0) t) M' ∧ yFr f 4 M M' := by
        intro c
        have e1 := k_spot_L h hw (nI n) t c e 0 0 zFu (by omega) (by omega) (by unfold zFu; omega)
        have hl := s_spot_le S (nI n) c e 0 0 (by omega)
        obtain ⟨M1, e2, a1, a2⟩ := k_ins h hn he (s := s_spot S (nI n) c e 0 0) (by omega) t
        refine ⟨M1, ?_, a1, a2⟩
        show f_X4_addBehind_L46 f (nI n) t zFu c (nI 0) (nI 0) M = _
        rw [e1, f_X4_addBehind_B114, e2, zBd_some]
      by_cases q2 : S 15 n = 0
      · rw [if_pos q2, yB_t ⟨zIn_n q (by omega), q2⟩, if_neg (show ¬ (1 : Int32) = 0 by decide), h4, hn]
        exact hg (nI e)
      · rw [if_neg q2, yB_f (fun x => q2 x.2), if_pos (show (0 : Int32) = 0 from rfl), zCk_t (zIn_n (by omega) (by omega)), zCP_c h 3 (by omega) (by omega) (by omega)]
        exact hg (S 15 n)
    · rw [if_neg q1, if_neg (show ¬ (n < e ∧ S 12 5 < 40) from fun x => q1 x.2)]
      exact ⟨M, rfl, h, yFr_r⟩
  · rw [if_neg (show ¬ (n < e ∧ S 12 5 < 40) from fun x => q x.1), if_neg (nI_pos hn31), if_pos (nI_le (by omega) hn31), zBd_some, if_pos rfl]
    exact ⟨M, rfl, h, yFr_r⟩
theorem zd_div : ∀ A, A < 1000 → nI A / 4 = nI (A / 4) ∧ nI A - nI A / 4 * 4 = nI (A % 4) := by decide +kernel
def s_amend (S : zMem) (a : Nat) (b : Int32) : zMem :=
  if a % 4 = 0 then s_add S (a / 4) b
  else if ¬ (a / 4 < zIx (S 12 4) ∧ S 15 (a / 4) = 0) then S
  else if a % 4 = 1 then s_rem S (a / 4)
  else if a % 4 = 2 then zUp S 14 (a / 4) b
  else (fun (S1 : zMem) => if zIn (zBh (s_pl S (zIx (S 12 4)) 0) (nI (a / 4))) (zIx (S 12 4)) ∧ S1 15 (zIx (zBh (s_pl S (zIx (S 12 4)) 0) (nI (a / 4)))) = 0 then s_rem S1 (zIx (zBh (s_pl S (zIx (S 12 4)) 0) (nI (a / 4)))) else S1) (zUp S 14 (a / 4) (zMax (S 14 (a / 4)) (s_txt S (zBh (s_pl S (zIx (S 12 4)) 0) (nI (a / 4))))))
theorem k_amend {f : Nat} {S M : zMem} (h : zCP f S M) {e a : Nat} (hw : zWO S e) (he : e < 320) (ha : a < 1000) (b : Int32) : ∃ M', f_X4_amend f (nI a) b M = some (0, M') ∧ zCP f (s_amend S a b) M' ∧ yFr f 4 M M' := by
  have hn := hw.1
  have hx := zO_x hn (by omega)
  have hd := zd_div a ha
  have hd1 : a / 4 < 250 := by omega
  rw [f_X4_amend, hd.2, hd.1]
  unfold s_amend
  rw [hx]
  by_cases q0 : a % 4 = 0
  · rw [if_pos q0]
    simp (disch := omega) only [zl_2, zl_3, zl_4, zl_5, zl_6, zl_7, zl_8, zl_12, zl_20, zl_24, zl_28, zl_40, zl_60, zl_300, zl_320, zl_400, zl_600, zd_lt0, zd_l0n, zd_l0y, zd_0lt, zd_1lt, zd_1lty, zd_e0n, zd_e0y, zd_e1n, zd_e1y, zd_nn, zd_ny, zd_mn, zd_my, zd_en, zd_ey, zd_e1, zd_in, zCk_T, zIx_n, nI_1, nI_add, zd_sub, zd_dec, if_true, if_false, ite_true, ite_false]
    obtain ⟨M1, e1, a1, a2⟩ := k_add h hw he (n := a / 4) (by omega) b
    exact ⟨M1, by rw [e1, zBd_some], a1, a2⟩
  · rw [if_neg q0]
    simp (disch := omega) only [zl_2, zl_3, zl_4, zl_5, zl_6, zl_7, zl_8, zl_12, zl_20, zl_24, zl_28, zl_40, zl_60, zl_300, zl_320, zl_400, zl_600, zd_lt0, zd_l0n, zd_l0y, zd_0lt, zd_1lt, zd_1lty, zd_e0n, zd_e0y, zd_e1n, zd_e1y, zd_nn, zd_ny, zd_mn, zd_my, zd_en, zd_ey, zd_e1, zd_in, zCk_T, zIx_n, nI_1, nI_add, zd_sub, zd_dec, if_true, if_false, ite_true, ite_false]
    rw [k_pth h hn (by omega), zBd_some, zIx_n (by omega)]
    by_cases qt : a / 4 < e ∧ S 15 (a / 4) = 0
    · rw [if_neg (show ¬ ¬ (a / 4 < e ∧ S 15 (a / 4) = 0) from fun x => x qt), yB_t ⟨zIn_n qt.1 (by omega), qt.2⟩, if_neg (show ¬ (1 : Int32) = 0 by decide)]
      by_cases q1 : a % 4 = 1
      · rw [if_pos q1]
        simp (disch := omega) only [zl_2, zl_3, zl_4, zl_5, zl_6, zl_7, zl_8, zl_12, zl_20, zl_24, zl_28, zl_40, zl_60, zl_300, zl_320, zl_400, zl_600, zd_lt0, zd_l0n, zd_l0y, zd_0lt, zd_1lt, zd_1lty, zd_e0n, zd_e0y, zd_e1n, zd_e1y, zd_nn, zd_ny, zd_mn, zd_my, zd_en, zd_ey, zd_e1, zd_in, zCk_T, zIx_n, nI_1, nI_add, zd_sub, zd_dec, if_true, if_false, ite_true, ite_false]
        obtain ⟨M1, e1, a1, a2⟩ := k_rem h hn (by omega) (nI (a / 4))
        rw [zIx_n (by omega), if_pos ⟨zIn_n qt.1 (by omega), qt.2⟩] at a1
        exact ⟨M1, by rw [e1, zBd_some], a1, a2⟩
      · rw [if_neg q1]
        by_cases q2 : a % 4 = 2
        · rw [if_pos q2]
          simp (disch := omega) only [zl_2, zl_3, zl_4, zl_5, zl_6, zl_7, zl_8, zl_12, zl_20, zl_24, zl_28, zl_40, zl_60, zl_300, zl_320, zl_400, zl_600, zd_lt0, zd_l0n, zd_l0y, zd_0lt, zd_1lt, zd_1lty, zd_e0n, zd_e0y, zd_e1n, zd_e1y, zd_nn, zd_ny, zd_mn, zd_my, zd_en, zd_ey, zd_e1, zd_in, zCk_T, zIx_n, nI_1, nI_add, zd_sub, zd_dec, if_true, if_false, ite_true, ite_false, zBd_some, zLt_eq, zUp_s, zUp_c, zUp_i, zCk_t]
          exact ⟨_, rfl, zCP_up h 2 _ _ (by omega), yFr_u yFr_r (by omega) (by omega)⟩
        · rw [if_neg q2]
          simp (disch := omega) only [zl_2, zl_3, zl_4, zl_5, zl_6, zl_7, zl_8, zl_12, zl_20, zl_24, zl_28, zl_40, zl_60, zl_300, zl_320, zl_400, zl_600, zd_lt0, zd_l0n, zd_l0y, zd_0lt, zd_1lt, zd_1lty, zd_e0n, zd_e0y, zd_e1n, zd_e1y, zd_nn, zd_ny, zd_mn, zd_my, zd_en, zd_ey, zd_e1, zd_in, zCk_T, zIx_n, nI_1, nI_add, zd_sub, zd_dec, if_true, if_false, ite_true, ite_false]
          rw [k_behind h hw qt.1 qt.2, zBd_some, k_txt h hn (by omega), zBd_some, zLt_eq, zCP_c h 2 (by omega) (by omega) (by omega)]
          have h1 := zCP_up h 2 (a / 4) (zMax (S (12 + 2) (a / 4)) (s_txt S (zBh (s_pl S e 0) (nI (a / 4))))) (by omega)
          obtain ⟨M1, e1, a1, a2⟩ := k_rem h1 (e := e) (by rw [zUp_c (by omega), hn]) (by omega) (zBh (s_pl S e 0) (nI (a / 4)))
          exact ⟨M1, by rw [e1, zBd_some], a1, yFr_t (yFr_u yFr_r (by omega) (by omega)) a2⟩
    · rw [if_pos (show ¬ (a / 4 < e ∧ S 15 (a / 4) = 0) from qt), yB_f (fun x => qt ⟨by
        obtain ⟨j, hj, ej⟩ := zIn_of x.1
        have := (nI_eq (a := a / 4) (by omega) (by omega)).mp ej
        omega, x.2⟩), if_pos rfl]
      exact ⟨M, rfl, h, yFr_r⟩
/-- may this amendment be moved -/
def s_mayAm (S : zMem) (a : Nat) : Prop := a / 4 < zIx (S 12 4) ∧ S 15 (a / 4) = 0 ∧ (a % 4 = 0 → S 12 5 < 40) ∧ (a % 4 = 3 → zBh (s_pl S (zIx (S 12 4)) 0) (nI (a / 4)) ≠ -1)
theorem k_mayAm {f : Nat} {S M : zMem} (h : zCP f S M) {e a : Nat} (hw : zWO S e) (ha : a < 1000) : ∃ r, f_X4_mayAmend f (nI a) M = some (r, M) ∧ (r = 0 ∨ r = 1) ∧ (r = 1 ↔ s_mayAm S a) := by
  have hn := hw.1
  have he := hw.2.1
  have hx := zO_x hn (by omega)
  have hd := zd_div a ha
  have hd1 : a / 4 < 250 := by omega
  have h5 : M f 5 = S 12 5 := by rw [zCP_0 h (by omega) (by omega)]
  rw [f_X4_mayAmend, hd.2, hd.1, k_pth h hn he, zBd_some, zIx_n (by omega)]
  unfold s_mayAm
  rw [hx]
  by_cases qt : a / 4 < e ∧ S 15 (a / 4) = 0
  · rw [yB_t ⟨zIn_n qt.1 (by omega), qt.2⟩, if_neg (show ¬ (1 : Int32) = 0 by decide), h5]
    by_cases q0 : a % 4 = 0
    · rw [if_pos (show nI (a % 4) = 0 by rw [q0]; rfl)]
      by_cases q1 : 40 ≤ S 12 5
      · rw [if_pos q1]
        exact ⟨0, rfl, Or.inl rfl, by simp [q0, Int32.not_lt.mpr q1]⟩
      · rw [if_neg q1]
        exact ⟨1, rfl, Or.inr rfl, by simp [q0, qt, Int32.not_le.mp q1]⟩
    · rw [if_neg (show ¬ nI (a % 4) = 0 from nI_ne0 (by omega) (by omega))]
      by_cases q3 : a % 4 = 3
      · rw [if_pos (show nI (a % 4) = 3 by rw [q3]; rfl)]
        rw [k_behind h hw qt.1 qt.2, zBd_some]
        by_cases q4 : zBh (s_pl S e 0) (nI (a / 4)) = -1
        · rw [if_pos q4]
          exact ⟨0, rfl, Or.inl rfl, by simp [q3, q4]⟩
        · rw [if_neg q4]
          exact ⟨1, rfl, Or.inr rfl, by simp [q0, q3, q4, qt]⟩
      · rw [if_neg (show ¬ nI (a % 4) = 3 from fun y => q3 ((nI_eq (b := 3) (by omega) (by omega)).mp y))]
        exact ⟨1, rfl, Or.inr rfl, by simp [q0, q3, qt]⟩
  · rw [yB_f (fun x => qt ⟨by
        obtain ⟨j, hj, ej⟩ := zIn_of x.1
        have := (nI_eq (a := a / 4) (by omega) (by omega)).mp ej
        omega, x.2⟩), if_pos rfl]
    refine ⟨0, rfl, Or.inl rfl, ⟨fun x => absurd x (by decide), fun x => absurd ⟨x.1, x.2.1⟩ qt⟩⟩
