/-! the motions' trees -/
theorem zUp_x {M : zMem} {c b i j : Nat} {v : Int32} (h : j ≠ i) : zUp M c i v b j = M b j := if_neg (fun q => h q.2)
theorem k_rankOf {M E : zMem} (h4 : M 4 = E 4) {d : Nat} (hd : d < 8) : f_X6_rankOf 3 (nI d) M = some (E 4 d, M) := by
  rw [f_X6_rankOf, k_isKind, zBd_some, if_neg (by rw [yB_0]; exact fun q => q (zIn_n hd (by omega))), zCk_t (zIn_n hd (by omega)), zIx_n (by omega)]
  show some (M 4 d, M) = _
  rw [h4]
theorem k_lets {M : zMem} (o : Nat) (u : Int32) : f_X6_lets o u M = some (yB (zIn u 8 ∧ 0 < M (o + 1) (zIx u)), M) := by
  rw [f_X6_lets, k_isKind, zBd_some]
  by_cases q : zIn u 8
  · rw [yB_t q, if_neg (by decide), zCk_t q]
    by_cases q2 : M (o + 1) (zIx u) ≤ 0
    · rw [if_pos q2, yB_f (fun x => Int32.not_le.mpr x.2 q2)]
    · rw [if_neg q2, yB_t ⟨q, Int32.not_le.mp q2⟩]
  · rw [yB_f q, if_pos rfl, yB_f (fun x => q x.1)]
theorem k_top {f : Nat} {S M : zMem} (h : zCM f S M) {n : Nat} (hn : S 4 8 = nI n) (h8 : n ≤ 8) : f_X3_top f M = some (if n = 0 then -1 else nI (n - 1), M) := by
  rw [f_X3_top, zCM_8 h, hn]
  by_cases q : n = 0
  · subst q
    rw [if_pos (by decide), if_pos rfl]
  · rw [if_neg q]
    simp (disch := omega) only [zl_2, zl_3, zl_4, zl_5, zl_6, zl_7, zl_8, zl_12, zl_20, zl_24, zl_28, zl_40, zl_60, zl_300, zl_320, zl_400, zl_600, zd_lt0, zd_l0n, zd_l0y, zd_0lt, zd_1lt, zd_1lty, zd_e0n, zd_e0y, zd_e1n, zd_e1y, zd_nn, zd_ny, zd_mn, zd_my, zd_en, zd_ey, zd_e1, zd_in, zCk_T, zIx_n, nI_1, nI_add, zd_sub, zd_dec, if_true, if_false, ite_true, ite_false]
theorem k_full {f : Nat} {S M : zMem} (h : zCM f S M) {n : Nat} (hn : S 4 8 = nI n) (h8 : n ≤ 8) : f_X3_isFull f M = some (yB (8 ≤ n), M) := by
  rw [f_X3_isFull, zCM_8 h, hn]
  by_cases q : 8 ≤ n
  · rw [yB_t q]
    simp (disch := omega) only [zl_2, zl_3, zl_4, zl_5, zl_6, zl_7, zl_8, zl_12, zl_20, zl_24, zl_28, zl_40, zl_60, zl_300, zl_320, zl_400, zl_600, zd_lt0, zd_l0n, zd_l0y, zd_0lt, zd_1lt, zd_1lty, zd_e0n, zd_e0y, zd_e1n, zd_e1y, zd_nn, zd_ny, zd_mn, zd_my, zd_en, zd_ey, zd_e1, zd_in, zCk_T, zIx_n, nI_1, nI_add, zd_sub, zd_dec, if_true, if_false, ite_true, ite_false]
  · rw [yB_f q]
    simp (disch := omega) only [zl_2, zl_3, zl_4, zl_5, zl_6, zl_7, zl_8, zl_12, zl_20, zl_24, zl_28, zl_40, zl_60, zl_300, zl_320, zl_400, zl_600, zd_lt0, zd_l0n, zd_l0y, zd_0lt, zd_1lt, zd_1lty, zd_e0n, zd_e0y, zd_e1n, zd_e1y, zd_nn, zd_ny, zd_mn, zd_my, zd_en, zd_ey, zd_e1, zd_in, zCk_T, zIx_n, nI_1, nI_add, zd_sub, zd_dec, if_true, if_false, ite_true, ite_false]
theorem k_has_L {f : Nat} {S M : zMem} (h : zCM f S M) {n : Nat} (hn : S 4 8 = nI n) (h8 : n ≤ 8) (u : Int32) : ∀ k i N, i + k = n → k < N → f_X3_has_L2 f u N (nI i) M = some (yB (zFi (S 5) u k i < n), M) := by
  have h4 : M f 8 = nI n := by rw [zCM_8 h, hn]
  have hx : zIx (S 4 8) = n := by rw [hn, zIx_n (by omega)]
  intro k
  induction k with
  | zero =>
    intro i N hi hN
    obtain ⟨N, rfl⟩ : ∃ N', N = N' + 1 := ⟨N - 1, by omega⟩
    rw [f_X3_has_L2, h4]
    simp (disch := omega) only [zl_2, zl_3, zl_4, zl_5, zl_6, zl_7, zl_8, zl_12, zl_20, zl_24, zl_28, zl_40, zl_60, zl_300, zl_320, zl_400, zl_600, zd_lt0, zd_l0n, zd_l0y, zd_0lt, zd_1lt, zd_1lty, zd_e0n, zd_e0y, zd_e1n, zd_e1y, zd_nn, zd_ny, zd_mn, zd_my, zd_en, zd_ey, zd_e1, zd_in, zCk_T, zIx_n, nI_1, nI_add, zd_sub, zd_dec, if_true, if_false, ite_true, ite_false]
    rw [yB_f (by unfold zFi; omega)]
  | succ k ih =>
    intro i N hi hN
    obtain ⟨N, rfl⟩ : ∃ N', N = N' + 1 := ⟨N - 1, by omega⟩
    rw [f_X3_has_L2, h4]
    simp (disch := omega) only [zl_2, zl_3, zl_4, zl_5, zl_6, zl_7, zl_8, zl_12, zl_20, zl_24, zl_28, zl_40, zl_60, zl_300, zl_320, zl_400, zl_600, zd_lt0, zd_l0n, zd_l0y, zd_0lt, zd_1lt, zd_1lty, zd_e0n, zd_e0y, zd_e1n, zd_e1y, zd_nn, zd_ny, zd_mn, zd_my, zd_en, zd_ey, zd_e1, zd_in, zCk_T, zIx_n, nI_1, nI_add, zd_sub, zd_dec, if_true, if_false, ite_true, ite_false, zBd_some, zLt_eq, zUp_s, zUp_c, zUp_i, zCk_t]
    rw [zCM_c h 1 (by omega) (by omega) (by omega), ih (i + 1) N (by omega) (by omega), zFi]
    by_cases q : S 5 i = u
    · rw [if_pos q, if_pos q, yB_t (by omega)]
    · rw [if_neg q, if_neg q]
theorem k_has {f : Nat} {S M : zMem} (h : zCM f S M) {n : Nat} (hn : S 4 8 = nI n) (h8 : n ≤ 8) (u : Int32) : f_X3_has f u M = some (yB (zFi (S 5) u n 0 < n), M) := k_has_L h hn h8 u n 0 zFu (by omega) (by unfold zFu; omega)
theorem k_outr {f : Nat} {S M E : zMem} (h : zCM f S M) (hE : M 4 = E 4) {n d : Nat} (hn : S 4 8 = nI n) (h8 : n ≤ 8) (hk : ∀ i, i < n → zIn (S 5 i) 8) (hd : d < 8) : f_X3_isOutrankedBy f (nI d) M = some (yB (n = 0 ∨ E 4 (zIx (S 5 (n - 1))) < E 4 d), M) := by
  have hx : zIx (S 4 8) = n := by rw [hn, zIx_n (by omega)]
  rw [f_X3_isOutrankedBy, k_top h hn h8, zBd_some]
  by_cases q : n = 0
  · rw [if_pos q, if_pos rfl, yB_t (Or.inl q)]
  · obtain ⟨e, he, ee⟩ := zIn_of (hk (n - 1) (by omega))
    rw [if_neg q]
    simp (disch := omega) only [zl_2, zl_3, zl_4, zl_5, zl_6, zl_7, zl_8, zl_12, zl_20, zl_24, zl_28, zl_40, zl_60, zl_300, zl_320, zl_400, zl_600, zd_lt0, zd_l0n, zd_l0y, zd_0lt, zd_1lt, zd_1lty, zd_e0n, zd_e0y, zd_e1n, zd_e1y, zd_nn, zd_ny, zd_mn, zd_my, zd_en, zd_ey, zd_e1, zd_in, zCk_T, zIx_n, nI_1, nI_add, zd_sub, zd_dec, if_true, if_false, ite_true, ite_false, zBd_some, zLt_eq, zUp_s, zUp_c, zUp_i, zCk_t]
    rw [k_rankOf hE hd, zBd_some, zCM_c h 1 (by omega) (by omega) (by omega), ee, k_rankOf hE he, zBd_some, zIx_n (by omega)]
    by_cases q2 : E 4 d ≤ E 4 e
    · rw [if_pos q2, yB_f (fun x => x.elim q (fun y => Int32.not_lt.mpr q2 y))]
    · rw [if_neg q2, yB_t (Or.inr (Int32.not_le.mp q2))]
theorem k_maySec {f : Nat} {S M : zMem} (h : zCM f S M) {n : Nat} (hn : S 4 8 = nI n) (h8 : n ≤ 8) (u : Int32) : f_X3_maySecond f u M = some (yB (0 < n ∧ S 10 (n - 1) = 0 ∧ S 6 (n - 1) ≠ u), M) := by
  have hx : zIx (S 4 8) = n := by rw [hn, zIx_n (by omega)]
  rw [f_X3_maySecond, k_top h hn h8, zBd_some]
  by_cases q : n = 0
  · rw [if_pos q, if_pos rfl, yB_f (by omega)]
  · rw [if_neg q]
    simp (disch := omega) only [zl_2, zl_3, zl_4, zl_5, zl_6, zl_7, zl_8, zl_12, zl_20, zl_24, zl_28, zl_40, zl_60, zl_300, zl_320, zl_400, zl_600, zd_lt0, zd_l0n, zd_l0y, zd_0lt, zd_1lt, zd_1lty, zd_e0n, zd_e0y, zd_e1n, zd_e1y, zd_nn, zd_ny, zd_mn, zd_my, zd_en, zd_ey, zd_e1, zd_in, zCk_T, zIx_n, nI_1, nI_add, zd_sub, zd_dec, if_true, if_false, ite_true, ite_false, zBd_some, zLt_eq, zUp_s, zUp_c, zUp_i, zCk_t]
    rw [zCM_c h 6 (by omega) (by omega) (by omega), zCM_c h 2 (by omega) (by omega) (by omega)]
    by_cases q1 : S 10 (n - 1) = 0
    · rw [if_pos q1]
      by_cases q2 : S 6 (n - 1) = u
      · rw [if_pos q2, yB_f (by simp [q2])]
      · rw [if_neg q2, yB_t ⟨by omega, q1, q2⟩]
    · rw [if_neg q1, yB_f (by simp [q1])]
theorem k_mayDec {f : Nat} {S M E : zMem} (h : zCM f S M) (hE : M 5 = E 5) {n : Nat} (hn : S 4 8 = nI n) (h8 : n ≤ 8) (hk : ∀ i, i < n → zIn (S 5 i) 8) (b : Int32) : f_X3_mayDecide f b M = some (yB (0 < n ∧ S 10 (n - 1) ≠ 0 ∧ S 11 (n - 1) ≠ 0 ∧ yB (E 5 (zIx (S 5 (n - 1))) = 3) = b), M) := by
  have hx : zIx (S 4 8) = n := by rw [hn, zIx_n (by omega)]
  rw [f_X3_mayDecide, k_top h hn h8, zBd_some]
  by_cases q : n = 0
  · rw [if_pos q, if_pos rfl, yB_f (by omega)]
  · obtain ⟨e, he, ee⟩ := zIn_of (hk (n - 1) (by omega))
    rw [if_neg q, if_neg (by rw [zd_e1 (by omega)]; exact fun x => x), zCk_t (zIn_n (by omega) (by omega)), zIx_n (by omega), zCM_c h 1 (by omega) (by omega) (by omega), show S (4 + 1) (n - 1) = nI e from ee, k_isKind, zBd_some, if_neg (by rw [yB_0]; exact fun q => q (zIn_n he (by omega))), zCk_t (zIn_n (by omega) (by omega)), zCk_t (zIn_n (by omega) (by omega)), zCk_t (zIn_n (by omega) (by omega)), zCM_c h 1 (by omega) (by omega) (by omega), zCM_c h 6 (by omega) (by omega) (by omega), zCM_c h 7 (by omega) (by omega) (by omega), ee, zCk_t (zIn_n he (by omega)), zIx_n (by omega)]
    have e5 : M (3 + 2) e = E 5 e := by rw [← hE]
    rw [e5]
    unfold f_X3_mayDecide_B65
    show (if S 10 (n - 1) = 0 then _ else if S 11 (n - 1) = 0 then _ else _) = _
    by_cases q1 : S 10 (n - 1) = 0
    · rw [if_pos q1, yB_f (by simp [q1])]
    rw [if_neg q1]
    by_cases q2 : S 11 (n - 1) = 0
    · rw [if_pos q2, yB_f (by simp [q2])]
    rw [if_neg q2]
    by_cases q3 : E 5 e = 3
    · rw [if_pos q3, yB_t (p := E 5 e = 3) q3]
      by_cases q4 : (1 : Int32) = b
      · rw [if_pos q4, yB_t ⟨by omega, q1, q2, q4⟩]
      · rw [if_neg q4, yB_f (fun x => q4 x.2.2.2)]
    · rw [if_neg q3, yB_f (p := E 5 e = 3) q3]
      by_cases q4 : (0 : Int32) = b
      · rw [if_pos q4, yB_t ⟨by omega, q1, q2, q4⟩]
      · rw [if_neg q4, yB_f (fun x => q4 x.2.2.2)]
def s_push (E S : zMem) (d : Nat) (m a b r : Int32) : zMem := zUp (zUp (zUp (zUp (zUp (zUp (zUp (zUp S 5 (zIx (S 4 8)) (nI d)) 6 (zIx (S 4 8)) m) 7 (zIx (S 4 8)) a) 8 (zIx (S 4 8)) b) 9 (zIx (S 4 8)) r) 10 (zIx (S 4 8)) (yB (E 6 d = 0))) 11 (zIx (S 4 8)) (yB (E 7 d = 0))) 4 8 (nI (zIx (S 4 8) + 1))
def s_sec (S : zMem) : zMem := if zIx (S 4 8) = 0 then S else zUp S 10 (zIx (S 4 8) - 1) 1
def s_deb (S : zMem) : zMem := if zIx (S 4 8) = 0 then S else zUp S 11 (zIx (S 4 8) - 1) 1
def s_endDeb (S : zMem) : zMem := yPc S 11 (fun i => if i < zIx (S 4 8) then 1 else S 11 i)
theorem k_push {f : Nat} {S M E : zMem} (h : zCM f S M) (hf : 7 < f) (h6 : M 6 = E 6) (h7 : M 7 = E 7) {n d : Nat} (hn : S 4 8 = nI n) (h8 : n < 8) (hd : d < 8) (m a b r : Int32) : ∃ M', f_X3_push f (nI d) m a b r M = some (0, M') ∧ zCM f (s_push E S d m a b r) M' ∧ yFr f 8 M M' := by
  have h4 : M f 8 = nI n := by rw [zCM_8 h, hn]
  have hx : zIx (S 4 8) = n := by rw [hn, zIx_n (by omega)]
  refine ⟨zUp (zUp (zUp (zUp (zUp (zUp (zUp (zUp M (f + 1) n (nI d)) (f + 2) n m) (f + 3) n a) (f + 4) n b) (f + 5) n r) (f + 6) n (yB (E 6 d = 0))) (f + 7) n (yB (E 7 d = 0))) f 8 (nI (n + 1)), ?_, ?_, ?_⟩
  · rw [f_X3_push, h4, if_neg (nI_pos (by omega)), k_full h hn (by omega), zBd_some, yB_f (by omega), if_pos rfl, k_isKind, zBd_some, if_neg (by rw [yB_0]; exact fun q => q (zIn_n hd (by omega)))]
    simp (disch := omega) only [zBd_some, zLt_eq, zUp_s, zUp_c, zUp_i, zCk_t, h4, zl_2, zl_3, zl_4, zl_5, zl_6, zl_7, zl_8, zl_12, zl_20, zl_24, zl_28, zl_40, zl_60, zl_300, zl_320, zl_400, zl_600, zd_lt0, zd_l0n, zd_l0y, zd_0lt, zd_1lt, zd_1lty, zd_e0n, zd_e0y, zd_e1n, zd_e1y, zd_nn, zd_ny, zd_mn, zd_my, zd_en, zd_ey, zd_e1, zd_in, zCk_T, zIx_n, nI_1, nI_add, zd_sub, zd_dec, if_true, if_false, ite_true, ite_false]
    have e6 : M (3 + 3) d = E 6 d := by rw [← h6]
    have e7 : M (3 + 4) d = E 7 d := by rw [← h7]
    rw [e6]
    unfold f_X3_push_B99
    by_cases q6 : E 6 d = 0
    · rw [if_pos q6, yB_t q6]
      simp (disch := omega) only [zBd_some, zLt_eq, zUp_s, zUp_c, zUp_i, zCk_t, h4, zl_2, zl_3, zl_4, zl_5, zl_6, zl_7, zl_8, zl_12, zl_20, zl_24, zl_28, zl_40, zl_60, zl_300, zl_320, zl_400, zl_600, zd_lt0, zd_l0n, zd_l0y, zd_0lt, zd_1lt, zd_1lty, zd_e0n, zd_e0y, zd_e1n, zd_e1y, zd_nn, zd_ny, zd_mn, zd_my, zd_en, zd_ey, zd_e1, zd_in, zCk_T, zIx_n, nI_1, nI_add, zd_sub, zd_dec, if_true, if_false, ite_true, ite_false]
      rw [zCk_t (Or.inr trivial), e7]
      unfold f_X3_push_B125
      by_cases q7 : E 7 d = 0
      · rw [if_pos q7, yB_t q7]
        simp (disch := omega) only [zBd_some, zLt_eq, zUp_s, zUp_c, zUp_i, zCk_t, h4, zl_2, zl_3, zl_4, zl_5, zl_6, zl_7, zl_8, zl_12, zl_20, zl_24, zl_28, zl_40, zl_60, zl_300, zl_320, zl_400, zl_600, zd_lt0, zd_l0n, zd_l0y, zd_0lt, zd_1lt, zd_1lty, zd_e0n, zd_e0y, zd_e1n, zd_e1y, zd_nn, zd_ny, zd_mn, zd_my, zd_en, zd_ey, zd_e1, zd_in, zCk_T, zIx_n, nI_1, nI_add, zd_sub, zd_dec, if_true, if_false, ite_true, ite_false]
        rw [zCk_t (Or.inr trivial)]
      · rw [if_neg q7, yB_f q7]
        simp (disch := omega) only [zBd_some, zLt_eq, zUp_s, zUp_c, zUp_i, zCk_t, h4, zl_2, zl_3, zl_4, zl_5, zl_6, zl_7, zl_8, zl_12, zl_20, zl_24, zl_28, zl_40, zl_60, zl_300, zl_320, zl_400, zl_600, zd_lt0, zd_l0n, zd_l0y, zd_0lt, zd_1lt, zd_1lty, zd_e0n, zd_e0y, zd_e1n, zd_e1y, zd_nn, zd_ny, zd_mn, zd_my, zd_en, zd_ey, zd_e1, zd_in, zCk_T, zIx_n, nI_1, nI_add, zd_sub, zd_dec, if_true, if_false, ite_true, ite_false]
        rw [zCk_t (Or.inl trivial)]
    · rw [if_neg q6, yB_f q6]
      simp (disch := omega) only [zBd_some, zLt_eq, zUp_s, zUp_c, zUp_i, zCk_t, h4, zl_2, zl_3, zl_4, zl_5, zl_6, zl_7, zl_8, zl_12, zl_20, zl_24, zl_28, zl_40, zl_60, zl_300, zl_320, zl_400, zl_600, zd_lt0, zd_l0n, zd_l0y, zd_0lt, zd_1lt, zd_1lty, zd_e0n, zd_e0y, zd_e1n, zd_e1y, zd_nn, zd_ny, zd_mn, zd_my, zd_en, zd_ey, zd_e1, zd_in, zCk_T, zIx_n, nI_1, nI_add, zd_sub, zd_dec, if_true, if_false, ite_true, ite_false]
      rw [zCk_t (Or.inl trivial), e7]
      unfold f_X3_push_B125
      by_cases q7 : E 7 d = 0
      · rw [if_pos q7, yB_t q7]
        simp (disch := omega) only [zBd_some, zLt_eq, zUp_s, zUp_c, zUp_i, zCk_t, h4, zl_2, zl_3, zl_4, zl_5, zl_6, zl_7, zl_8, zl_12, zl_20, zl_24, zl_28, zl_40, zl_60, zl_300, zl_320, zl_400, zl_600, zd_lt0, zd_l0n, zd_l0y, zd_0lt, zd_1lt, zd_1lty, zd_e0n, zd_e0y, zd_e1n, zd_e1y, zd_nn, zd_ny, zd_mn, zd_my, zd_en, zd_ey, zd_e1, zd_in, zCk_T, zIx_n, nI_1, nI_add, zd_sub, zd_dec, if_true, if_false, ite_true, ite_false]
        rw [zCk_t (Or.inr trivial)]
      · rw [if_neg q7, yB_f q7]
        simp (disch := omega) only [zBd_some, zLt_eq, zUp_s, zUp_c, zUp_i, zCk_t, h4, zl_2, zl_3, zl_4, zl_5, zl_6, zl_7, zl_8, zl_12, zl_20, zl_24, zl_28, zl_40, zl_60, zl_300, zl_320, zl_400, zl_600, zd_lt0, zd_l0n, zd_l0y, zd_0lt, zd_1lt, zd_1lty, zd_e0n, zd_e0y, zd_e1n, zd_e1y, zd_nn, zd_ny, zd_mn, zd_my, zd_en, zd_ey, zd_e1, zd_in, zCk_T, zIx_n, nI_1, nI_add, zd_sub, zd_dec, if_true, if_false, ite_true, ite_false]
        rw [zCk_t (Or.inl trivial)]
  · unfold s_push
    rw [hx]
    refine zCM_of ?_ ?_
    · rw [zUp_s, zUp_s]
    · intro j i h1 h2 hi
      rw [zUp_s, zIx_n (by omega)] at hi
      by_cases q : i = n
      · subst q
        rcases (by omega : j = 1 ∨ j = 2 ∨ j = 3 ∨ j = 4 ∨ j = 5 ∨ j = 6 ∨ j = 7) with e | e | e | e | e | e | e <;> (subst e; simp (disch := omega) only [zUp_s, zUp_c, Nat.reduceAdd])
      · simp (disch := omega) only [zUp_x]
        exact zCM_c h j h1 h2 (by omega)
  · exact yFr_u (yFr_u (yFr_u (yFr_u (yFr_u (yFr_u (yFr_u (yFr_u yFr_r (by omega) (by omega)) (by omega) (by omega)) (by omega) (by omega)) (by omega) (by omega)) (by omega) (by omega)) (by omega) (by omega)) (by omega) (by omega)) (by omega) (by omega)
theorem zCM_up {f : Nat} {S M : zMem} (h : zCM f S M) (a i : Nat) (v : Int32) (ha : 1 ≤ a) : zCM f (zUp S (4 + a) i v) (zUp M (f + a) i v) := by
  refine zCM_of ?_ ?_
  · rw [zUp_c (by omega), zUp_c (by omega), zCM_8 h]
  · intro j k h1 h2 hk
    rw [zUp_c (by omega)] at hk
    by_cases q : j = a
    · subst q
      by_cases q2 : k = i
      · subst q2; rw [zUp_s, zUp_s]
      · rw [zUp_i q2, zUp_i q2, zCM_c h j h1 h2 hk]
    · rw [zUp_c (by omega), zUp_c (by omega), zCM_c h j h1 h2 hk]
theorem zCM_len {f : Nat} {S M : zMem} (h : zCM f S M) (v : Int32) (hv : zIx v ≤ zIx (S 4 8)) : zCM f (zUp S 4 8 v) (zUp M f 8 v) := by
  refine zCM_of (by rw [zUp_s, zUp_s]) ?_
  intro j k h1 h2 hk
  rw [zUp_s] at hk
  rw [zUp_c (by omega), zUp_c (by omega), zCM_c h j h1 h2 (by omega)]
theorem k_secTop {f : Nat} {S M : zMem} (h : zCM f S M) {n : Nat} (hn : S 4 8 = nI n) (h8 : n ≤ 8) : ∃ M', f_X3_secondTop f M = some (0, M') ∧ zCM f (s_sec S) M' ∧ yFr f 8 M M' := by
  have hx : zIx (S 4 8) = n := by rw [hn, zIx_n (by omega)]
  rw [f_X3_secondTop, k_top h hn h8, zBd_some]
  unfold s_sec
  rw [hx]
  by_cases q : n = 0
  · rw [if_pos q, if_pos q, if_pos rfl]
    exact ⟨M, rfl, h, yFr_r⟩
  · rw [if_neg q, if_neg q]
    simp (disch := omega) only [zl_2, zl_3, zl_4, zl_5, zl_6, zl_7, zl_8, zl_12, zl_20, zl_24, zl_28, zl_40, zl_60, zl_300, zl_320, zl_400, zl_600, zd_lt0, zd_l0n, zd_l0y, zd_0lt, zd_1lt, zd_1lty, zd_e0n, zd_e0y, zd_e1n, zd_e1y, zd_nn, zd_ny, zd_mn, zd_my, zd_en, zd_ey, zd_e1, zd_in, zCk_T, zIx_n, nI_1, nI_add, zd_sub, zd_dec, if_true, if_false, ite_true, ite_false, zBd_some, zLt_eq, zUp_s, zUp_c, zUp_i, zCk_t]
    exact ⟨_, rfl, zCM_up h 6 _ _ (by omega), yFr_u yFr_r (by omega) (by omega)⟩
theorem k_debTop {f : Nat} {S M : zMem} (h : zCM f S M) {n : Nat} (hn : S 4 8 = nI n) (h8 : n ≤ 8) : ∃ M', f_X3_debateTop f M = some (0, M') ∧ zCM f (s_deb S) M' ∧ yFr f 8 M M' := by
  have hx : zIx (S 4 8) = n := by rw [hn, zIx_n (by omega)]
  rw [f_X3_debateTop, k_top h hn h8, zBd_some]
  unfold s_deb
  rw [hx]
  by_cases q : n = 0
  · rw [if_pos q, if_pos q, if_pos rfl]
    exact ⟨M, rfl, h, yFr_r⟩
  · rw [if_neg q, if_neg q]
    simp (disch := omega) only [zl_2, zl_3, zl_4, zl_5, zl_6, zl_7, zl_8, zl_12, zl_20, zl_24, zl_28, zl_40, zl_60, zl_300, zl_320, zl_400, zl_600, zd_lt0, zd_l0n, zd_l0y, zd_0lt, zd_1lt, zd_1lty, zd_e0n, zd_e0y, zd_e1n, zd_e1y, zd_nn, zd_ny, zd_mn, zd_my, zd_en, zd_ey, zd_e1, zd_in, zCk_T, zIx_n, nI_1, nI_add, zd_sub, zd_dec, if_true, if_false, ite_true, ite_false, zBd_some, zLt_eq, zUp_s, zUp_c, zUp_i, zCk_t]
    exact ⟨_, rfl, zCM_up h 7 _ _ (by omega), yFr_u yFr_r (by omega) (by omega)⟩
theorem k_endDeb_L {f n : Nat} (h8 : n ≤ 8) : ∀ k i N M, i + k = n → k < N → M f 8 = nI n → ∃ M', f_X3_endDebate_L2 f N (nI i) M = some (0, M') ∧ (∀ c, c ≠ f + 7 → M' c = M c) ∧ (∀ j, M' (f + 7) j = if i ≤ j ∧ j < n then 1 else M (f + 7) j) := by
  intro k
  induction k with
  | zero =>
    intro i N M hi hN h4
    obtain ⟨N, rfl⟩ : ∃ N', N = N' + 1 := ⟨N - 1, by omega⟩
    refine ⟨M, ?_, fun _ _ => rfl, fun j => by rw [if_neg (by omega)]⟩
    rw [f_X3_endDebate_L2, h4]
    simp (disch := omega) only [zl_2, zl_3, zl_4, zl_5, zl_6, zl_7, zl_8, zl_12, zl_20, zl_24, zl_28, zl_40, zl_60, zl_300, zl_320, zl_400, zl_600, zd_lt0, zd_l0n, zd_l0y, zd_0lt, zd_1lt, zd_1lty, zd_e0n, zd_e0y, zd_e1n, zd_e1y, zd_nn, zd_ny, zd_mn, zd_my, zd_en, zd_ey, zd_e1, zd_in, zCk_T, zIx_n, nI_1, nI_add, zd_sub, zd_dec, if_true, if_false, ite_true, ite_false]
  | succ k ih =>
    intro i N M hi hN h4
    obtain ⟨N, rfl⟩ : ∃ N', N = N' + 1 := ⟨N - 1, by omega⟩
    obtain ⟨M', e, a1, a2⟩ := ih (i + 1) N (zUp M (f + 7) i 1) (by omega) (by omega) (by rw [zUp_c (by omega), h4])
    refine ⟨M', ?_, fun c hc => (a1 c hc).trans (zUp_off hc), fun j => ?_⟩
    · rw [f_X3_endDebate_L2, h4]
      simp (disch := omega) only [zl_2, zl_3, zl_4, zl_5, zl_6, zl_7, zl_8, zl_12, zl_20, zl_24, zl_28, zl_40, zl_60, zl_300, zl_320, zl_400, zl_600, zd_lt0, zd_l0n, zd_l0y, zd_0lt, zd_1lt, zd_1lty, zd_e0n, zd_e0y, zd_e1n, zd_e1y, zd_nn, zd_ny, zd_mn, zd_my, zd_en, zd_ey, zd_e1, zd_in, zCk_T, zIx_n, nI_1, nI_add, zd_sub, zd_dec, if_true, if_false, ite_true, ite_false, zBd_some, zLt_eq, zUp_s, zUp_c, zUp_i, zCk_t]
      exact e
    · rw [a2 j]
      by_cases q : j = i
      · subst q
        rw [if_neg (by omega), zUp_s, if_pos (by omega)]
      · rw [zUp_x q]
        by_cases q2 : i + 1 ≤ j ∧ j < n
        · rw [if_pos q2, if_pos (by omega)]
        · rw [if_neg q2, if_neg (by omega)]
theorem k_endDeb {f : Nat} {S M : zMem} (h : zCM f S M) {n : Nat} (hn : S 4 8 = nI n) (h8 : n ≤ 8) : ∃ M', f_X3_endDebate f M = some (0, M') ∧ zCM f (s_endDeb S) M' ∧ yFr f 8 M M' := by
  have h4 : M f 8 = nI n := by rw [zCM_8 h, hn]
  have hx : zIx (S 4 8) = n := by rw [hn, zIx_n (by omega)]
  obtain ⟨M', e, a1, a2⟩ := k_endDeb_L (f := f) h8 n 0 zFu M (by omega) (by unfold zFu; omega) h4
  refine ⟨M', e, ?_, fun c hc => a1 c (by omega)⟩
  unfold s_endDeb
  rw [hx]
  refine zCM_of (by rw [a1 f (by omega), yPc_c (by omega), zCM_8 h]) ?_
  intro j i h1 h2 hi
  rw [yPc_c (by omega), hx] at hi
  by_cases q : j = 7
  · subst q
    rw [a2 i, yPc_s, if_pos (by omega), if_pos hi]
  · rw [a1 (f + j) (by omega), yPc_c (by omega), zCM_c h j h1 h2 (by omega)]
