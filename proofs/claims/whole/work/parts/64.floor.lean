/-! the floor's trees -/
theorem k_qpo_L {f : Nat} {S M : zMem} (h : zCF f S M) {n : Nat} (hn : S 1 4 = nI n) (h24 : n ≤ 24) (u : Int32) : ∀ k i N, i + k = n → k < N → f_X0_queuePlaceOf_L2 f u N (nI i) M = some (if zFi (S 2) u k i < n then nI (zFi (S 2) u k i) else -1, M) := by
  have h4 : M f 4 = nI n := by rw [zCF_1 h (by omega) (by omega), hn]
  have hx : zIx (S 1 4) = n := by rw [hn, zIx_n (by omega)]
  intro k
  induction k with
  | zero =>
    intro i N hi hN
    obtain ⟨N, rfl⟩ : ∃ N', N = N' + 1 := ⟨N - 1, by omega⟩
    rw [f_X0_queuePlaceOf_L2, h4]
    simp (disch := omega) only [zl_2, zl_3, zl_4, zl_5, zl_6, zl_7, zl_8, zl_12, zl_20, zl_24, zl_28, zl_40, zl_60, zl_300, zl_320, zl_400, zl_600, zd_lt0, zd_l0n, zd_l0y, zd_0lt, zd_1lt, zd_1lty, zd_e0n, zd_e0y, zd_e1n, zd_e1y, zd_nn, zd_ny, zd_mn, zd_my, zd_en, zd_ey, zd_e1, zd_in, zCk_T, zIx_n, nI_1, nI_add, zd_sub, zd_dec, if_true, if_false, ite_true, ite_false]
    rw [if_neg (by unfold zFi; omega)]
  | succ k ih =>
    intro i N hi hN
    obtain ⟨N, rfl⟩ : ∃ N', N = N' + 1 := ⟨N - 1, by omega⟩
    rw [f_X0_queuePlaceOf_L2, h4]
    simp (disch := omega) only [zl_2, zl_3, zl_4, zl_5, zl_6, zl_7, zl_8, zl_12, zl_20, zl_24, zl_28, zl_40, zl_60, zl_300, zl_320, zl_400, zl_600, zd_lt0, zd_l0n, zd_l0y, zd_0lt, zd_1lt, zd_1lty, zd_e0n, zd_e0y, zd_e1n, zd_e1y, zd_nn, zd_ny, zd_mn, zd_my, zd_en, zd_ey, zd_e1, zd_in, zCk_T, zIx_n, nI_1, nI_add, zd_sub, zd_dec, if_true, if_false, ite_true, ite_false, zBd_some, zLt_eq, zUp_s, zUp_c, zUp_i, zCk_t]
    rw [zCF_q h (by omega), ih (i + 1) N (by omega) (by omega), zFi]
    by_cases q : S 2 i = u
    · simp only [if_pos q]
      rw [if_pos (by omega)]
    · simp only [if_neg q]
theorem k_qpo {f : Nat} {S M : zMem} (h : zCF f S M) {n : Nat} (hn : S 1 4 = nI n) (h24 : n ≤ 24) (u : Int32) : f_X0_queuePlaceOf f u M = some (if zFi (S 2) u n 0 < n then nI (zFi (S 2) u n 0) else -1, M) := k_qpo_L h hn h24 u n 0 zFu (by omega) (by unfold zFu; omega)
theorem k_deq_L {f : Nat} {u : Int32} {m : Nat} (hm : m < 24) : ∀ k p N M, p + k = m → k < N → M f 4 = nI m → ∃ M', f_X0_dequeue_L25 f u N (nI p) M = some (0, M') ∧ (∀ c, c ≠ f + 1 → M' c = M c) ∧ (∀ i, i < m → M' (f + 1) i = if i < p then M (f + 1) i else M (f + 1) (i + 1)) := by
  intro k
  induction k with
  | zero =>
    intro p N M hp hN h4
    obtain ⟨N, rfl⟩ : ∃ N', N = N' + 1 := ⟨N - 1, by omega⟩
    refine ⟨M, ?_, fun _ _ => rfl, fun i hi => by rw [if_pos (by omega)]⟩
    rw [f_X0_dequeue_L25, h4]
    simp (disch := omega) only [zl_2, zl_3, zl_4, zl_5, zl_6, zl_7, zl_8, zl_12, zl_20, zl_24, zl_28, zl_40, zl_60, zl_300, zl_320, zl_400, zl_600, zd_lt0, zd_l0n, zd_l0y, zd_0lt, zd_1lt, zd_1lty, zd_e0n, zd_e0y, zd_e1n, zd_e1y, zd_nn, zd_ny, zd_mn, zd_my, zd_en, zd_ey, zd_e1, zd_in, zCk_T, zIx_n, nI_1, nI_add, zd_sub, zd_dec, if_true, if_false, ite_true, ite_false]
  | succ k ih =>
    intro p N M hp hN h4
    obtain ⟨N, rfl⟩ : ∃ N', N = N' + 1 := ⟨N - 1, by omega⟩
    obtain ⟨M', e, a1, a2⟩ := ih (p + 1) N (zUp M (f + 1) p (M (f + 1) (p + 1))) (by omega) (by omega) (by rw [zUp_c (by omega), h4])
    refine ⟨M', ?_, fun c hc => (a1 c hc).trans (zUp_off hc), fun i hi => ?_⟩
    · rw [f_X0_dequeue_L25, h4]
      simp (disch := omega) only [zl_2, zl_3, zl_4, zl_5, zl_6, zl_7, zl_8, zl_12, zl_20, zl_24, zl_28, zl_40, zl_60, zl_300, zl_320, zl_400, zl_600, zd_lt0, zd_l0n, zd_l0y, zd_0lt, zd_1lt, zd_1lty, zd_e0n, zd_e0y, zd_e1n, zd_e1y, zd_nn, zd_ny, zd_mn, zd_my, zd_en, zd_ey, zd_e1, zd_in, zCk_T, zIx_n, nI_1, nI_add, zd_sub, zd_dec, if_true, if_false, ite_true, ite_false, zBd_some, zLt_eq, zUp_s, zUp_c, zUp_i, zCk_t]
      exact e
    · rw [a2 i hi]
      rcases (by omega : i < p ∨ i = p ∨ p < i) with q | q | q
      · rw [if_pos (by omega), if_pos q, zUp_i (by omega)]
      · subst q
        rw [if_pos (by omega), if_neg (by omega), zUp_s]
      · rw [if_neg (by omega), if_neg (by omega), zUp_i (by omega)]
theorem k_deq {f : Nat} {S M : zMem} (h : zCF f S M) {n p : Nat} (hn : S 1 4 = nI n) (h24 : n ≤ 24) (hp : p < n) : ∃ M', f_X0_dequeue f (nI p) M = some (0, M') ∧ zCF f (s_deq S p) M' ∧ yFr f 3 M M' := by
  have h4 : M f 4 = nI n := by rw [zCF_1 h (by omega) (by omega), hn]
  have hx : zIx (S 1 4) = n := by rw [hn, zIx_n (by omega)]
  obtain ⟨M', e, a1, a2⟩ := k_deq_L (f := f) (u := nI p) (m := n - 1) (by omega) (n - 1 - p) p zFu (zUp M f 4 (nI (n - 1))) (by omega) (by unfold zFu; omega) zUp_s
  refine ⟨M', ?_, ?_, fun c hc => (a1 c (by omega)).trans (zUp_off (by omega))⟩
  · rw [f_X0_dequeue, h4]
    simp (disch := omega) only [zl_2, zl_3, zl_4, zl_5, zl_6, zl_7, zl_8, zl_12, zl_20, zl_24, zl_28, zl_40, zl_60, zl_300, zl_320, zl_400, zl_600, zd_lt0, zd_l0n, zd_l0y, zd_0lt, zd_1lt, zd_1lty, zd_e0n, zd_e0y, zd_e1n, zd_e1y, zd_nn, zd_ny, zd_mn, zd_my, zd_en, zd_ey, zd_e1, zd_in, zCk_T, zIx_n, nI_1, nI_add, zd_sub, zd_dec, if_true, if_false, ite_true, ite_false, zBd_some, zLt_eq, zUp_s, zUp_c, zUp_i, zCk_t]
    exact e
  · unfold s_deq
    rw [hx]
    refine zCF_of ?_ ?_ ?_
    · intro i h1 h2
      rw [a1 f (by omega), yPc_c (by omega)]
      by_cases q : i = 4
      · subst q; rw [zUp_s, zUp_s]
      · rw [zUp_i q, zUp_i q, zCF_1 h h1 h2]
    · intro i hi
      rw [yPc_c (by omega), zUp_s, zIx_n (by omega)] at hi
      rw [a2 i hi, yPc_s, zUp_c (by omega), zUp_c (by omega)]
      by_cases q : i < p
      · rw [if_pos q, if_pos q, zCF_q h (by omega)]
      · rw [if_neg q, if_neg q, zCF_q h (by omega)]
    · intro i hi
      rw [a1 (f + 2) (by omega), zUp_off (by omega), yPc_c (by omega), zUp_off (by omega)]
      exact zCF_s h hi
theorem zCF_u1 {f : Nat} {S M : zMem} (h : zCF f S M) (i : Nat) (v : Int32) (hi : i ≠ 4) : zCF f (zUp S 1 i v) (zUp M f i v) := by
  refine zCF_of ?_ ?_ ?_
  · intro k h1 h2
    by_cases q : k = i
    · subst q; rw [zUp_s, zUp_s]
    · rw [zUp_i q, zUp_i q, zCF_1 h h1 h2]
  · intro k hk
    rw [zUp_i (fun e => hi e.symm)] at hk
    rw [zUp_c (by omega), zUp_c (by omega), zCF_q h hk]
  · intro k hk
    rw [zUp_c (by omega), zUp_c (by omega), zCF_s h hk]
theorem zCF_u3 {f : Nat} {S M : zMem} (h : zCF f S M) (i : Nat) (v : Int32) : zCF f (zUp S 3 i v) (zUp M (f + 2) i v) := by
  refine zCF_of ?_ ?_ ?_
  · intro k h1 h2
    rw [zUp_c (by omega), zUp_c (by omega), zCF_1 h h1 h2]
  · intro k hk
    rw [zUp_c (by omega)] at hk
    rw [zUp_c (by omega), zUp_c (by omega), zCF_q h hk]
  · intro k hk
    by_cases q : k = i
    · subst q; rw [zUp_s, zUp_s]
    · rw [zUp_i q, zUp_i q, zCF_s h hk]
theorem k_free {f : Nat} {S M : zMem} (h : zCF f S M) : ∃ M', f_X0_setFree f M = some (0, M') ∧ zCF f (s_free S) M' ∧ yFr f 3 M M' :=
  ⟨_, rfl, zCF_u1 (zCF_u1 (zCF_u1 h 5 _ (by omega)) 6 _ (by omega)) 7 _ (by omega), yFr_u (yFr_u (yFr_u yFr_r (by omega) (by omega)) (by omega) (by omega)) (by omega) (by omega)⟩
theorem s_deq_1 (S : zMem) (p i : Nat) (h : i ≠ 4) : s_deq S p 1 i = S 1 i := by
  unfold s_deq
  rw [yPc_c (by omega), zUp_i h]
theorem s_deq_3 (S : zMem) (p i : Nat) : s_deq S p 3 i = S 3 i := by
  unfold s_deq
  rw [yPc_c (by omega), zUp_c (by omega)]
theorem s_lv_5 (S : zMem) (u : Int32) : s_lv S u 1 5 = S 1 5 := by
  unfold s_lv
  by_cases q : zFi (S 2) u (zIx (S 1 4)) 0 < zIx (S 1 4)
  · rw [if_pos q, s_deq_1 _ _ _ (by omega)]
  · rw [if_neg q]
theorem k_drop {f : Nat} {S M : zMem} (h : zCF f S M) {n : Nat} (hn : S 1 4 = nI n) (h24 : n ≤ 24) (u : Int32) : ∃ M', f_X0_drop f u M = some (0, M') ∧ zCF f (s_drop S u) M' ∧ yFr f 3 M M' := by
  have hx : zIx (S 1 4) = n := by rw [hn, zIx_n (by omega)]
  have hp : ∃ M1, zBd (f_X0_queuePlaceOf f u M) (fun r1 M2 => f_X0_dequeue f r1 M2) = some (0, M1) ∧ zCF f (s_lv S u) M1 ∧ yFr f 3 M M1 := by
    rw [k_qpo h hn h24 u, zBd_some]
    unfold s_lv
    rw [hx]
    by_cases q : zFi (S 2) u n 0 < n
    · rw [if_pos q, if_pos q]
      exact k_deq h hn h24 q
    · rw [if_neg q, if_neg q]
      exact ⟨M, by rw [f_X0_dequeue, if_pos (by decide)], h, yFr_r⟩
  obtain ⟨M1, e, a1, a2⟩ := hp
  rw [k_qpo h hn h24 u, zBd_some] at e
  have h5 : M1 f 5 = S 1 5 := by rw [zCF_1 a1 (by omega) (by omega), s_lv_5]
  rw [f_X0_drop, k_qpo h hn h24 u, zBd_some, e, zBd_some, h5]
  unfold s_drop
  by_cases q : S 1 5 = u
  · rw [if_pos q, if_pos q]
    obtain ⟨M2, e2, b1, b2⟩ := k_free a1
    exact ⟨M2, by rw [e2, zBd_some], b1, yFr_t a2 b2⟩
  · rw [if_neg q, if_neg q]
    exact ⟨M1, rfl, a1, a2⟩
theorem k_ask {f : Nat} {S M : zMem} (h : zCF f S M) {n : Nat} (hn : S 1 4 = nI n) (h24 : n < 24) (u : Int32) : ∃ M', f_X0_enqueue f u M = some (0, M') ∧ zCF f (s_ask S u) M' ∧ yFr f 3 M M' := by
  have h4 : M f 4 = nI n := by rw [zCF_1 h (by omega) (by omega), hn]
  have hx : zIx (S 1 4) = n := by rw [hn, zIx_n (by omega)]
  refine ⟨zUp (zUp M (f + 1) n u) f 4 (nI (n + 1)), ?_, ?_, yFr_u (yFr_u yFr_r (by omega) (by omega)) (by omega) (by omega)⟩
  · rw [f_X0_enqueue, h4]
    simp (disch := omega) only [zl_2, zl_3, zl_4, zl_5, zl_6, zl_7, zl_8, zl_12, zl_20, zl_24, zl_28, zl_40, zl_60, zl_300, zl_320, zl_400, zl_600, zd_lt0, zd_l0n, zd_l0y, zd_0lt, zd_1lt, zd_1lty, zd_e0n, zd_e0y, zd_e1n, zd_e1y, zd_nn, zd_ny, zd_mn, zd_my, zd_en, zd_ey, zd_e1, zd_in, zCk_T, zIx_n, nI_1, nI_add, zd_sub, zd_dec, if_true, if_false, ite_true, ite_false, zBd_some, zLt_eq, zUp_s, zUp_c, zUp_i, zCk_t]
    rw [h4, nI_1]
  · unfold s_ask
    rw [hx]
    refine zCF_of ?_ ?_ ?_
    · intro k h1 h2
      by_cases q : k = 4
      · subst q; rw [zUp_s, zUp_s]
      · rw [zUp_i q, zUp_i q, zUp_c (by omega), zUp_c (by omega), zCF_1 h h1 h2]
    · intro k hk
      rw [zUp_s, zIx_n (by omega)] at hk
      simp (disch := omega) only [zUp_c]
      by_cases q : k = n
      · subst q; rw [zUp_s, zUp_s]
      · rw [zUp_i q, zUp_i q, zCF_q h (by omega)]
    · intro k hk
      rw [zUp_c (by omega), zUp_c (by omega), zUp_c (by omega), zUp_c (by omega), zCF_s h hk]
theorem k_mayAsk {f : Nat} {S M : zMem} (h : zCF f S M) {n : Nat} (hn : S 1 4 = nI n) (h24 : n ≤ 24) (u : Int32) : f_X0_mayAsk f u M = some (yB (¬ zFi (S 2) u n 0 < n ∧ S 1 5 ≠ u), M) := by
  rw [f_X0_mayAsk, k_qpo h hn h24 u, zBd_some, zCF_1 h (by omega) (by omega)]
  by_cases q : zFi (S 2) u n 0 < n
  · rw [if_pos q, yB_f (by simp [q])]
    simp (disch := omega) only [zl_2, zl_3, zl_4, zl_5, zl_6, zl_7, zl_8, zl_12, zl_20, zl_24, zl_28, zl_40, zl_60, zl_300, zl_320, zl_400, zl_600, zd_lt0, zd_l0n, zd_l0y, zd_0lt, zd_1lt, zd_1lty, zd_e0n, zd_e0y, zd_e1n, zd_e1y, zd_nn, zd_ny, zd_mn, zd_my, zd_en, zd_ey, zd_e1, zd_in, zCk_T, zIx_n, nI_1, nI_add, zd_sub, zd_dec, if_true, if_false, ite_true, ite_false]
  · rw [if_neg q, if_pos rfl]
    by_cases q2 : S 1 5 = u
    · rw [if_pos q2, yB_f (by simp [q2])]
    · rw [if_neg q2, yB_t ⟨q, q2⟩]
theorem k_mayYield {f : Nat} {S M E : zMem} (h : zCF f S M) (hE : M 3 = E 3) (u : Int32) : f_X0_mayYieldTo f u M = some (yB (E 3 7 ≠ 0 ∧ S 1 5 ≠ -1 ∧ S 1 5 ≠ u ∧ S 1 7 = 0), M) := by
  rw [f_X0_mayYieldTo, zCF_1 h (by omega) (by omega), zCF_1 h (by omega) (by omega), hE]
  by_cases q1 : E 3 7 = 0
  · rw [if_pos q1, yB_f (by simp [q1])]
  rw [if_neg q1]
  by_cases q2 : S 1 5 = -1
  · rw [if_pos q2, yB_f (by simp [q2])]
  rw [if_neg q2]
  by_cases q3 : S 1 5 = u
  · rw [if_pos q3, yB_f (by simp [q3])]
  rw [if_neg q3]
  by_cases q4 : S 1 7 = 0
  · rw [if_pos q4, yB_t ⟨q1, q2, q3, q4⟩]
  · rw [if_neg q4, yB_f (by simp [q4])]
theorem k_yield {f : Nat} {S M : zMem} (h : zCF f S M) (u : Int32) : ∃ M', f_X0_yieldTo f u M = some (0, M') ∧ zCF f (s_yield S u) M' ∧ yFr f 3 M M' :=
  ⟨_, rfl, zCF_u1 (zCF_u1 h 5 _ (by omega)) 7 _ (by omega), yFr_u (yFr_u yFr_r (by omega) (by omega)) (by omega) (by omega)⟩
theorem k_spend {f : Nat} {S M : zMem} (h : zCF f S M) (u : Int32) : ∃ M', f_X0_spend f u M = some (0, M') ∧ zCF f (s_spend S u) M' ∧ yFr f 3 M M' := by
  have h1 := zCF_u1 h 6 (zMax 0 (S 1 6 - u)) (by omega)
  rw [f_X0_spend, zLt_eq, zUp_s, zCF_1 h (by omega) (by omega)]
  unfold s_spend
  by_cases q : zMax 0 (S 1 6 - u) = 0
  · rw [if_pos q, if_pos q]
    obtain ⟨M2, e2, b1, b2⟩ := k_free h1
    exact ⟨M2, by rw [e2, zBd_some], b1, yFr_t (yFr_u yFr_r (by omega) (by omega)) b2⟩
  · rw [if_neg q, if_neg q]
    exact ⟨_, rfl, h1, yFr_u yFr_r (by omega) (by omega)⟩
theorem k_csp_L {f : Nat} {S M E : zMem} (h : zCF f S M) (hE : M 14 = E 14) {m : Nat} (hm : m < 24) : ∀ k i N, i + k = 24 → k < N → f_X0_countedSpeeches_L30 f (nI m) N (zSum (fun k => if E 14 k = E 14 m then S 3 k else 0) i) (nI i) M = some (zSum (fun k => if E 14 k = E 14 m then S 3 k else 0) 24, M) := by
  intro k
  induction k with
  | zero =>
    intro i N hi hN
    obtain ⟨N, rfl⟩ : ∃ N', N = N' + 1 := ⟨N - 1, by omega⟩
    obtain rfl : i = 24 := by omega
    rw [f_X0_countedSpeeches_L30]
    simp (disch := omega) only [zl_2, zl_3, zl_4, zl_5, zl_6, zl_7, zl_8, zl_12, zl_20, zl_24, zl_28, zl_40, zl_60, zl_300, zl_320, zl_400, zl_600, zd_lt0, zd_l0n, zd_l0y, zd_0lt, zd_1lt, zd_1lty, zd_e0n, zd_e0y, zd_e1n, zd_e1y, zd_nn, zd_ny, zd_mn, zd_my, zd_en, zd_ey, zd_e1, zd_in, zCk_T, zIx_n, nI_1, nI_add, zd_sub, zd_dec, if_true, if_false, ite_true, ite_false]
  | succ k ih =>
    intro i N hi hN
    obtain ⟨N, rfl⟩ : ∃ N', N = N' + 1 := ⟨N - 1, by omega⟩
    have e := ih (i + 1) N (by omega) (by omega)
    rw [zSum] at e
    rw [f_X0_countedSpeeches_L30, hE]
    simp (disch := omega) only [zl_2, zl_3, zl_4, zl_5, zl_6, zl_7, zl_8, zl_12, zl_20, zl_24, zl_28, zl_40, zl_60, zl_300, zl_320, zl_400, zl_600, zd_lt0, zd_l0n, zd_l0y, zd_0lt, zd_1lt, zd_1lty, zd_e0n, zd_e0y, zd_e1n, zd_e1y, zd_nn, zd_ny, zd_mn, zd_my, zd_en, zd_ey, zd_e1, zd_in, zCk_T, zIx_n, nI_1, nI_add, zd_sub, zd_dec, if_true, if_false, ite_true, ite_false, zBd_some, zLt_eq, zUp_s, zUp_c, zUp_i, zCk_t]
    by_cases q : E 14 i = E 14 m
    · rw [if_pos q] at e
      rw [if_pos q, zCF_s h (by omega)]
      exact e
    · rw [if_neg q, Int32.add_zero] at e
      rw [if_neg q]
      exact e
theorem k_csp {f : Nat} {S M E : zMem} (h : zCF f S M) (hE : M 14 = E 14) (hE3 : M 3 = E 3) {m : Nat} (hm : m < 24) : f_X0_countedSpeeches f (nI m) M = some (s_spk E S m, M) := by
  rw [f_X0_countedSpeeches, k_isMember, zBd_some, if_neg (by rw [yB_0]; exact fun q => q (zIn_n hm (by omega))), hE3]
  unfold s_spk
  by_cases q : E 3 6 = 0
  · rw [if_pos q, if_pos q, zCk_t (zIn_n hm (by omega)), zIx_n (by omega), zCF_s h hm]
  · rw [if_neg q, if_neg q]
    exact k_csp_L h hE hm 24 0 zFu (by omega) (by unfold zFu; omega)
theorem k_nx_L {f : Nat} {S M E : zMem} (h : zCF f S M) (hE : M 14 = E 14) (hE3 : M 3 = E 3) {n : Nat} (hw : zWF S n) : ∀ k i N, i + k = n → k < N → 0 < i → f_X0_nextPlace_L6 f N (nI (s_nx E S i)) (s_spk E S (zIx (S 2 (s_nx E S i)))) (nI i) M = some (nI (s_nx E S n), M) := by
  obtain ⟨hn, h24, hq, _⟩ := hw
  have h4 : M f 4 = nI n := by rw [zCF_1 h (by omega) (by omega), hn]
  have hx : zIx (S 1 4) = n := by rw [hn, zIx_n (by omega)]
  intro k
  induction k with
  | zero =>
    intro i N hi hN h0
    obtain ⟨N, rfl⟩ : ∃ N', N = N' + 1 := ⟨N - 1, by omega⟩
    obtain rfl : i = n := by omega
    rw [f_X0_nextPlace_L6, h4]
    simp (disch := omega) only [zl_2, zl_3, zl_4, zl_5, zl_6, zl_7, zl_8, zl_12, zl_20, zl_24, zl_28, zl_40, zl_60, zl_300, zl_320, zl_400, zl_600, zd_lt0, zd_l0n, zd_l0y, zd_0lt, zd_1lt, zd_1lty, zd_e0n, zd_e0y, zd_e1n, zd_e1y, zd_nn, zd_ny, zd_mn, zd_my, zd_en, zd_ey, zd_e1, zd_in, zCk_T, zIx_n, nI_1, nI_add, zd_sub, zd_dec, if_true, if_false, ite_true, ite_false]
  | succ k ih =>
    intro i N hi hN h0
    obtain ⟨N, rfl⟩ : ∃ N', N = N' + 1 := ⟨N - 1, by omega⟩
    have e := ih (i + 1) N (by omega) (by omega) (by omega)
    obtain ⟨m, hm, em⟩ := zIn_of (hq i (by omega))
    have hlt : s_nx E S i < i := zNx_lt _ i h0
    rw [f_X0_nextPlace_L6, h4]
    simp (disch := omega) only [zl_2, zl_3, zl_4, zl_5, zl_6, zl_7, zl_8, zl_12, zl_20, zl_24, zl_28, zl_40, zl_60, zl_300, zl_320, zl_400, zl_600, zd_lt0, zd_l0n, zd_l0y, zd_0lt, zd_1lt, zd_1lty, zd_e0n, zd_e0y, zd_e1n, zd_e1y, zd_nn, zd_ny, zd_mn, zd_my, zd_en, zd_ey, zd_e1, zd_in, zCk_T, zIx_n, nI_1, nI_add, zd_sub, zd_dec, if_true, if_false, ite_true, ite_false, zBd_some, zLt_eq, zUp_s, zUp_c, zUp_i, zCk_t]
    rw [zCF_q h (by omega), em, k_csp h hE hE3 hm, zBd_some]
    have hs : s_nx E S (i + 1) = if s_spk E S (zIx (S 2 i)) < s_spk E S (zIx (S 2 (s_nx E S i))) then i else s_nx E S i := rfl
    rw [em, zIx_n (by omega)] at hs
    by_cases q : s_spk E S m < s_spk E S (zIx (S 2 (s_nx E S i)))
    · rw [if_pos q] at hs
      rw [if_neg (Int32.not_le.mpr q)]
      rw [hs, em, zIx_n (by omega)] at e
      exact e
    · rw [if_neg q] at hs
      rw [if_pos (Int32.not_lt.mp q)]
      rw [hs] at e
      exact e
theorem k_nx {f : Nat} {S M E : zMem} (h : zCF f S M) (hE : M 14 = E 14) (hE3 : M 3 = E 3) {n : Nat} (hw : zWF S n) (h0 : 0 < n) : f_X0_nextPlace f M = some (nI (s_nx E S n), M) := by
  obtain ⟨hn, h24, hq, h9⟩ := hw
  have h4 : M f 4 = nI n := by rw [zCF_1 h (by omega) (by omega), hn]
  have hx : zIx (S 1 4) = n := by rw [hn, zIx_n (by omega)]
  obtain ⟨m, hm, em⟩ := zIn_of (hq 0 (by omega))
  have e := k_nx_L h hE hE3 ⟨hn, h24, hq, h9⟩ (n - 1) 1 1999 (by omega) (by omega) (by omega)
  have hs : s_nx E S 1 = 0 := by
    have := zNx_lt (fun i => s_spk E S (zIx (S 2 i))) 1 (by omega)
    unfold s_nx
    omega
  rw [hs, em, zIx_n (by omega)] at e
  rw [f_X0_nextPlace]
  show f_X0_nextPlace_L6 f (1999 + 1) (-1) 0 (nI 0) M = _
  rw [f_X0_nextPlace_L6, h4]
  simp (disch := omega) only [zl_2, zl_3, zl_4, zl_5, zl_6, zl_7, zl_8, zl_12, zl_20, zl_24, zl_28, zl_40, zl_60, zl_300, zl_320, zl_400, zl_600, zd_lt0, zd_l0n, zd_l0y, zd_0lt, zd_1lt, zd_1lty, zd_e0n, zd_e0y, zd_e1n, zd_e1y, zd_nn, zd_ny, zd_mn, zd_my, zd_en, zd_ey, zd_e1, zd_in, zCk_T, zIx_n, nI_1, nI_add, zd_sub, zd_dec, if_true, if_false, ite_true, ite_false, zBd_some, zLt_eq, zUp_s, zUp_c, zUp_i, zCk_t]
  rw [zCF_q h (by omega), em, k_csp h hE hE3 hm, zBd_some]
  exact e
theorem k_call {f : Nat} {S M E : zMem} (h : zCF f S M) (hE : M 14 = E 14) (hE3 : M 3 = E 3) {n : Nat} (hw : zWF S n) (h0 : 0 < n) (t : Int32) : ∃ M', f_X0_callNext f t M = some (0, M') ∧ zCF f (s_call E S t) M' ∧ yFr f 3 M M' := by
  obtain ⟨hn, h24, hq, h9⟩ := hw
  have hx : zIx (S 1 4) = n := by rw [hn, zIx_n (by omega)]
  have hp : s_nx E S n < n := zNx_lt _ n h0
  obtain ⟨m, hm, em⟩ := zIn_of (hq _ hp)
  obtain ⟨M1, e1, a1, a2⟩ := k_deq h hn h24 hp
  have a3 := zCF_u3 (zCF_u1 (zCF_u1 (zCF_u1 a1 5 (nI m) (by omega)) 6 t (by omega)) 7 0 (by omega)) m (S 3 m + 1)
  refine ⟨zUp (zUp (zUp (zUp M1 f 5 (nI m)) f 6 t) f 7 0) (f + 2) m (S 3 m + 1), ?_, ?_, ?_⟩
  rotate_left
  · unfold s_call
    rw [hx, em, zIx_n (by omega)]
    exact a3
  · exact yFr_u (yFr_u (yFr_u (yFr_u a2 (by omega) (by omega)) (by omega) (by omega)) (by omega) (by omega)) (by omega) (by omega)
  · rw [f_X0_callNext, k_nx h hE hE3 ⟨hn, h24, hq, h9⟩ h0, zBd_some]
    simp (disch := omega) only [zl_2, zl_3, zl_4, zl_5, zl_6, zl_7, zl_8, zl_12, zl_20, zl_24, zl_28, zl_40, zl_60, zl_300, zl_320, zl_400, zl_600, zd_lt0, zd_l0n, zd_l0y, zd_0lt, zd_1lt, zd_1lty, zd_e0n, zd_e0y, zd_e1n, zd_e1y, zd_nn, zd_ny, zd_mn, zd_my, zd_en, zd_ey, zd_e1, zd_in, zCk_T, zIx_n, nI_1, nI_add, zd_sub, zd_dec, if_true, if_false, ite_true, ite_false, zBd_some, zLt_eq, zUp_s, zUp_c, zUp_i, zCk_t]
    rw [zCF_q h (by omega), em, e1, zBd_some]
    rw [k_isMember, zBd_some, if_neg (by rw [yB_0]; exact fun q => q (zIn_n hm (by omega)))]
    simp (disch := omega) only [zl_2, zl_3, zl_4, zl_5, zl_6, zl_7, zl_8, zl_12, zl_20, zl_24, zl_28, zl_40, zl_60, zl_300, zl_320, zl_400, zl_600, zd_lt0, zd_l0n, zd_l0y, zd_0lt, zd_1lt, zd_1lty, zd_e0n, zd_e0y, zd_e1n, zd_e1y, zd_nn, zd_ny, zd_mn, zd_my, zd_en, zd_ey, zd_e1, zd_in, zCk_T, zIx_n, nI_1, nI_add, zd_sub, zd_dec, if_true, if_false, ite_true, ite_false, zBd_some, zLt_eq, zUp_s, zUp_c, zUp_i, zCk_t]
    rw [zCF_s a1 hm, s_deq_3]
