/-! ===== the reference's trees: the floor ===== -/
def zMv (E M : zMem) : Prop := (∀ k, k < 8 → M 78 k = E 4 k ∧ M 84 k = E 6 k ∧ M 87 k = E 7 k ∧ (E 4 k ≠ 0 → M 81 k = E 5 k)) ∧ M 89 0 = E 3 4 ∧ M 90 0 = E 3 5 ∧ M 91 0 = E 3 6 ∧ M 92 0 = E 3 7 ∧ (∀ m, m < 24 → M 93 m = E 14 m)
def zMQ (cq cs : Nat) (S M : zMem) : Prop := (∀ i, i < zIx (S 1 4) → M cq i = S 2 i) ∧ (∀ i, i < 24 → M cs i = S 3 i)
theorem zSum_one {g : Nat → Int32} {m : Nat} : ∀ n, zSum (fun k => if k = m then g k else 0) n = if m < n then g m else 0
  | 0 => by simp [zSum]
  | n + 1 => by
    rw [zSum, zSum_one n]
    by_cases q : n = m
    · subst q
      simp
    · rw [if_neg q, Int32.add_zero]
      by_cases q2 : m < n
      · rw [if_pos q2, if_pos (by omega)]
      · rw [if_neg q2, if_neg (by omega)]
def s_spG (E S : zMem) (m k : Nat) : Int32 := if k = m ∨ (E 3 6 ≠ 0 ∧ E 14 k = E 14 m) then S 3 k else 0
theorem s_spk_eq (E S : zMem) {m : Nat} (hm : m < 24) : zSum (s_spG E S m) 24 = s_spk E S m := by
  unfold s_spk
  by_cases q : E 3 6 = 0
  · rw [if_pos q, ← (zSum_one (g := S 3) (m := m) 24).trans (if_pos hm)]
    refine zSum_cong 24 (fun j _ => ?_)
    unfold s_spG
    by_cases q2 : j = m
    · rw [if_pos (Or.inl q2), if_pos q2]
    · rw [if_neg q2, if_neg (fun x => x.elim q2 (fun y => y.1 q))]
  · rw [if_neg q]
    refine zSum_cong 24 (fun j _ => ?_)
    unfold s_spG
    by_cases q2 : E 14 j = E 14 m
    · rw [if_pos (Or.inr ⟨q, q2⟩), if_pos q2]
    · rw [if_neg q2, if_neg (fun x => x.elim (fun y => q2 (by rw [y])) (fun y => q2 y.2))]
theorem g_spoke_L {E S M : zMem} {cs : Nat} (hE : zMv E M) (h3 : ∀ i, i < 24 → M cs i = S 3 i) {m : Nat} (hm : m < 24) : ∀ k i N, i + k = 24 → k < N → f_X10_spoke_L5 (nI m) cs N (zSum (s_spG E S m) i) (nI i) M = some (zSum (s_spG E S m) 24, M) := by
  obtain ⟨_, _, _, h91, _, h93⟩ := hE
  intro k
  induction k with
  | zero =>
    intro i N hi hN
    obtain ⟨N, rfl⟩ : ∃ N', N = N' + 1 := ⟨N - 1, by omega⟩
    obtain rfl : i = 24 := by omega
    rw [f_X10_spoke_L5]
    simp (disch := omega) only [zl_2, zl_3, zl_4, zl_5, zl_6, zl_7, zl_8, zl_12, zl_20, zl_24, zl_28, zl_40, zl_60, zl_300, zl_320, zl_400, zl_600, zd_lt0, zd_l0n, zd_l0y, zd_0lt, zd_1lt, zd_1lty, zd_e0n, zd_e0y, zd_e1n, zd_e1y, zd_nn, zd_ny, zd_mn, zd_my, zd_en, zd_ey, zd_e1, zd_in, zCk_T, zIx_n, nI_1, nI_add, zd_sub, zd_dec, if_true, if_false, ite_true, ite_false]
  | succ k ih =>
    intro i N hi hN
    obtain ⟨N, rfl⟩ : ∃ N', N = N' + 1 := ⟨N - 1, by omega⟩
    have e := ih (i + 1) N (by omega) (by omega)
    rw [zSum] at e
    have hB : ∀ v, f_X10_spoke_B44 (nI m) cs (fun x3 x4 M => f_X10_spoke_L5 (nI m) cs N x3 x4 M) (nI i) v M = f_X10_spoke_L5 (nI m) cs N (v + S 3 i) (nI (i + 1)) M := by
      intro v
      rw [f_X10_spoke_B44, zCk_t (zIn_n (by omega) (by omega)), zIx_n (by omega), h3 i (by omega), nI_1]
    rw [f_X10_spoke_L5, hB, h91]
    simp (disch := omega) only [zl_2, zl_3, zl_4, zl_5, zl_6, zl_7, zl_8, zl_12, zl_20, zl_24, zl_28, zl_40, zl_60, zl_300, zl_320, zl_400, zl_600, zd_lt0, zd_l0n, zd_l0y, zd_0lt, zd_1lt, zd_1lty, zd_e0n, zd_e0y, zd_e1n, zd_e1y, zd_nn, zd_ny, zd_mn, zd_my, zd_en, zd_ey, zd_e1, zd_in, zCk_T, zIx_n, nI_1, nI_add, zd_sub, zd_dec, if_true, if_false, ite_true, ite_false, zBd_some, zLt_eq, zUp_s, zUp_c, zUp_i, zCk_t]
    rw [h93 i (by omega), h93 m hm, Int32.add_zero]
    unfold s_spG at e ⊢
    by_cases q1 : i = m
    · rw [if_pos (Or.inl q1)] at e
      rw [if_pos (by rw [q1])]
      exact e
    · rw [if_neg (by rw [nI_eq (by omega) (by omega)]; exact q1)]
      by_cases q2 : E 3 6 = 0
      · rw [if_neg (fun x => x.elim q1 (fun y => y.1 q2)), Int32.add_zero] at e
        rw [if_pos q2]
        exact e
      · rw [if_neg q2]
        by_cases q3 : E 14 i = E 14 m
        · rw [if_pos (Or.inr ⟨q2, q3⟩)] at e
          rw [if_pos q3]
          exact e
        · rw [if_neg (fun x => x.elim q1 (fun y => q3 y.2)), Int32.add_zero] at e
          rw [if_neg q3]
          exact e
theorem g_spoke {E S M : zMem} {cs : Nat} (hE : zMv E M) (h3 : ∀ i, i < 24 → M cs i = S 3 i) {m : Nat} (hm : m < 24) : f_X10_spoke (nI m) cs M = some (s_spk E S m, M) := by
  rw [← s_spk_eq E S hm]
  exact g_spoke_L hE h3 hm 24 0 zFu (by omega) (by unfold zFu; omega)
theorem g_next_L {E S M : zMem} {cq cs n : Nat} (hE : zMv E M) (h : zMQ cq cs S M) (hw : zWF S n) : ∀ k i N, i + k = n → k < N → 0 < i → f_X10_next_L6 cq (nI n) cs N (nI (s_nx E S i)) (nI i) M = some (nI (s_nx E S n), M) := by
  obtain ⟨hn, h24, hq, _⟩ := hw
  have hx : zIx (S 1 4) = n := by rw [hn, zIx_n (by omega)]
  intro k
  induction k with
  | zero =>
    intro i N hi hN h0
    obtain ⟨N, rfl⟩ : ∃ N', N = N' + 1 := ⟨N - 1, by omega⟩
    obtain rfl : i = n := by omega
    rw [f_X10_next_L6]
    simp (disch := omega) only [zl_2, zl_3, zl_4, zl_5, zl_6, zl_7, zl_8, zl_12, zl_20, zl_24, zl_28, zl_40, zl_60, zl_300, zl_320, zl_400, zl_600, zd_lt0, zd_l0n, zd_l0y, zd_0lt, zd_1lt, zd_1lty, zd_e0n, zd_e0y, zd_e1n, zd_e1y, zd_nn, zd_ny, zd_mn, zd_my, zd_en, zd_ey, zd_e1, zd_in, zCk_T, zIx_n, nI_1, nI_add, zd_sub, zd_dec, if_true, if_false, ite_true, ite_false]
  | succ k ih =>
    intro i N hi hN h0
    obtain ⟨N, rfl⟩ : ∃ N', N = N' + 1 := ⟨N - 1, by omega⟩
    have e := ih (i + 1) N (by omega) (by omega) (by omega)
    have hlt : s_nx E S i < i := zNx_lt _ i h0
    obtain ⟨m, hm, em⟩ := zIn_of (hq i (by omega))
    obtain ⟨m2, hm2, em2⟩ := zIn_of (hq (s_nx E S i) (by omega))
    rw [f_X10_next_L6]
    simp (disch := omega) only [zl_2, zl_3, zl_4, zl_5, zl_6, zl_7, zl_8, zl_12, zl_20, zl_24, zl_28, zl_40, zl_60, zl_300, zl_320, zl_400, zl_600, zd_lt0, zd_l0n, zd_l0y, zd_0lt, zd_1lt, zd_1lty, zd_e0n, zd_e0y, zd_e1n, zd_e1y, zd_nn, zd_ny, zd_mn, zd_my, zd_en, zd_ey, zd_e1, zd_in, zCk_T, zIx_n, nI_1, nI_add, zd_sub, zd_dec, if_true, if_false, ite_true, ite_false, zBd_some, zLt_eq, zUp_s, zUp_c, zUp_i, zCk_t]
    rw [h.1 i (by omega), em, g_spoke hE h.2 hm, zBd_some, h.1 _ (by omega), em2, g_spoke hE h.2 hm2, zBd_some]
    have hs : s_nx E S (i + 1) = if s_spk E S (zIx (S 2 i)) < s_spk E S (zIx (S 2 (s_nx E S i))) then i else s_nx E S i := rfl
    rw [em, em2, zIx_n (by omega), zIx_n (by omega)] at hs
    by_cases q : s_spk E S m < s_spk E S m2
    · rw [if_pos q] at hs
      rw [if_neg (Int32.not_le.mpr q)]
      rw [hs] at e
      exact e
    · rw [if_neg q] at hs
      rw [if_pos (Int32.not_lt.mp q)]
      rw [hs] at e
      exact e
theorem g_next {E S M : zMem} {cq cs n : Nat} (hE : zMv E M) (h : zMQ cq cs S M) (hw : zWF S n) (h0 : 0 < n) : f_X10_next cq (nI n) cs M = some (nI (s_nx E S n), M) := by
  have hs : s_nx E S 1 = 0 := by
    have := zNx_lt (fun i => s_spk E S (zIx (S 2 i))) 1 (by omega)
    unfold s_nx
    omega
  have e := g_next_L hE h hw (n - 1) 1 zFu (by omega) (by have := hw.2.1; unfold zFu; omega) (by omega)
  rw [hs] at e
  exact e
theorem g_waitsFor_L {S M : zMem} {n : Nat} (hn : S 1 4 = nI n) (h24 : n ≤ 24) (h31 : M 74 31 = nI n) (hq : ∀ i, i < n → M 109 i = S 2 i) (u : Int32) : ∀ k i N, i + k = n → k < N → f_X10_waitsFor_L2 u N (nI i) M = some (yB (zFi (S 2) u k i < n), M) := by
  intro k
  induction k with
  | zero =>
    intro i N hi hN
    obtain ⟨N, rfl⟩ : ∃ N', N = N' + 1 := ⟨N - 1, by omega⟩
    rw [f_X10_waitsFor_L2, h31]
    simp (disch := omega) only [zl_2, zl_3, zl_4, zl_5, zl_6, zl_7, zl_8, zl_12, zl_20, zl_24, zl_28, zl_40, zl_60, zl_300, zl_320, zl_400, zl_600, zd_lt0, zd_l0n, zd_l0y, zd_0lt, zd_1lt, zd_1lty, zd_e0n, zd_e0y, zd_e1n, zd_e1y, zd_nn, zd_ny, zd_mn, zd_my, zd_en, zd_ey, zd_e1, zd_in, zCk_T, zIx_n, nI_1, nI_add, zd_sub, zd_dec, if_true, if_false, ite_true, ite_false]
    rw [yB_f (by unfold zFi; omega)]
  | succ k ih =>
    intro i N hi hN
    obtain ⟨N, rfl⟩ : ∃ N', N = N' + 1 := ⟨N - 1, by omega⟩
    rw [f_X10_waitsFor_L2, h31]
    simp (disch := omega) only [zl_2, zl_3, zl_4, zl_5, zl_6, zl_7, zl_8, zl_12, zl_20, zl_24, zl_28, zl_40, zl_60, zl_300, zl_320, zl_400, zl_600, zd_lt0, zd_l0n, zd_l0y, zd_0lt, zd_1lt, zd_1lty, zd_e0n, zd_e0y, zd_e1n, zd_e1y, zd_nn, zd_ny, zd_mn, zd_my, zd_en, zd_ey, zd_e1, zd_in, zCk_T, zIx_n, nI_1, nI_add, zd_sub, zd_dec, if_true, if_false, ite_true, ite_false, zBd_some, zLt_eq, zUp_s, zUp_c, zUp_i, zCk_t]
    rw [hq i (by omega), ih (i + 1) N (by omega) (by omega), zFi]
    by_cases q : S 2 i = u
    · rw [if_pos q, if_pos q, yB_t (by omega)]
    · rw [if_neg q, if_neg q]
theorem g_waitsFor {S M : zMem} {n : Nat} (hn : S 1 4 = nI n) (h24 : n ≤ 24) (h31 : M 74 31 = nI n) (hq : ∀ i, i < n → M 109 i = S 2 i) (u : Int32) : f_X10_waitsFor u M = some (yB (zFi (S 2) u n 0 < n), M) := g_waitsFor_L hn h24 h31 hq u n 0 zFu (by omega) (by unfold zFu; omega)
/-- who leaves the queue: none stands in it twice -/
theorem g_leaves_L {S : zMem} {n : Nat} {u : Int32} (h24 : n ≤ 24) (hd : ∀ i j, i < j → j < n → S 2 i ≠ S 2 j) : ∀ k i j N M, i + k = n → k < N → M 74 31 = nI n → j = (if zFi (S 2) u n 0 < i then i - 1 else i) → (∀ x, x < j → M 109 x = if x < zFi (S 2) u n 0 then S 2 x else S 2 (x + 1)) → (∀ x, i ≤ x → x < n → M 109 x = S 2 x) → ∃ M', f_X10_leaves_L4 u N (nI j) (nI i) M = some (0, M') ∧ (∀ c i, (c ≠ 74 ∨ i ≠ 31) → c ≠ 109 → M' c i = M c i) ∧ M' 74 31 = nI (if zFi (S 2) u n 0 < n then n - 1 else n) ∧ (∀ x, x < (if zFi (S 2) u n 0 < n then n - 1 else n) → M' 109 x = if x < zFi (S 2) u n 0 then S 2 x else S 2 (x + 1)) := by
  have hle := zFi_le (S 2) u n 0
  intro k
  induction k with
  | zero =>
    intro i j N M hi hN h31 hj h1 h2
    obtain ⟨N, rfl⟩ : ∃ N', N = N' + 1 := ⟨N - 1, by omega⟩
    obtain rfl : i = n := by omega
    refine ⟨zUp M 74 31 (nI j), ?_, ?_, ?_, ?_⟩
    · rw [f_X10_leaves_L4, h31]
      simp (disch := omega) only [zl_2, zl_3, zl_4, zl_5, zl_6, zl_7, zl_8, zl_12, zl_20, zl_24, zl_28, zl_40, zl_60, zl_300, zl_320, zl_400, zl_600, zd_lt0, zd_l0n, zd_l0y, zd_0lt, zd_1lt, zd_1lty, zd_e0n, zd_e0y, zd_e1n, zd_e1y, zd_nn, zd_ny, zd_mn, zd_my, zd_en, zd_ey, zd_e1, zd_in, zCk_T, zIx_n, nI_1, nI_add, zd_sub, zd_dec, if_true, if_false, ite_true, ite_false, zBd_some, zLt_eq, zUp_s, zUp_c, zUp_i, zCk_t]
    · intro c x h3 h4
      by_cases q : c = 74
      · subst q
        rw [zUp_x (by omega)]
      · rw [zUp_c q]
    · rw [zUp_s, hj]
    · intro x hx
      rw [← hj] at hx
      rw [zUp_c (by omega), h1 x hx]
  | succ k ih =>
    intro i j N M hi hN h31 hj h1 h2
    obtain ⟨N, rfl⟩ : ∃ N', N = N' + 1 := ⟨N - 1, by omega⟩
    have hj2 : j ≤ i := by
      rw [hj]
      by_cases q : zFi (S 2) u n 0 < i
      · rw [if_pos q]; omega
      · rw [if_neg q]; omega
    rw [f_X10_leaves_L4, h31]
    simp (disch := omega) only [zl_2, zl_3, zl_4, zl_5, zl_6, zl_7, zl_8, zl_12, zl_20, zl_24, zl_28, zl_40, zl_60, zl_300, zl_320, zl_400, zl_600, zd_lt0, zd_l0n, zd_l0y, zd_0lt, zd_1lt, zd_1lty, zd_e0n, zd_e0y, zd_e1n, zd_e1y, zd_nn, zd_ny, zd_mn, zd_my, zd_en, zd_ey, zd_e1, zd_in, zCk_T, zIx_n, nI_1, nI_add, zd_sub, zd_dec, if_true, if_false, ite_true, ite_false, zBd_some, zLt_eq, zUp_s, zUp_c, zUp_i, zCk_t]
    rw [h2 i (by omega) (by omega)]
    by_cases q : S 2 i = u
    · have hp : zFi (S 2) u n 0 = i := by
        have a1 : ¬ i < zFi (S 2) u n 0 := fun x => zFi_no (S 2) u n 0 i (by omega) x q
        have a2 := zFi_at (S 2) u n 0 (by omega)
        rcases (by omega : zFi (S 2) u n 0 < i ∨ zFi (S 2) u n 0 = i) with y | y
        · exact absurd (a2.trans q.symm) (hd _ _ y (by omega))
        · exact y
      rw [if_pos q]
      refine ih (i + 1) j N M (by omega) (by omega) h31 ?_ h1 (fun x hx1 hx2 => h2 x (by omega) hx2)
      rw [hj, hp, if_neg (by omega), if_pos (by omega)]
      omega
    · rw [if_neg q]
      have hp : zFi (S 2) u n 0 ≠ i := fun y => q (by
        have a2 := zFi_at (S 2) u n 0 (by omega)
        rw [y] at a2
        exact a2)
      obtain ⟨M', e, b1, b2, b3⟩ := ih (i + 1) (j + 1) N (zUp M 109 j (S 2 i)) (by omega) (by omega) (by rw [zUp_c (by omega), h31]) (by
        rw [hj]
        by_cases q1 : zFi (S 2) u n 0 < i
        · rw [if_pos q1, if_pos (by omega)]; omega
        · rw [if_neg q1, if_neg (by omega)]) (by
        intro x hx
        by_cases q2 : x = j
        · subst q2
          rw [zUp_s]
          rw [hj]
          by_cases q1 : zFi (S 2) u n 0 < i
          · rw [if_pos q1, if_neg (by omega), show i - 1 + 1 = i by omega]
          · rw [if_neg q1, if_pos (by omega)]
        · rw [zUp_x q2, h1 x (by omega)]) (by
        intro x hx1 hx2
        rw [zUp_x (by omega), h2 x (by omega) hx2])
      refine ⟨M', e, fun c x h3 h4 => (b1 c x h3 h4).trans (zUp_c h4), b2, b3⟩
