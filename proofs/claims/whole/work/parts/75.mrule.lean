/-! the reference's ruling -/
def zCt (t : Int32) : Nat → Nat
  | 0 => 0
  | n + 1 => zCt t n + (if bt t n = true then 1 else 0)
theorem z24_nat {t : Int32} (h : z24 t) : ∃ T, T < 2 ^ 24 ∧ t = nI T ∧ ∀ i, T.testBit i = bt t i := by
  refine ⟨t.toBitVec.toNat, ?_, ?_, fun i => rfl⟩
  · refine Nat.lt_pow_two_of_testBit _ (fun i hi => ?_)
    exact h i hi
  · refine Int32.toBitVec_inj.mp ?_
    show _ = BitVec.ofNat 32 _
    simp
set_option maxHeartbeats 4000000 in
theorem zCt_24 {t : Int32} (h : z24 t) : nI (zCt t 24) = zBc t := by
  obtain ⟨T, hT, eT, hb⟩ := z24_nat h
  have hd : ∀ i, T / 2 ^ i % 2 = if bt t i = true then 1 else 0 := by
    intro i
    have := hb i
    rw [Nat.testBit_eq_decide_div_mod_eq] at this
    by_cases q : bt t i = true
    · rw [if_pos q]
      rw [q] at this
      exact of_decide_eq_true this
    · rw [if_neg q]
      rw [Bool.not_eq_true] at q
      rw [q] at this
      have := of_decide_eq_false this
      omega
  have hc : zCt t 24 = T / 2 ^ 0 % 2 + T / 2 ^ 1 % 2 + T / 2 ^ 2 % 2 + T / 2 ^ 3 % 2 + T / 2 ^ 4 % 2 + T / 2 ^ 5 % 2 + T / 2 ^ 6 % 2 + T / 2 ^ 7 % 2 + T / 2 ^ 8 % 2 + T / 2 ^ 9 % 2 + T / 2 ^ 10 % 2 + T / 2 ^ 11 % 2 + T / 2 ^ 12 % 2 + T / 2 ^ 13 % 2 + T / 2 ^ 14 % 2 + T / 2 ^ 15 % 2 + T / 2 ^ 16 % 2 + T / 2 ^ 17 % 2 + T / 2 ^ 18 % 2 + T / 2 ^ 19 % 2 + T / 2 ^ 20 % 2 + T / 2 ^ 21 % 2 + T / 2 ^ 22 % 2 + T / 2 ^ 23 % 2 := by
    simp only [hd, zCt, Nat.zero_add]
  rw [hc, eT, pc_nat hT]
theorem g_there_L {t : Int32} {M : zMem} (h3 : ∀ m, m < 24 → M 108 m = yB (bt t m = true)) : ∀ k i N, i + k = 24 → k < N → f_X10_there_L4 N (nI (zCt t i)) (nI i) M = some (nI (zCt t 24), M) := by
  intro k
  induction k with
  | zero =>
    intro i N hi hN
    obtain ⟨N, rfl⟩ : ∃ N', N = N' + 1 := ⟨N - 1, by omega⟩
    obtain rfl : i = 24 := by omega
    rw [f_X10_there_L4]
    simp (disch := omega) only [zl_2, zl_3, zl_4, zl_5, zl_6, zl_7, zl_8, zl_12, zl_20, zl_24, zl_28, zl_40, zl_60, zl_300, zl_320, zl_400, zl_600, zd_lt0, zd_l0n, zd_l0y, zd_0lt, zd_1lt, zd_1lty, zd_e0n, zd_e0y, zd_e1n, zd_e1y, zd_nn, zd_ny, zd_mn, zd_my, zd_en, zd_ey, zd_e1, zd_in, zCk_T, zIx_n, nI_1, nI_add, zd_sub, zd_dec, if_true, if_false, ite_true, ite_false]
  | succ k ih =>
    intro i N hi hN
    obtain ⟨N, rfl⟩ : ∃ N', N = N' + 1 := ⟨N - 1, by omega⟩
    have e := ih (i + 1) N (by omega) (by omega)
    rw [zCt] at e
    rw [f_X10_there_L4]
    simp (disch := omega) only [zl_2, zl_3, zl_4, zl_5, zl_6, zl_7, zl_8, zl_12, zl_20, zl_24, zl_28, zl_40, zl_60, zl_300, zl_320, zl_400, zl_600, zd_lt0, zd_l0n, zd_l0y, zd_0lt, zd_1lt, zd_1lty, zd_e0n, zd_e0y, zd_e1n, zd_e1y, zd_nn, zd_ny, zd_mn, zd_my, zd_en, zd_ey, zd_e1, zd_in, zCk_T, zIx_n, nI_1, nI_add, zd_sub, zd_dec, if_true, if_false, ite_true, ite_false, zBd_some, zLt_eq, zUp_s, zUp_c, zUp_i, zCk_t]
    rw [h3 i (by omega), Int32.add_zero]
    by_cases q : bt t i = true
    · rw [if_pos q] at e
      rw [yB_t q, if_neg (by decide)]
      exact e
    · rw [if_neg q] at e
      rw [yB_f q, if_pos rfl]
      exact e
theorem g_there {t : Int32} {M : zMem} (ht : z24 t) (h3 : ∀ m, m < 24 → M 108 m = yB (bt t m = true)) : f_X10_there M = some (zBc t, M) := by
  rw [← zCt_24 ht]
  exact g_there_L h3 24 0 zFu (by omega) (by unfold zFu; omega)
theorem g_many_L {u : Int32} {M : zMem} : ∀ k i N, i + k = 24 → k < N → f_X10_many_L4 u N (nI (zCt u i)) (nI i) M = some (nI (zCt u 24), M) := by
  intro k
  induction k with
  | zero =>
    intro i N hi hN
    obtain ⟨N, rfl⟩ : ∃ N', N = N' + 1 := ⟨N - 1, by omega⟩
    obtain rfl : i = 24 := by omega
    rw [f_X10_many_L4]
    simp (disch := omega) only [zl_2, zl_3, zl_4, zl_5, zl_6, zl_7, zl_8, zl_12, zl_20, zl_24, zl_28, zl_40, zl_60, zl_300, zl_320, zl_400, zl_600, zd_lt0, zd_l0n, zd_l0y, zd_0lt, zd_1lt, zd_1lty, zd_e0n, zd_e0y, zd_e1n, zd_e1y, zd_nn, zd_ny, zd_mn, zd_my, zd_en, zd_ey, zd_e1, zd_in, zCk_T, zIx_n, nI_1, nI_add, zd_sub, zd_dec, if_true, if_false, ite_true, ite_false]
  | succ k ih =>
    intro i N hi hN
    obtain ⟨N, rfl⟩ : ∃ N', N = N' + 1 := ⟨N - 1, by omega⟩
    have e := ih (i + 1) N (by omega) (by omega)
    rw [zCt] at e
    rw [f_X10_many_L4, b_bits u (by omega)]
    simp (disch := omega) only [zl_2, zl_3, zl_4, zl_5, zl_6, zl_7, zl_8, zl_12, zl_20, zl_24, zl_28, zl_40, zl_60, zl_300, zl_320, zl_400, zl_600, zd_lt0, zd_l0n, zd_l0y, zd_0lt, zd_1lt, zd_1lty, zd_e0n, zd_e0y, zd_e1n, zd_e1y, zd_nn, zd_ny, zd_mn, zd_my, zd_en, zd_ey, zd_e1, zd_in, zCk_T, zIx_n, nI_1, nI_add, zd_sub, zd_dec, if_true, if_false, ite_true, ite_false]
    by_cases q : bt u i = true
    · rw [if_pos q] at e
      rw [yB_t q, nI_1]
      exact e
    · rw [if_neg q] at e
      rw [yB_f q, Int32.add_zero]
      exact e
theorem g_many {u : Int32} {M : zMem} (hu : z24 u) : f_X10_many u M = some (zBc u, M) := by
  rw [← zCt_24 hu]
  exact g_many_L 24 0 zFu (by omega) (by unfold zFu; omega)
theorem g_wr_L {t a b u1 u2 : Int32} {M : zMem} (h3 : ∀ m, m < 24 → M 108 m = yB (bt t m = true)) : ∀ k i N P, i + k = 24 → k < N → f_X10_isWrong_L149 u1 u2 N a b (zT P) (nI i) M = some (zT (P ∨ ∃ m, i ≤ m ∧ m < 24 ∧ bt (a ||| b) m = true ∧ ¬ bt t m = true), M) := by
  intro k
  induction k with
  | zero =>
    intro i N P hi hN
    obtain ⟨N, rfl⟩ : ∃ N', N = N' + 1 := ⟨N - 1, by omega⟩
    rw [f_X10_isWrong_L149]
    simp (disch := omega) only [zl_2, zl_3, zl_4, zl_5, zl_6, zl_7, zl_8, zl_12, zl_20, zl_24, zl_28, zl_40, zl_60, zl_300, zl_320, zl_400, zl_600, zd_lt0, zd_l0n, zd_l0y, zd_0lt, zd_1lt, zd_1lty, zd_e0n, zd_e0y, zd_e1n, zd_e1y, zd_nn, zd_ny, zd_mn, zd_my, zd_en, zd_ey, zd_e1, zd_in, zCk_T, zIx_n, nI_1, nI_add, zd_sub, zd_dec, if_true, if_false, ite_true, ite_false]
    rw [zCk_t (zT_01 P)]
    congr 2
    refine zT_congr ⟨Or.inl, fun x => x.elim id ?_⟩
    rintro ⟨m, h1, h2, _⟩
    omega
  | succ k ih =>
    intro i N P hi hN
    obtain ⟨N, rfl⟩ : ∃ N', N = N' + 1 := ⟨N - 1, by omega⟩
    rw [f_X10_isWrong_L149, b_bits _ (by omega)]
    simp (disch := omega) only [zl_2, zl_3, zl_4, zl_5, zl_6, zl_7, zl_8, zl_12, zl_20, zl_24, zl_28, zl_40, zl_60, zl_300, zl_320, zl_400, zl_600, zd_lt0, zd_l0n, zd_l0y, zd_0lt, zd_1lt, zd_1lty, zd_e0n, zd_e0y, zd_e1n, zd_e1y, zd_nn, zd_ny, zd_mn, zd_my, zd_en, zd_ey, zd_e1, zd_in, zCk_T, zIx_n, nI_1, nI_add, zd_sub, zd_dec, if_true, if_false, ite_true, ite_false, zBd_some, zLt_eq, zUp_s, zUp_c, zUp_i, zCk_t]
    rw [h3 i (by omega)]
    by_cases qP : P
    · rw [zT_t qP, if_neg (by decide)]
      have e := ih (i + 1) N True (by omega) (by omega)
      rw [zT_t trivial, zT_t (Or.inl trivial)] at e
      rw [e, zT_t (Or.inl qP)]
    · rw [zT_f qP, if_pos rfl]
      have e0 := ih (i + 1) N False (by omega) (by omega)
      rw [zT_f (fun x => x)] at e0
      have e1 := ih (i + 1) N True (by omega) (by omega)
      rw [zT_t trivial, zT_t (Or.inl trivial)] at e1
      by_cases q1 : bt (a ||| b) i = true
      · rw [yB_t q1, if_pos rfl]
        by_cases q2 : bt t i = true
        · rw [yB_t q2, if_neg (by decide), e0]
          congr 2
          refine zT_congr ⟨fun x => x.elim False.elim ?_, fun x => x.elim (fun y => absurd y qP) ?_⟩
          · rintro ⟨m, h1, h2⟩
            exact Or.inr ⟨m, by omega, h2⟩
          · rintro ⟨m, h1, h2, h4, h5⟩
            by_cases e : m = i
            · rw [e] at h5
              exact absurd q2 h5
            · exact Or.inr ⟨m, by omega, h2, h4, h5⟩
        · rw [yB_f q2, if_pos rfl, e1, zT_t (Or.inr ⟨i, by omega, by omega, q1, q2⟩)]
      · rw [yB_f q1, if_neg (by decide), e0]
        congr 2
        refine zT_congr ⟨fun x => x.elim False.elim ?_, fun x => x.elim (fun y => absurd y qP) ?_⟩
        · rintro ⟨m, h1, h2⟩
          exact Or.inr ⟨m, by omega, h2⟩
        · rintro ⟨m, h1, h2, h4, h5⟩
          by_cases e : m = i
          · rw [e] at h4
            exact absurd h4 q1
          · exact Or.inr ⟨m, by omega, h2, h4, h5⟩
theorem zd_told8 {t a b : Int32} (ht : z24 t) : ((a &&& b) = 0 ∧ ((a ||| b) &&& (t ^^^ (-1))) = 0) ↔ ¬ ((¬ ((a &&& b) = 0 ∧ z24 a ∧ z24 b)) ∨ ∃ m, 0 ≤ m ∧ m < 24 ∧ bt (a ||| b) m = true ∧ ¬ bt t m = true) := by
  constructor
  · rintro ⟨h1, h2⟩ hx
    have hb : ∀ i, i < 32 → bt (a ||| b) i = true → bt t i = true := by
      intro i hi h
      have := congrArg (fun y => bt y i) h2
      simp only [b_0, b_and, b_xor, b_m1 i hi] at this
      rw [h] at this
      cases hq : bt t i
      · rw [hq] at this; simp at this
      · rfl
    rcases hx with x | ⟨m, _, h4, h5, h6⟩
    · refine x ⟨h1, ?_, ?_⟩
      · intro i hi
        rcases Nat.lt_or_ge i 32 with h32 | h32
        · cases hq : bt a i
          · rfl
          · have := hb i h32 (by rw [b_or, hq, Bool.true_or])
            rw [ht i hi] at this
            cases this
        · exact b_big h32
      · intro i hi
        rcases Nat.lt_or_ge i 32 with h32 | h32
        · cases hq : bt b i
          · rfl
          · have := hb i h32 (by rw [b_or, hq, Bool.or_true])
            rw [ht i hi] at this
            cases this
        · exact b_big h32
    · exact h6 (hb m (by omega) h5)
  · intro hx
    have hx1 : (a &&& b) = 0 ∧ z24 a ∧ z24 b := Classical.byContradiction (fun y => hx (Or.inl y))
    refine ⟨hx1.1, b_ext (fun i hi => ?_)⟩
    rw [b_and, b_xor, b_m1 i hi, b_0]
    cases hq : bt (a ||| b) i
    · rfl
    · rcases Nat.lt_or_ge i 24 with h24 | h24
      · cases hq2 : bt t i
        · exact absurd (Or.inr ⟨i, Nat.zero_le _, h24, hq, by rw [hq2]; decide⟩) hx
        · rfl
      · rw [b_or, hx1.2.1 i h24, hx1.2.2 i h24] at hq
        cases hq
theorem s_told_4 (S : zMem) (m d a b : Int32) : s_told S 4 m d a b = (1 ≤ a ∧ a ≤ 9999) := by
  unfold s_told
  rw [if_neg (by decide), if_pos rfl]
theorem s_told_6 (S : zMem) (m d a b : Int32) : s_told S 6 m d a b = (zIn m 24 ∧ zIn d 8 ∧ (0 ≤ a ∧ a ≤ 999) ∧ (0 ≤ b ∧ b ≤ 999)) := by
  unfold s_told
  rw [if_neg (by decide), if_neg (by decide), if_pos rfl]
theorem s_told_8 (S : zMem) (m d a b : Int32) : s_told S 8 m d a b = ((a &&& b) = 0 ∧ ((a ||| b) &&& (S 0 11 ^^^ (-1))) = 0) := by
  unfold s_told
  rw [if_neg (by decide), if_neg (by decide), if_neg (by decide), if_pos rfl]
theorem s_told_9 (S : zMem) (m d a b : Int32) : s_told S 9 m d a b = (a = 0 ∨ a = 1) := by
  unfold s_told
  rw [if_neg (by decide), if_neg (by decide), if_neg (by decide), if_neg (by decide), if_pos rfl]
def zLm (M : zMem) (k : Nat) (w m d a b : Int32) : Prop := M 94 k = w ∧ M 95 k = m ∧ M 96 k = d ∧ M 97 k = a ∧ M 98 k = b
/-- an act's numbers are wrong, but for its member -/
theorem g_wrong {S M : zMem} {k : Nat} {w m d a b : Int32} (hk : k < 300) (hl : zLm M k w m d a b) (ht : z24 (S 0 11)) (h3 : ∀ m, m < 24 → M 108 m = yB (bt (S 0 11) m = true)) (hm : w = 6 → zIn m 24) : f_X10_isWrong (nI k) w M = some (zT (¬ s_told S w m d a b ∧ (w = 4 ∨ w = 6 ∨ w = 8 ∨ w = 9)), M) := by
  obtain ⟨l1, l2, l3, l4, l5⟩ := hl
  have hi : zIn (nI k) 300 := zIn_n hk (by omega)
  have e0 : (0 : Int32).toInt = 0 := by decide +kernel
  have e1 : (1 : Int32).toInt = 1 := by decide +kernel
  have e7 : (7 : Int32).toInt = 7 := by decide +kernel
  have e9 : (999 : Int32).toInt = 999 := by decide +kernel
  have e99 : (9999 : Int32).toInt = 9999 := by decide +kernel
  have hnot : ∀ (p : Prop), (if zT p = 0 then some ((1 : Int32), M) else some (0, M)) = some (zT (¬ p), M) := by
    intro p
    by_cases q : p
    · rw [zT_t q, if_neg (by decide), zT_f (fun x => x q)]
    · rw [zT_f q, if_pos rfl, zT_t q]
  rw [f_X10_isWrong, zCk_t hi, zCk_t hi, zIx_n (by omega), l3, l4, l5, k_in, k_in, k_in]
  simp only [zCk_t hi, zBd_some, yB_T, k_in, hnot]
  by_cases q4 : w = 4
  · subst q4
    rw [if_pos rfl, s_told_4]
    congr 2
    refine zT_congr ⟨fun x => ⟨fun y => x ⟨Int32.le_iff_toInt_le.mp y.1, Int32.le_iff_toInt_le.mp y.2⟩, Or.inl rfl⟩, fun x y => x.1 ⟨Int32.le_iff_toInt_le.mpr y.1, Int32.le_iff_toInt_le.mpr y.2⟩⟩
  rw [if_neg q4]
  by_cases q5 : w = 5
  · subst q5
    rw [if_pos rfl, zT_f]
    rintro ⟨_, x | x | x | x⟩ <;> exact absurd x (by decide)
  rw [if_neg q5]
  by_cases q6 : w = 6
  · subst q6
    rw [if_pos rfl, s_told_6]
    have hm' := hm rfl
    by_cases c1 : (0 : Int32).toInt ≤ d.toInt ∧ d.toInt ≤ (7 : Int32).toInt
    · rw [zT_t c1, if_neg (by decide)]
      have c1' : zIn d 8 := ⟨by omega, by omega⟩
      by_cases c2 : (0 : Int32).toInt ≤ a.toInt ∧ a.toInt ≤ (999 : Int32).toInt
      · rw [zT_t c2, if_neg (by decide)]
        congr 2
        refine zT_congr ⟨fun x => ⟨fun y => x ⟨Int32.le_iff_toInt_le.mp y.2.2.2.1, Int32.le_iff_toInt_le.mp y.2.2.2.2⟩, by simp⟩, fun x y => x.1 ⟨hm', c1', ⟨Int32.le_iff_toInt_le.mpr c2.1, Int32.le_iff_toInt_le.mpr c2.2⟩, ⟨Int32.le_iff_toInt_le.mpr y.1, Int32.le_iff_toInt_le.mpr y.2⟩⟩⟩
      · rw [zT_f c2, if_pos rfl, zT_t ⟨fun y => c2 ⟨Int32.le_iff_toInt_le.mp y.2.2.1.1, Int32.le_iff_toInt_le.mp y.2.2.1.2⟩, by simp⟩]
    · rw [zT_f c1, if_pos rfl, zT_t ⟨fun y => c1 ⟨by have := y.2.1.1; omega, by have := y.2.1.2; omega⟩, by simp⟩]
  rw [if_neg q6]
  by_cases q7 : w = 7
  · subst q7
    rw [if_pos rfl, zT_f]
    rintro ⟨_, x | x | x | x⟩ <;> exact absurd x (by decide)
  rw [if_neg q7]
  by_cases q8 : w = 8
  · subst q8
    rw [if_pos rfl, s_told_8]
    have hgo : (if (a &&& b) = 0 then (if (a >>> (24 &&& 31)) = 0 then (if (b >>> (24 &&& 31)) = 0 then f_X10_isWrong_L149 (nI k) 8 zFu a b 0 0 M else f_X10_isWrong_L149 (nI k) 8 zFu a b 1 0 M) else f_X10_isWrong_L149 (nI k) 8 zFu a b 1 0 M) else f_X10_isWrong_L149 (nI k) 8 zFu a b 1 0 M) = f_X10_isWrong_L149 (nI k) 8 zFu a b (zT (¬ ((a &&& b) = 0 ∧ z24 a ∧ z24 b))) (nI 0) M := by
      by_cases c1 : (a &&& b) = 0
      · rw [if_pos c1]
        by_cases c2 : (a >>> (24 &&& 31)) = 0
        · rw [if_pos c2]
          by_cases c3 : (b >>> (24 &&& 31)) = 0
          · rw [if_pos c3, zT_f (fun x => x ⟨c1, (z24_sh a).mp c2, (z24_sh b).mp c3⟩)]
            rfl
          · rw [if_neg c3, zT_t (fun x => c3 ((z24_sh b).mpr x.2.2))]
            rfl
        · rw [if_neg c2, zT_t (fun x => c2 ((z24_sh a).mpr x.2.1))]
          rfl
      · rw [if_neg c1, zT_t (fun x => c1 x.1)]
        rfl
    rw [hgo, g_wr_L h3 24 0 zFu _ (by omega) (by unfold zFu; omega)]
    congr 2
    refine zT_congr ⟨fun x => ⟨fun y => (zd_told8 ht).mp y x, by simp⟩, fun x => Classical.byContradiction (fun y => x.1 ((zd_told8 ht).mpr y))⟩
  rw [if_neg q8]
  by_cases q9 : w = 9
  · subst q9
    rw [if_pos rfl, s_told_9]
    congr 2
    refine zT_congr ⟨fun x => ⟨fun y => x ?_, by simp⟩, fun x y => x.1 ?_⟩
    · rcases y with y | y
      · rw [y]; decide +kernel
      · rw [y]; decide +kernel
    · rcases (by omega : a.toInt = 0 ∨ a.toInt = 1) with z | z
      · exact Or.inl (Int32.toInt_inj.mp (z.trans e0.symm))
      · exact Or.inr (Int32.toInt_inj.mp (z.trans e1.symm))
  · rw [if_neg q9, zT_f]
    rintro ⟨_, x | x | x | x⟩
    · exact q4 x
    · exact q6 x
    · exact q8 x
    · exact q9 x
