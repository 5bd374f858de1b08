theorem q_end (u : Int32) : zCall (f_X9_end u) (f_X10_end u) := by
  rintro M hI
  obtain ⟨n, nq, nm, e, t, hL, hE, hS, hT, hJ⟩ := id hI
  have ht := hT.2.2.1
  by_cases q0 : u < 0
  · refine ⟨-1, M, M, ?_, ?_, hI⟩
    · rw [f_X9_end, if_pos q0]
    · rw [f_X10_end, if_pos q0]
  obtain ⟨j, hj, ej⟩ := nI_of q0
  subst ej
  by_cases q1 : j ≤ t
  · refine ⟨nI j, zUp M 1 1 (nI j), zUp (zUp M 1 1 (nI j)) 74 2 (nI j), ?_, ?_, ?_⟩
    · rw [f_X9_end, if_neg q0, hT.1, if_pos (nI_le q1 (by omega)), zLt_eq]
    · rw [f_X10_end, if_neg q0, zUp_c (by omega), hT.2.1, if_pos (nI_le q1 (by omega)), zLt_eq]
    · refine zInv_c hL hE hS hJ (fun c i hc => ?_) (t := j) ⟨by rw [zUp_c (by omega), zUp_s], zUp_s, by omega, fun i hi => ?_⟩
      · unfold zKp at hc
        by_cases y : c = 74
        · subst y
          rw [zUp_x (by omega), zUp_c (by omega)]
        · rw [zUp_c y, zUp_c (by omega)]
      · simp (disch := omega) only [zUp_c]
        exact hT.2.2.2 i (by omega)
  · refine ⟨-1, M, M, ?_, ?_, hI⟩
    · rw [f_X9_end, if_neg q0, hT.1, if_neg (nI_ge (by omega) hj)]
    · rw [f_X10_end, if_neg q0, hT.2.1, if_neg (nI_ge (by omega) hj)]
/-- byte j of a number, the highest first -/
def zBy (u : Int32) (j : Nat) : Int32 := (zUsr u (nI (24 - 8 * j))).toInt8.toInt32
theorem zBy_r (u : Int32) (j : Nat) : -128 ≤ (zBy u j).toInt ∧ (zBy u j).toInt ≤ 127 := by
  unfold zBy
  rw [Int8.toInt_toInt32]
  have h1 := Int8.le_toInt (zUsr u (nI (24 - 8 * j))).toInt8
  have h2 := Int8.toInt_lt (zUsr u (nI (24 - 8 * j))).toInt8
  omega
theorem zBy_eq (u : Int32) {j : Nat} (hj : j < 4) : (u >>> (nI (24 - 8 * j) &&& 31)).toInt8.toInt32 = zBy u j := by
  unfold zBy
  congr 1
  refine Int8.toBitVec_inj.mp (BitVec.eq_of_getLsbD_eq (fun i hi => ?_))
  have h1 : ∀ x : Int32, x.toInt8.toBitVec.getLsbD i = bt x i := fun x => by
    show (x.toBitVec.signExtend 8).getLsbD i = x.toBitVec.getLsbD i
    rw [BitVec.getLsbD_signExtend]
    simp [hi]
    intro h
    omega
  rw [h1, h1, b_ushr _ (by omega), b_sshr _ (by omega) _ (by omega), if_pos (by omega)]
theorem c_app {M : zMem} {t : Nat} (u : Int32) (h1 : M 1 1 = nI t) (ht : t + 4 ≤ 600) : ∃ M', f_X8_append u M = some (0, M') ∧ M' 1 1 = nI (t + 4) ∧ (∀ c, c ≠ 1 → c ≠ 2 → M' c = M c) ∧ (∀ i, i < t → M' 2 i = M 2 i) ∧ (∀ j, j < 4 → M' 2 (t + j) = zBy u j) := by
  have hs : f_X8_append u M = f_X8_append_L3 u (1996 + 1 + 1 + 1 + 1) (nI 24) M := rfl
  refine ⟨zUp (zUp (zUp (zUp (zUp (zUp (zUp (zUp M 2 t (zBy u 0)) 1 1 (nI (t + 1))) 2 (t + 1) (zBy u 1)) 1 1 (nI (t + 2))) 2 (t + 2) (zBy u 2)) 1 1 (nI (t + 3))) 2 (t + 3) (zBy u 3)) 1 1 (nI (t + 4)), ?_, zUp_s, fun c a b => by simp (disch := omega) only [zUp_off], fun i hi => by simp (disch := omega) only [zUp_c, zUp_x], fun j hj => ?_⟩
  · rw [hs, append_1 h1 (by omega) (by decide), append_1 (k := t + 1) zUp_s (by omega) (by decide), append_1 (k := t + 2) zUp_s (by omega) (by decide), append_1 (k := t + 3) zUp_s (by omega) (by decide)]
    rw [show (1996 : Nat) = 1995 + 1 from rfl, f_X8_append_L3, if_pos (by decide)]
    rfl
  · rcases (by omega : j = 0 ∨ j = 1 ∨ j = 2 ∨ j = 3) with y | y | y | y <;> (subst y; simp (disch := omega) only [zUp_c, zUp_x, zUp_s, Nat.add_zero])
theorem put_1 {u : Int32} {x : Nat} {M : zMem} {n k : Nat} (hM : M 74 2 = nI k) (hk : k < 600) (hx : x < 100) : f_X10_put_L3 u (n + 1) (nI x) M = f_X10_put_L3 u n (nI x + (-8)) (zUp (zUp M 75 k (u >>> (nI x &&& 31)).toInt8.toInt32) 74 2 (nI (k + 1))) := by
  rw [f_X10_put_L3, if_neg (nI_pos (by omega)), hM, zCk_t (zIn_n hk (by omega)), zLt_eq, zLt_eq, zIx_n (by omega), zUp_c (by omega), hM, nI_1]
theorem m_put {M : zMem} {t : Nat} (u : Int32) (h1 : M 74 2 = nI t) (ht : t + 4 ≤ 600) : ∃ M', f_X10_put u M = some (0, M') ∧ M' 74 2 = nI (t + 4) ∧ (∀ c, c ≠ 74 → c ≠ 75 → M' c = M c) ∧ (∀ i, i ≠ 2 → M' 74 i = M 74 i) ∧ (∀ i, i < t → M' 75 i = M 75 i) ∧ (∀ j, j < 4 → M' 75 (t + j) = zBy u j) := by
  have hs : f_X10_put u M = f_X10_put_L3 u (1996 + 1 + 1 + 1 + 1) (nI 24) M := rfl
  have e0 := zBy_eq u (j := 0) (by omega)
  have e1 := zBy_eq u (j := 1) (by omega)
  have e2 := zBy_eq u (j := 2) (by omega)
  have e3 := zBy_eq u (j := 3) (by omega)
  refine ⟨zUp (zUp (zUp (zUp (zUp (zUp (zUp (zUp M 75 t (zBy u 0)) 74 2 (nI (t + 1))) 75 (t + 1) (zBy u 1)) 74 2 (nI (t + 2))) 75 (t + 2) (zBy u 2)) 74 2 (nI (t + 3))) 75 (t + 3) (zBy u 3)) 74 2 (nI (t + 4)), ?_, zUp_s, fun c a b => by simp (disch := omega) only [zUp_off], fun i hi => by simp (disch := omega) only [zUp_c, zUp_x], fun i hi => by simp (disch := omega) only [zUp_c, zUp_x], fun j hj => ?_⟩
  · rw [hs, put_1 (x := 24) h1 (by omega) (by omega), show nI 24 + (-8) = nI 16 from by decide +kernel, put_1 (x := 16) (k := t + 1) zUp_s (by omega) (by omega), show nI 16 + (-8) = nI 8 from by decide +kernel, put_1 (x := 8) (k := t + 2) zUp_s (by omega) (by omega), show nI 8 + (-8) = nI 0 from by decide +kernel, put_1 (x := 0) (k := t + 3) zUp_s (by omega) (by omega)]
    rw [show (1996 : Nat) = 1995 + 1 from rfl, f_X10_put_L3, if_pos (by decide), ← e0, ← e1, ← e2, ← e3]
  · rcases (by omega : j = 0 ∨ j = 1 ∨ j = 2 ∨ j = 3) with y | y | y | y <;> (subst y; simp (disch := omega) only [zUp_c, zUp_x, zUp_s, Nat.add_zero])
theorem q_feed (a b c d f : Int32) : zCall (f_X9_feed a b c d f) (f_X10_feed a b c d f) := by
  rintro M hI
  obtain ⟨n, nq, nm, e, t, hL, hE, hS, hT, hJ⟩ := id hI
  have ht := hT.2.2.1
  have h20 : nI t + 20 = nI (t + 20) := nI_add t 20
  by_cases q : t + 20 ≤ 600
  · obtain ⟨M1, e1, a1, b1, c1, d1⟩ := c_app a hT.1 (by omega)
    obtain ⟨M2, e2, a2, b2, c2, d2⟩ := c_app b a1 (by omega)
    obtain ⟨M3, e3, a3, b3, c3, d3⟩ := c_app c a2 (by omega)
    obtain ⟨M4, e4, a4, b4, c4, d4⟩ := c_app d a3 (by omega)
    obtain ⟨M5, e5, a5, b5, c5, d5⟩ := c_app f a4 (by omega)
    have g : ∀ x, x ≠ 1 → x ≠ 2 → M5 x = M x := fun x y z => by rw [b5 x y z, b4 x y z, b3 x y z, b2 x y z, b1 x y z]
    have m2 : M5 74 2 = nI t := by rw [g 74 (by omega) (by omega), hT.2.1]
    obtain ⟨N1, x1, y1, z1, w1, v1, u1⟩ := m_put a m2 (by omega)
    obtain ⟨N2, x2, y2, z2, w2, v2, u2⟩ := m_put b y1 (by omega)
    obtain ⟨N3, x3, y3, z3, w3, v3, u3⟩ := m_put c y2 (by omega)
    obtain ⟨N4, x4, y4, z4, w4, v4, u4⟩ := m_put d y3 (by omega)
    obtain ⟨N5, x5, y5, z5, w5, v5, u5⟩ := m_put f y4 (by omega)
    have h74 : ∀ i, i ≠ 2 → N5 74 i = M 74 i := fun i hi => by rw [w5 i hi, w4 i hi, w3 i hi, w2 i hi, w1 i hi, g 74 (by omega) (by omega)]
    have hg : ∀ x, x ≠ 74 → x ≠ 75 → N5 x = M5 x := fun x y z => by rw [z5 x y z, z4 x y z, z3 x y z, z2 x y z, z1 x y z]
    refine ⟨nI (t + 20), M5, N5, ?_, ?_, ?_⟩
    · rw [f_X9_feed, hT.1, h20, if_pos (show nI (t + 20) ≤ 600 from nI_le (b := 600) q (by omega)), e1, zBd_some, e2, zBd_some, e3, zBd_some, e4, zBd_some, e5, zBd_some, a5]
    · rw [f_X10_feed, m2, h20, if_pos (show nI (t + 20) ≤ 600 from nI_le (b := 600) q (by omega)), x1, zBd_some, x2, zBd_some, x3, zBd_some, x4, zBd_some, x5, zBd_some, y5]
    · refine zInv_c hL hE hS hJ (fun x i hx => ?_) (t := t + 20) ⟨by rw [hg 1 (by omega) (by omega), a5], y5, by omega, fun i hi => ?_⟩
      · unfold zKp at hx
        by_cases y : x = 74
        · subst y
          exact h74 i (by omega)
        · rw [hg x y (by omega), g x (by omega) (by omega)]
      · rw [hg 2 (by omega) (by omega)]
        have hold : ∀ i, i < t → N5 75 i = M5 2 i ∧ -128 ≤ (M5 2 i).toInt ∧ (M5 2 i).toInt ≤ 127 := fun i hi => by
          rw [v5 i (by omega), v4 i (by omega), v3 i (by omega), v2 i (by omega), v1 i hi, g 75 (by omega) (by omega), c5 i (by omega), c4 i (by omega), c3 i (by omega), c2 i (by omega), c1 i hi]
          exact hT.2.2.2 i hi
        have hcs : i < t ∨ (∃ j, j < 4 ∧ i = t + j) ∨ (∃ j, j < 4 ∧ i = t + 4 + j) ∨ (∃ j, j < 4 ∧ i = t + 4 + 4 + j) ∨ (∃ j, j < 4 ∧ i = t + 4 + 4 + 4 + j) ∨ (∃ j, j < 4 ∧ i = t + 4 + 4 + 4 + 4 + j) := by
          rcases (by omega : i < t ∨ (t ≤ i ∧ i < t + 4) ∨ (t + 4 ≤ i ∧ i < t + 8) ∨ (t + 8 ≤ i ∧ i < t + 12) ∨ (t + 12 ≤ i ∧ i < t + 16) ∨ (t + 16 ≤ i ∧ i < t + 20)) with y | y | y | y | y | y
          · exact Or.inl y
          · exact Or.inr (Or.inl ⟨i - t, by omega, by omega⟩)
          · exact Or.inr (Or.inr (Or.inl ⟨i - t - 4, by omega, by omega⟩))
          · exact Or.inr (Or.inr (Or.inr (Or.inl ⟨i - t - 8, by omega, by omega⟩)))
          · exact Or.inr (Or.inr (Or.inr (Or.inr (Or.inl ⟨i - t - 12, by omega, by omega⟩))))
          · exact Or.inr (Or.inr (Or.inr (Or.inr (Or.inr ⟨i - t - 16, by omega, by omega⟩))))
        rcases hcs with y | ⟨j, hj, y⟩ | ⟨j, hj, y⟩ | ⟨j, hj, y⟩ | ⟨j, hj, y⟩ | ⟨j, hj, y⟩
        · exact hold i y
        · subst y
          rw [v5 _ (by omega), v4 _ (by omega), v3 _ (by omega), v2 _ (by omega), u1 j hj, c5 _ (by omega), c4 _ (by omega), c3 _ (by omega), c2 _ (by omega), d1 j hj]
          exact ⟨rfl, zBy_r a j⟩
        · subst y
          rw [v5 _ (by omega), v4 _ (by omega), v3 _ (by omega), u2 j hj, c5 _ (by omega), c4 _ (by omega), c3 _ (by omega), d2 j hj]
          exact ⟨rfl, zBy_r b j⟩
        · subst y
          rw [v5 _ (by omega), v4 _ (by omega), u3 j hj, c5 _ (by omega), c4 _ (by omega), d3 j hj]
          exact ⟨rfl, zBy_r c j⟩
        · subst y
          rw [v5 _ (by omega), u4 j hj, c5 _ (by omega), d4 j hj]
          exact ⟨rfl, zBy_r d j⟩
        · subst y
          rw [u5 j hj, d5 j hj]
          exact ⟨rfl, zBy_r f j⟩
  · refine ⟨-1, M, M, ?_, ?_, hI⟩
    · rw [f_X9_feed, hT.1, h20, if_neg (show ¬ nI (t + 20) ≤ 600 from nI_ge (a := 600) (by omega) (by omega))]
    · rw [f_X10_feed, hT.2.1, h20, if_neg (show ¬ nI (t + 20) ≤ 600 from nI_ge (a := 600) (by omega) (by omega))]
