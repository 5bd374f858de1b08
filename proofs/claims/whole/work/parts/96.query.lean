theorem zAt_out : ∀ (l : List Nat) (u : Int32) (c : Nat), c + l.length < 2 ^ 31 → (∀ i, i < l.length → u ≠ nI (c + i)) → zAt l u c = -1
  | [], _, _, _, _ => rfl
  | x :: t, u, c, hb, h => by
    rw [List.length_cons] at hb
    have h0 := h 0 (by simp)
    rw [zAt, if_neg (fun y => h0 (by rw [Nat.add_zero]; exact y.symm))]
    refine zAt_out t u (c + 1) (by omega) (fun i hi => ?_)
    have := h (i + 1) (by simp; omega)
    rw [show c + 1 + i = c + (i + 1) by omega]
    exact this
theorem zAt_in : ∀ (l : List Nat) (j c : Nat), j < l.length → c + l.length < 2 ^ 31 → zAt l (nI (c + j)) c = nI (l.getD j 0)
  | [], j, _, h, _ => by simp at h
  | x :: t, j, c, h, hb => by
    rw [List.length_cons] at h hb
    cases j with
    | zero =>
      rw [zAt, Nat.add_zero, if_pos rfl]
      rfl
    | succ j =>
      rw [zAt, if_neg (by rw [nI_eq (by omega) (by omega)]; omega), zL_cons (by omega), Nat.add_sub_cancel, show c + (j + 1) = c + 1 + j by omega]
      exact zAt_in t j (c + 1) (by omega) (by omega)
theorem zAt_eq {l : List Nat} {u : Int32} (hl : l.length < 2 ^ 31) : zAt l u 0 = if zIn u l.length then nI (l.getD (zIx u) 0) else -1 := by
  by_cases q : zIn u l.length
  · obtain ⟨j, hj, ej⟩ := zIn_of q
    have := zAt_in l j 0 hj (by omega)
    rw [Nat.zero_add] at this
    rw [if_pos q, ej, zIx_n (by omega), this]
  · rw [if_neg q]
    refine zAt_out l u 0 (by omega) (fun i hi y => q ?_)
    rw [y, Nat.zero_add]
    exact zIn_n hi (by omega)
theorem q_place (u : Int32) : zCall (f_X9_place u) (f_X10_place u) := by
  rintro M hI
  obtain ⟨n, nq, nm, e, t, hL, hE, ⟨hC, hS, hW⟩, hT, hJ⟩ := id hI
  refine ⟨zPo (s_pl (s_run M n) e 0) u 0, M, M, ?_, ?_, hI⟩
  · rw [f_X9_place, show (21 + 12 : Nat) = 21 + 12 from rfl, k_placeOf hC.2.2.2.1 hW.2.1.1, zBd_some]
  · rw [f_X10_place, g_placeOf hW.2.1 hS.2.2.2.2.2.2.1, zBd_some]
theorem q_clause (u v : Int32) : zCall (f_X9_clause u v) (f_X10_clause_ u v) := by
  rintro M hI
  obtain ⟨n, nq, nm, e, t, hL, hE, ⟨hC, hS, hW⟩, hT, hJ⟩ := id hI
  have hP := hW.2.1
  obtain ⟨hO, h5, h40, h30, h31, hc⟩ := id hP
  obtain ⟨m48, m49, m50, mA⟩ := hS.2.2.2.2.2.2.1
  have h320 := hO.2.1
  have hx := zO_x hO.1 hO.2.1
  rw [f_X9_clause, k_numberAt hC.2.2.2.1 hO, zBd_some, zAt_eq (by omega), k_txt hC.2.2.2.1 hO.1 hO.2.1, zBd_some]
  have hm : f_X10_clause_ u v M = some (if zIn u (s_pl (s_run M n) e 0).length then (if v = 0 then nI ((s_pl (s_run M n) e 0).getD (zIx u) 0) else if v = 1 then s_run M n 14 ((s_pl (s_run M n) e 0).getD (zIx u) 0) else -1) else -1, M) := by
    rw [f_X10_clause_, m48, m49, k_in, zBd_some]
    by_cases q0 : s_run M n 12 3 = 0
    · have e0 := h30 q0
      subst e0
      rw [if_pos q0, s_pl_nil, if_neg]
      intro y
      have y1 := y.1
      have y2 := y.2
      simp at y2
      omega
    · rw [if_neg q0]
      by_cases q : zIn u (s_pl (s_run M n) e 0).length
      · have q6 : zIn u 60 := ⟨q.1, by have := q.2; omega⟩
        have hj := zIx_lt q
        rw [yB_t ((in_n (by omega)).mpr q), if_neg (by decide), zCk_t q6, zCk_t q6, if_pos q, (mA _ hj).1, (mA _ hj).2]
        by_cases v0 : v = 0
        · rw [if_pos v0, if_pos v0]
        rw [if_neg v0, if_neg v0]
        by_cases v1 : v = 1
        · rw [if_pos v1, if_pos v1]
        · rw [if_neg v1, if_neg v1]
      · rw [yB_f (fun y => q ((in_n (by omega)).mp y)), if_pos rfl, if_neg q]
  refine ⟨_, M, M, ?_, hm, hI⟩
  by_cases q : zIn u (s_pl (s_run M n) e 0).length
  · rw [if_pos q, if_pos q]
    have hmem := (s_pl_in hO).mp (zL_mem (zIx_lt q))
    by_cases v0 : v = 0
    · rw [if_pos v0, if_pos v0]
    rw [if_neg v0, if_neg v0]
    by_cases v1 : v = 1
    · rw [if_pos v1, if_pos v1]
      unfold s_txt
      rw [hx, zIx_n (by omega), if_pos ⟨zIn_n hmem.1 (by omega), hmem.2⟩]
    · rw [if_neg v1, if_neg v1]
  · rw [if_neg q, if_neg q]
    have htx : s_txt (s_run M n) (-1) = -1 := by
      unfold s_txt
      rw [if_neg]
      intro y
      exact absurd y.1.1 (by decide +kernel)
    by_cases v0 : v = 0
    · rw [if_pos v0]
    rw [if_neg v0]
    by_cases v1 : v = 1
    · rw [if_pos v1, htx]
    · rw [if_neg v1]
theorem q_pending (u v : Int32) : zCall (f_X9_pending u v) (f_X10_pending u v) := by
  rintro M hI
  obtain ⟨n, nq, nm, e, t, hL, hE, ⟨hC, hS, hW⟩, hT, hJ⟩ := id hI
  obtain ⟨hm, hm8, hmo⟩ := hW.1.2.1
  have hx : zIx (s_run M n 4 8) = nm := by rw [hm, zIx_n (by omega)]
  have m39 := hS.2.1.2.2.2.2.2.2.2.2
  rw [f_X9_pending, f_X3_tell, show M (21 + 4) 8 = s_run M n 4 8 from zCM_8 hC.2.2.1, hm]
  by_cases q : zIn u nm
  · obtain ⟨j, hj, ej⟩ := zIn_of q
    subst ej
    have q8 : zIn (nI j) 8 := zIn_n (by omega) (by omega)
    have q12 : zIn (nI j) 12 := zIn_n (by omega) (by omega)
    have hM4 := hS.2.2.2.2.1 j (by omega)
    have hc : ∀ i, 1 ≤ i → i < 8 → M (21 + 4 + i) j = s_run M n (4 + i) j := fun i h1 h2 => zCM_c hC.2.2.1 i h1 h2 (by omega)
    have hgo : f_X10_pending (nI j) v M = some (if v = 0 then s_run M n 5 j else if v = 1 then s_run M n 6 j else if v = 2 then s_run M n 7 j else if v = 3 then s_run M n 8 j else if v = 4 then (if s_run M n 10 j = 0 then 0 else 1) else if v = 5 then (if s_run M n 11 j = 0 then 0 else 1) else -1, M) := by
      rw [f_X10_pending, m39, hm, k_in, zBd_some, yB_t ((in_n (by omega)).mpr q), if_neg (by decide), zCk_t q12, zCk_t q12, zCk_t q12, zCk_t q12, zCk_t q12, zCk_t q12, zIx_n (by omega), hM4.1, hM4.2.1, hM4.2.2.1, hM4.2.2.2.1, hM4.2.2.2.2.1, hM4.2.2.2.2.2.1]
      by_cases v0 : v = 0
      · rw [if_pos v0, if_pos v0]
      rw [if_neg v0, if_neg v0]
      by_cases v1 : v = 1
      · rw [if_pos v1, if_pos v1]
      rw [if_neg v1, if_neg v1]
      by_cases v2 : v = 2
      · rw [if_pos v2, if_pos v2]
      rw [if_neg v2, if_neg v2]
      by_cases v3 : v = 3
      · rw [if_pos v3, if_pos v3]
      rw [if_neg v3, if_neg v3]
      by_cases v4 : v = 4
      · rw [if_pos v4, if_pos v4]
        by_cases c : s_run M n 10 j = 0
        · rw [if_pos c, if_pos c]
        · rw [if_neg c, if_neg c]
      rw [if_neg v4, if_neg v4]
      by_cases v5 : v = 5
      · rw [if_pos v5, if_pos v5]
        by_cases c : s_run M n 11 j = 0
        · rw [if_pos c, if_pos c]
        · rw [if_neg c, if_neg c]
      · rw [if_neg v5, if_neg v5]
    refine ⟨_, M, M, ?_, hgo, hI⟩
    rw [if_neg (nI_pos (by omega)), if_neg (nI_ge hj (by omega)), if_pos (show nI j < 8 from nI_lt (b := 8) (by omega) (by omega)), zCk_t q8, zCk_t q8, zCk_t q8, zCk_t q8, zCk_t q8, zCk_t q8, zIx_n (by omega), hc 1 (by omega) (by omega), hc 2 (by omega) (by omega), hc 3 (by omega) (by omega), hc 4 (by omega) (by omega), hc 6 (by omega) (by omega), hc 7 (by omega) (by omega)]
    by_cases v0 : v = 0
    · rw [if_pos v0, if_pos v0, zBd_some]
    rw [if_neg v0, if_neg v0]
    by_cases v1 : v = 1
    · rw [if_pos v1, if_pos v1, zBd_some]
    rw [if_neg v1, if_neg v1]
    by_cases v2 : v = 2
    · rw [if_pos v2, if_pos v2, zBd_some]
    rw [if_neg v2, if_neg v2]
    by_cases v3 : v = 3
    · rw [if_pos v3, if_pos v3, zBd_some]
    rw [if_neg v3, if_neg v3]
    by_cases v4 : v = 4
    · rw [if_pos v4, if_pos v4]
      show zBd (if s_run M n 10 j = 0 then _ else _) _ = _
      by_cases c : s_run M n 10 j = 0
      · rw [if_pos c, if_pos c, zBd_some]
      · rw [if_neg c, if_neg c, zBd_some]
    rw [if_neg v4, if_neg v4]
    by_cases v5 : v = 5
    · rw [if_pos v5, if_pos v5]
      show zBd (if s_run M n 11 j = 0 then _ else _) _ = _
      by_cases c : s_run M n 11 j = 0
      · rw [if_pos c, if_pos c, zBd_some]
      · rw [if_neg c, if_neg c, zBd_some]
    · rw [if_neg v5, if_neg v5, zBd_some]
  · refine ⟨-1, M, M, ?_, ?_, hI⟩
    · by_cases q0 : u < 0
      · rw [if_pos q0, zBd_some]
      · obtain ⟨j, hj, ej⟩ := nI_of q0
        subst ej
        rw [if_neg q0, if_pos (nI_le (by
          rcases Nat.lt_or_ge j nm with y | y
          · exact absurd (zIn_n y (by omega)) q
          · exact y) hj), zBd_some]
    · rw [f_X10_pending, m39, hm, k_in, zBd_some, yB_f (fun y => q ((in_n (by omega)).mp y)), if_pos rfl]
theorem q_told (u : Int32) : zCall (f_X9_told u) (f_X10_told u) := by
  rintro M hI
  obtain ⟨n, nq, nm, e, t, hL, ⟨hWE, hMv, h45⟩, ⟨hC, hS, hW⟩, hT, hJ⟩ := id hI
  have e0 : (0 : Int32).toInt = 0 := by decide +kernel
  have e7 : (7 : Int32).toInt = 7 := by decide +kernel
  have e20 : (20 : Int32).toInt = 20 := by decide +kernel
  have e27 : (27 : Int32).toInt = 27 := by decide +kernel
  have e28 : (28 : Int32).toInt = 28 := by decide +kernel
  have e8 : (8 : Int32).toInt = 8 := by decide +kernel
  rw [f_X9_told, f_X9_told_B20]
  by_cases q : zIn u 8
  · obtain ⟨j, hj, ej⟩ := zIn_of q
    subst ej
    refine ⟨M 4 j, M, M, ?_, ?_, hI⟩
    · rw [if_neg (nI_pos (by omega)), if_neg (show ¬ (8 : Int32) ≤ nI j from nI_ge (b := 8) hj (by omega)), zCk_t q, zIx_n (by omega)]
    · rw [f_X10_told, k_in, zBd_some, yB_t (by rw [e0, e7]; exact ⟨q.1, by have := q.2; omega⟩), if_neg (by decide), zCk_t q, zIx_n (by omega), (hMv.1 j hj).1]
  · have hq : ∀ a b : zTr, (if u < 0 then a else if 8 ≤ u then a else b) = a := fun a b => by
      by_cases c1 : u < 0
      · rw [if_pos c1]
      · rw [if_neg c1, if_pos]
        have c2 := mt Int32.lt_iff_toInt_lt.mpr c1
        refine Int32.le_iff_toInt_le.mpr ?_
        rw [e8]
        rcases Int.lt_or_le u.toInt 8 with y | y
        · exact absurd ⟨by omega, by omega⟩ q
        · exact y
    have hm1 : f_X10_told u M = zBd (f_X10_in u 20 27 M) (fun r3 M4 => if r3 = 0 then (if u = 10 then some (M4 89 0, M4) else if u = 11 then some (M4 90 0, M4) else if u = 12 then (if (M4 91 0) = 0 then some (0, M4) else some (1, M4)) else if u = 13 then (if (M4 92 0) = 0 then some (0, M4) else some (1, M4)) else if u = 30 then some (M4 74 2, M4) else some (-1, M4)) else zCk (zIn (u - 20) 8) (if (M4 78 (zIx (u - 20))) = 0 then some (-1, M4) else zCk (zIn (u - 20) 8) (some (M4 81 (zIx (u - 20)), M4)))) := by
      rw [f_X10_told, k_in, zBd_some, yB_f (fun y => q ⟨by rw [e0] at y; exact y.1, by rw [e7] at y; omega⟩), if_pos rfl]
    rw [hq]
    by_cases q2 : (20 : Int32).toInt ≤ u.toInt ∧ u.toInt ≤ (27 : Int32).toInt
    · have hs : (u - 20).toInt = u.toInt - 20 := by
        rw [Int32.toInt_sub, e20, Int.bmod_eq_of_le (by omega) (by omega)]
      have hz : zIn (u - 20) 8 := ⟨by omega, by omega⟩
      have hj := zIx_lt hz
      have hMj := hMv.1 _ hj
      rw [if_neg (show ¬ u < 20 from fun y => by have := Int32.lt_iff_toInt_lt.mp y; omega), if_neg (show ¬ 28 ≤ u from fun y => by have := Int32.le_iff_toInt_le.mp y; omega), zCk_t hz]
      show ∃ r M1 M2, some (M 5 (zIx (u - 20)), M) = some (r, M1) ∧ _
      refine ⟨M 5 (zIx (u - 20)), M, M, rfl, ?_, hI⟩
      rw [hm1, k_in, zBd_some, yB_t q2, if_neg (by decide), zCk_t hz, zCk_t hz, hMj.1]
      by_cases c : M 4 (zIx (u - 20)) = 0
      · rw [if_pos c, h45 _ hj c]
      · rw [if_neg c, hMj.2.2.2 c]
    · have hq3 : ∀ a b : zTr, (if u < 20 then a else if 28 ≤ u then a else b) = a := fun a b => by
        by_cases c1 : u < 20
        · rw [if_pos c1]
        · rw [if_neg c1, if_pos]
          have c2 := mt Int32.lt_iff_toInt_lt.mpr c1
          refine Int32.le_iff_toInt_le.mpr ?_
          rw [e28]
          rcases Int.lt_or_le u.toInt 28 with y | y
          · exact absurd ⟨by omega, by omega⟩ q2
          · exact y
      have hm2 : f_X10_told u M = some (if u = 10 then M 3 4 else if u = 11 then M 3 5 else if u = 12 then (if M 3 6 = 0 then 0 else 1) else if u = 13 then (if M 3 7 = 0 then 0 else 1) else if u = 30 then M 1 1 else -1, M) := by
        rw [hm1, k_in, zBd_some, yB_f q2, if_pos rfl, hMv.2.1, hMv.2.2.1, hMv.2.2.2.1, hMv.2.2.2.2.1, hT.2.1, ← hT.1]
        by_cases v0 : u = 10
        · rw [if_pos v0, if_pos v0]
        rw [if_neg v0, if_neg v0]
        by_cases v1 : u = 11
        · rw [if_pos v1, if_pos v1]
        rw [if_neg v1, if_neg v1]
        by_cases v2 : u = 12
        · rw [if_pos v2, if_pos v2]
          by_cases c : M 3 6 = 0
          · rw [if_pos c, if_pos c]
          · rw [if_neg c, if_neg c]
        rw [if_neg v2, if_neg v2]
        by_cases v3 : u = 13
        · rw [if_pos v3, if_pos v3]
          by_cases c : M 3 7 = 0
          · rw [if_pos c, if_pos c]
          · rw [if_neg c, if_neg c]
        rw [if_neg v3, if_neg v3]
        by_cases v4 : u = 30
        · rw [if_pos v4, if_pos v4]
        · rw [if_neg v4, if_neg v4]
      refine ⟨_, M, M, ?_, hm2, hI⟩
      rw [hq3, f_X9_told_B45]
      by_cases v0 : u = 10
      · rw [if_pos v0, if_pos v0]
      rw [if_neg v0, if_neg v0]
      by_cases v1 : u = 11
      · rw [if_pos v1, if_pos v1]
      rw [if_neg v1, if_neg v1]
      by_cases v2 : u = 12
      · rw [if_pos v2, if_pos v2]
        by_cases c : M 3 6 = 0
        · rw [if_pos c, if_pos c]
        · rw [if_neg c, if_neg c]
      rw [if_neg v2, if_neg v2]
      by_cases v3 : u = 13
      · rw [if_pos v3, if_pos v3]
        by_cases c : M 3 7 = 0
        · rw [if_pos c, if_pos c]
        · rw [if_neg c, if_neg c]
      rw [if_neg v3, if_neg v3]
      by_cases v4 : u = 30
      · rw [if_pos v4, if_pos v4]
      · rw [if_neg v4, if_neg v4]
