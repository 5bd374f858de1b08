theorem g_aw0 {u x2 : Int32} : ∀ k i N M, i + k = 24 → k < N → ∃ M', f_X10_award_L4 u N x2 (nI i) M = f_X10_award_L25 u zFu x2 0 M' ∧ (∀ c, c ≠ 139 → M' c = M c) ∧ (∀ j, j < 24 → M' 139 j = if i ≤ j then 0 else M 139 j) := by
  intro k
  induction k with
  | zero =>
    intro i N M hi hN
    obtain ⟨N, rfl⟩ : ∃ N', N = N' + 1 := ⟨N - 1, by omega⟩
    refine ⟨M, ?_, fun _ _ => rfl, fun j hj => by rw [if_neg (by omega)]⟩
    rw [f_X10_award_L4, if_pos (show (24 : Int32) ≤ nI i from nI_le (a := 24) (by omega) (by omega))]
  | succ k ih =>
    intro i N M hi hN
    obtain ⟨N, rfl⟩ : ∃ N', N = N' + 1 := ⟨N - 1, by omega⟩
    obtain ⟨M', e, a1, a2⟩ := ih (i + 1) N (zUp M 139 i 0) (by omega) (by omega)
    refine ⟨M', ?_, fun c hc => (a1 c hc).trans (zUp_off hc), fun j hj => ?_⟩
    · rw [f_X10_award_L4, if_neg (show ¬ (24 : Int32) ≤ nI i from nI_ge (b := 24) (by omega) (by omega)), zCk_t (zIn_n (by omega) (by omega)), zLt_eq, zIx_n (by omega), nI_1]
      exact e
    · rw [a2 j hj]
      rcases (by omega : j < i ∨ j = i ∨ i < j) with q | q | q
      · rw [if_neg (by omega), if_neg (by omega), zUp_x (by omega)]
      · subst q
        rw [if_neg (by omega), if_pos (by omega), zUp_s]
      · rw [if_pos (by omega), if_pos (by omega)]
theorem q_award (u : Int32) : zCall (f_X9_award u) (f_X10_award u) := by
  rintro M hI
  obtain ⟨n, nq, nm, e, t, hL, hE, hS, hT, hJ⟩ := id hI
  obtain ⟨M1, e1, a1, a2⟩ := c_memF (M0 := M) (u := u) 24 0 zFu M (by omega) (by unfold zFu; omega) (fun _ _ => rfl) (fun j hj => by omega)
  have hcl : f_X9_award u M = zBd (f_X1_memberAt_L27 u zFu (nI 0) M1) (fun r1 M2 => some (r1, M2)) := by
    rw [f_X9_award, f_X1_memberAt]
    show zBd (f_X1_memberAt_L2 u zFu (nI 0) M) _ = _
    rw [e1]
    rfl
  have hmem := c_memL (M := M1) (g := zMn M) (u := u) a2 24 0 zFu (by omega) (by unfold zFu; omega)
  obtain ⟨M2, e2, b1, b2⟩ := g_aw0 (u := u) (x2 := -1) 24 0 zFu M1 (by omega) (by unfold zFu; omega)
  have hmo : f_X10_award u M1 = f_X10_award_L25 u zFu (-1) 0 M2 := by
    rw [f_X10_award]
    exact e2
  have f2 : ∀ c, c ≠ 73 → c ≠ 139 → M2 c = M c := fun c x y => by rw [b1 c y, a1 c x]
  have hInv : ∀ M3 : zMem, (∀ c, c ≠ 139 → M3 c = M2 c) → zInv M3 := fun M3 h3 => by
    refine zInv_c hL hE hS hJ (fun c i hc => ?_) (t := t) ⟨by rw [h3 1 (by omega), f2 1 (by omega) (by omega)]; exact hT.1, by rw [h3 74 (by omega), f2 74 (by omega) (by omega)]; exact hT.2.1, hT.2.2.1, fun i hi => ?_⟩
    · unfold zKp at hc
      rw [h3 c (by omega), f2 c (by omega) (by omega)]
    · rw [h3 75 (by omega), f2 75 (by omega) (by omega), h3 2 (by omega), f2 2 (by omega) (by omega)]
      exact hT.2.2.2 i hi
  by_cases q : u < 0
  · refine ⟨-1, M1, M2, ?_, ?_, hInv M2 (fun _ _ => rfl)⟩
    · rw [hcl, hmem.1 (fun m _ hm hx => by
        have hr := yN_le (fun x => zAh (zMn M) x m) 24
        have h2 := hx.2
        rw [← h2] at q
        exact nI_pos (show zRk (zMn M) m < 2 ^ 31 by unfold zRk; omega) q), zBd_some]
    · rw [hmo]
      show f_X10_award_L25 u (1999 + 1) (-1) 0 M2 = _
      rw [f_X10_award_L25, if_pos q]
  · obtain ⟨K, hK, eK⟩ := nI_of q
    subst eK
    have hJ2 : zJp M2 := by
      refine ⟨⟨fun j hj => ?_, fun j m hj hm => ?_⟩, fun m hm => ?_⟩
      · rw [f2 124 (by omega) (by omega), f2 65 (by omega) (by omega)]; exact hJ.1 j hj
      · rw [f2 (133 + j) (by omega) (by omega), f2 (126 + j) (by omega) (by omega), f2 (67 + j) (by omega) (by omega)]; exact hJ.2 j m hj hm
      · rw [f2 93 (by omega) (by omega), f2 14 (by omega) (by omega)]; exact hE.2.1.2.2.2.2.2 m hm
    have h0 : ∀ m, m < 24 → M2 139 m = 0 := fun m hm => by rw [b2 m hm, if_pos (by omega)]
    obtain ⟨x, M3, x1, x2, x3⟩ := g_awT (g := zMn M) (K := K) hK (fun m hm => (zMn_n hJ hm).elim Or.inl (fun ⟨s, hs, es⟩ => Or.inr (by rw [es]; exact nI_pos' (by omega)))) 25 0 zFu (-1) M2 (by omega) (by unfold zFu; omega) (by omega) hJ2 (fun m hm => zMn_c ⟨f2 14 (by omega) (by omega), f2 65 (by omega) (by omega), fun j hj => f2 _ (by omega) (by omega)⟩ m) (fun m hm => Or.inl (h0 m hm)) (yN_0 24 (fun i hi y => by rw [h0 i hi] at y; exact absurd y (by decide))) (fun a b ha _ y => by rw [h0 a ha] at y; exact absurd y (by decide)) (fun a ha y => by rw [h0 a ha] at y; exact absurd y (by decide)) (fun y => by omega)
    have hrk : ∀ m, zRk (zMn M) m < 2 ^ 31 := fun m => by
      have hr := yN_le (fun x => zAh (zMn M) x m) 24
      unfold zRk
      omega
    refine ⟨x, M1, M3, ?_, by rw [hmo]; exact x1, hInv M3 x3⟩
    rw [hcl]
    rcases x2 with ⟨b, y1, y2, y3, y4⟩ | ⟨y1, y2⟩
    · rw [hmem.2 b (by omega) y1 ⟨y2, by rw [y3]⟩ (fun z _ hz hx => by
        have h2 := (nI_eq (hrk z) hK).mp hx.2
        have := zRk_one (g := zMn M) (a := z) (b := b) (by omega) y1 (by omega)
        omega), zBd_some, y4]
    · rw [hmem.1 (fun m _ hm hx => y2 m hm hx.1 ((nI_eq (hrk m) hK).mp hx.2)), zBd_some, y1]
