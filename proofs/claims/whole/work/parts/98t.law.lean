/-! ===== the law's loop ===== -/
theorem law_1 {f g K : zMem → zTr} {M : zMem} (hq : zCall f g) (hI : zInv M) (hK : ∀ M2, zInv M2 → ∃ M', K M2 = some (1, M')) : ∃ M', zBd (f M) (fun r M9 => zBd (g M9) (fun r2 M16 => if r = r2 then K M16 else some (0, M16))) = some (1, M') := by
  obtain ⟨r, M1, M2, e1, e2, h2⟩ := hq M hI
  obtain ⟨M', e3⟩ := hK M2 h2
  refine ⟨M', ?_⟩
  rw [e1, zBd_some, e2, zBd_some, if_pos rfl, e3]
theorem law_st {L i : Nat} (hL : L ≤ 3072) (hi : i ≤ 3078) : (Int32.ofNat L - 6 < nI i) ↔ L < i + 6 := by
  by_cases q : 6 ≤ L
  · have e : Int32.ofNat L - 6 = nI (L - 6) := by
      have := nI_sb 6 (L - 6)
      rw [show 6 + (L - 6) = L by omega] at this
      exact this
    rw [e, nI_ltI (by omega) (by omega)]
    omega
  · have h : (Int32.ofNat L - 6).toInt < 0 := by
      rcases (by omega : L = 0 ∨ L = 1 ∨ L = 2 ∨ L = 3 ∨ L = 4 ∨ L = 5) with e | e | e | e | e | e <;> (subst e; decide +kernel)
    constructor
    · intro _; omega
    · intro _
      rw [Int32.lt_iff_toInt_lt, nI_toInt (by omega)]
      omega
set_option maxHeartbeats 4000000 in
theorem law_ok {xs : Nat → Int32} {L : Nat} (hL : L ≤ 3072) : ∀ N i M, L ≤ i + 6 * N → i ≤ 3078 → zInv M → ∃ M', f_L_law_L18 xs L (N + 1) (nI i) M = some (1, M') := by
  intro N
  induction N with
  | zero =>
    intro i M h1 h2 hI
    exact ⟨M, by rw [f_L_law_L18, if_pos ((law_st hL h2).mpr (by omega))]⟩
  | succ N ih =>
    intro i M h1 h2 hI
    by_cases q : L < i + 6
    · exact ⟨M, by rw [f_L_law_L18, if_pos ((law_st hL h2).mpr q)]⟩
    have hK : ∀ M2, zInv M2 → ∃ M', f_L_law_L18 xs L (N + 1) (nI i + 6) M2 = some (1, M') := fun M2 h => by
      have := ih (i + 6) M2 (by omega) (by omega) h
      rwa [← nI_add i 6] at this
    have k1 : ∀ t, zCk (zIn (nI i + 1) L) t = t := fun t => zCk_t (by rw [nI_1]; exact zIn_n (by omega) (by omega))
    have k2 : ∀ t, zCk (zIn (nI i + 2) L) t = t := fun t => zCk_t (by rw [zl_2, nI_add]; exact zIn_n (by omega) (by omega))
    have k3 : ∀ t, zCk (zIn (nI i + 3) L) t = t := fun t => zCk_t (by rw [zl_3, nI_add]; exact zIn_n (by omega) (by omega))
    have k4 : ∀ t, zCk (zIn (nI i + 4) L) t = t := fun t => zCk_t (by rw [zl_4, nI_add]; exact zIn_n (by omega) (by omega))
    have k5 : ∀ t, zCk (zIn (nI i + 5) L) t = t := fun t => zCk_t (by rw [zl_5, nI_add]; exact zIn_n (by omega) (by omega))
    rw [f_L_law_L18, if_neg (fun x => q ((law_st hL h2).mp x)), zCk_t (zIn_n (by omega) (by omega))]
    generalize (xs (zIx (nI i)) &&& 31) = v
    by_cases c0 : v = 0
    · rw [if_pos c0]
      simp only [k1, k2, k3, k4, k5]
      exact law_1 (q_feed _ _ _ _ _) hI hK
    rw [if_neg c0]
    by_cases c1 : v = 1
    · rw [if_pos c1]
      simp only [k1, k2, k3, k4, k5]
      exact law_1 (q_end _) hI hK
    rw [if_neg c1]
    by_cases c2 : v = 2
    · rw [if_pos c2]
      exact law_1 (q_rules) hI hK
    rw [if_neg c2]
    by_cases c3 : v = 3
    · rw [if_pos c3]
      simp only [k1, k2, k3, k4, k5]
      exact law_1 (q_school _ _) hI hK
    rw [if_neg c3]
    by_cases c4 : v = 4
    · rw [if_pos c4]
      simp only [k1, k2, k3, k4, k5]
      exact law_1 (q_act _ _ _ _ _) hI hK
    rw [if_neg c4]
    by_cases c5 : v = 5
    · rw [if_pos c5]
      simp only [k1, k2, k3, k4, k5]
      exact law_1 (q_ruling _) hI hK
    rw [if_neg c5]
    by_cases c6 : v = 6
    · rw [if_pos c6]
      simp only [k1, k2, k3, k4, k5]
      exact law_1 (q_passed _) hI hK
    rw [if_neg c6]
    by_cases c7 : v = 7
    · rw [if_pos c7]
      simp only [k1, k2, k3, k4, k5]
      exact law_1 (q_state _) hI hK
    rw [if_neg c7]
    by_cases c8 : v = 8
    · rw [if_pos c8]
      simp only [k1, k2, k3, k4, k5]
      exact law_1 (q_pending _ _) hI hK
    rw [if_neg c8]
    by_cases c9 : v = 9
    · rw [if_pos c9]
      simp only [k1, k2, k3, k4, k5]
      exact law_1 (q_clause _ _) hI hK
    rw [if_neg c9]
    by_cases c10 : v = 10
    · rw [if_pos c10]
      simp only [k1, k2, k3, k4, k5]
      exact law_1 (q_place _) hI hK
    rw [if_neg c10]
    by_cases c11 : v = 11
    · rw [if_pos c11]
      simp only [k1, k2, k3, k4, k5]
      exact law_1 (q_speeches _) hI hK
    rw [if_neg c11]
    by_cases c12 : v = 12
    · rw [if_pos c12]
      simp only [k1, k2, k3, k4, k5]
      exact law_1 (q_waits _) hI hK
    rw [if_neg c12]
    by_cases c13 : v = 13
    · rw [if_pos c13]
      simp only [k1, k2, k3, k4, k5]
      exact law_1 (q_overturned _) hI hK
    rw [if_neg c13]
    by_cases c14 : v = 14
    · rw [if_pos c14]
      simp only [k1, k2, k3, k4, k5]
      exact law_1 (q_beside _ _) hI hK
    rw [if_neg c14]
    by_cases c15 : v = 15
    · rw [if_pos c15]
      simp only [k1, k2, k3, k4, k5]
      exact law_1 (q_score _ _ _ _) hI hK
    rw [if_neg c15]
    by_cases c16 : v = 16
    · rw [if_pos c16]
      simp only [k1, k2, k3, k4, k5]
      exact law_1 (q_mean _) hI hK
    rw [if_neg c16]
    by_cases c17 : v = 17
    · rw [if_pos c17]
      simp only [k1, k2, k3, k4, k5]
      exact law_1 (q_award _) hI hK
    rw [if_neg c17]
    by_cases c18 : v = 18
    · rw [if_pos c18]
      simp only [k1, k2, k3, k4, k5]
      exact law_1 (q_told _) hI hK
    rw [if_neg c18]
    exact hK M hI
