/-! a paper laid, by both -/
def zLy (S : zMem) (b : Int32) (i : Nat) : Prop := S 12 4 = nI i ∧ S 12 5 = nI i ∧ S 12 3 = 1 ∧ (∀ j, j < i → S 13 j = nI j ∧ S 15 j = 0 ∧ S 14 j = b + nI j)
theorem zLy_ins {S : zMem} {b : Int32} {i : Nat} (h : zLy S b i) (hi : i < 300) : zLy (s_ins S i (b + nI i)) b (i + 1) := by
  obtain ⟨h4, h5, h3, hj⟩ := h
  have hx : zIx (S 12 4) = i := by rw [h4, zIx_n (by omega)]
  refine ⟨by rw [s_ins_4, hx], by rw [s_ins_5, h5, nI_1], by rw [s_ins_3, h3], fun j hj2 => ?_⟩
  rw [s_ins_13 h4, s_ins_15 hx, s_ins_14 hx]
  by_cases q : j = i
  · subst q
    rw [if_neg (by omega), if_pos rfl, if_pos rfl, if_pos rfl]
    exact ⟨rfl, rfl, rfl⟩
  · rw [if_pos (by omega), if_neg q, if_neg q]
    exact hj j (by omega)
theorem zLy_L {b : Int32} : ∀ k i S, zLy S b i → i + k < 300 → zLy (s_layL b k i S) b (i + k)
  | 0, i, S, h, _ => h
  | k + 1, i, S, h, hk => by
    rw [s_layL, show i + (k + 1) = i + 1 + k by omega]
    exact zLy_L k (i + 1) _ (zLy_ins h (by omega)) (by omega)
theorem zLy_lay (S : zMem) {a : Nat} (b : Int32) (h1 : 1 ≤ a) (h2 : a ≤ 20) : zLy (s_lay S a b) b a := by
  unfold s_lay
  rw [if_pos ⟨h1, h2⟩]
  have := zLy_L (b := b) a 0 (zUp (s_away S) 12 3 1) ⟨by
    rw [zUp_x (by omega)]
    unfold s_away
    rw [zUp_x (by omega), zUp_s]
    rfl, by
    rw [zUp_x (by omega)]
    unfold s_away
    rw [zUp_s]
    rfl, zUp_s, fun j hj => by omega⟩ (by omega)
  rw [Nat.zero_add] at this
  exact this
theorem s_pl_all {S : zMem} : ∀ k i, i + k < 2 ^ 31 → (∀ j, i ≤ j → j < i + k → S 13 j = nI j ∧ S 15 j = 0) → (s_pl S k i).length = k ∧ ∀ j, j < k → (s_pl S k i).getD j 0 = i + j
  | 0, i, _, _ => ⟨rfl, fun j hj => by omega⟩
  | k + 1, i, hb, h => by
    have h0 := h i (by omega) (by omega)
    have ih := s_pl_all (S := S) k (i + 1) (by omega) (fun j h1 h2 => h j (by omega) (by omega))
    rw [s_pl, h0.1, zIx_n (by omega), if_pos h0.2]
    refine ⟨by rw [List.length_cons, ih.1], fun j hj => ?_⟩
    cases j with
    | zero => rfl
    | succ j =>
      rw [zL_cons (by omega), Nat.add_sub_cancel, ih.2 j (by omega)]
      omega
theorem zWP_lay (S : zMem) {a : Nat} {b : Int32} (h1 : 1 ≤ a) (h2 : a ≤ 20) (hb : zIn b 1000) : zWP (s_lay S a b) a := by
  obtain ⟨h4, h5, h3, hj⟩ := zLy_lay S b h1 h2
  obtain ⟨B, hB, eB⟩ := zIn_of hb
  have hp := s_pl_all (S := s_lay S a b) a 0 (by omega) (fun j _ h => ⟨(hj j (by omega)).1, (hj j (by omega)).2.1⟩)
  refine ⟨⟨h4, by omega, fun i hi => ?_, fun i j hij hj2 => ?_⟩, by rw [h5, hp.1], by rw [hp.1]; omega, fun y => by rw [h3] at y; exact absurd y (by decide), Or.inr h3, fun n hn => ⟨Or.inl (hj n hn).2.1, ?_⟩⟩
  · rw [(hj i hi).1]
    exact zIn_n hi (by omega)
  · rw [(hj i (by omega)).1, (hj j hj2).1, Ne, nI_eq (by omega) (by omega)]
    omega
  · rw [(hj n hn).2.2, eB, nI_add]
    exact nI_pos' (by omega)
theorem g_papL {a : Nat} {u b : Int32} (ha : a ≤ 20) : ∀ k i N M, i + k = a → k < N → M 74 49 = nI a → ∃ M', f_X10_papers_L20 u b N (nI i) M = some (0, M') ∧ (∀ c, c ≠ 119 → c ≠ 120 → M' c = M c) ∧ (∀ j, j < a → M' 119 j = if i ≤ j then nI j else M 119 j) ∧ (∀ j, j < a → M' 120 j = if i ≤ j then b + nI j else M 120 j) := by
  intro k
  induction k with
  | zero =>
    intro i N M hi hN h4
    obtain ⟨N, rfl⟩ : ∃ N', N = N' + 1 := ⟨N - 1, by omega⟩
    refine ⟨M, ?_, fun _ _ _ => rfl, fun j hj => by rw [if_neg (by omega)], fun j hj => by rw [if_neg (by omega)]⟩
    rw [f_X10_papers_L20, h4]
    simp (disch := omega) only [zl_2, zl_3, zl_4, zl_5, zl_6, zl_7, zl_8, zl_12, zl_20, zl_24, zl_28, zl_40, zl_60, zl_300, zl_320, zl_400, zl_600, zd_lt0, zd_l0n, zd_l0y, zd_0lt, zd_1lt, zd_1lty, zd_e0n, zd_e0y, zd_e1n, zd_e1y, zd_nn, zd_ny, zd_mn, zd_my, zd_en, zd_ey, zd_e1, zd_in, zCk_T, zIx_n, nI_1, nI_add, zd_sub, zd_dec, if_true, if_false, ite_true, ite_false]
  | succ k ih =>
    intro i N M hi hN h4
    obtain ⟨N, rfl⟩ : ∃ N', N = N' + 1 := ⟨N - 1, by omega⟩
    obtain ⟨M', e, a1, a2, a3⟩ := ih (i + 1) N (zUp (zUp M 119 i (nI i)) 120 i (b + nI i)) (by omega) (by omega) (by rw [zUp_c (by omega), zUp_c (by omega), h4])
    refine ⟨M', ?_, fun c h1 h2 => (a1 c h1 h2).trans ((zUp_off h2).trans (zUp_off h1)), fun j hj => ?_, fun j hj => ?_⟩
    · rw [f_X10_papers_L20, h4]
      simp (disch := omega) only [zl_2, zl_3, zl_4, zl_5, zl_6, zl_7, zl_8, zl_12, zl_20, zl_24, zl_28, zl_40, zl_60, zl_300, zl_320, zl_400, zl_600, zd_lt0, zd_l0n, zd_l0y, zd_0lt, zd_1lt, zd_1lty, zd_e0n, zd_e0y, zd_e1n, zd_e1y, zd_nn, zd_ny, zd_mn, zd_my, zd_en, zd_ey, zd_e1, zd_in, zCk_T, zIx_n, nI_1, nI_add, zd_sub, zd_dec, if_true, if_false, ite_true, ite_false, zBd_some, zLt_eq, zUp_s, zUp_c, zUp_i, zCk_t]
      exact e
    · rw [a2 j hj, zUp_c (by omega)]
      rcases (by omega : j < i ∨ j = i ∨ i < j) with q | q | q
      · rw [if_neg (by omega), if_neg (by omega), zUp_x (by omega)]
      · subst q
        rw [if_neg (by omega), if_pos (by omega), zUp_s]
      · rw [if_pos (by omega), if_pos (by omega)]
    · rw [a3 j hj]
      rcases (by omega : j < i ∨ j = i ∨ i < j) with q | q | q
      · rw [if_neg (by omega), if_neg (by omega), zUp_x (by omega), zUp_c (by omega)]
      · subst q
        rw [if_neg (by omega), if_pos (by omega), zUp_s]
      · rw [if_pos (by omega), if_pos (by omega)]
theorem g_papers (S : zMem) {M : zMem} {a : Nat} {b : Int32} (h1 : 1 ≤ a) (h2 : a ≤ 20) : ∃ M', f_X10_papers (nI a) b M = some (0, M') ∧ zMP (s_lay S a b) M' a ∧ zFp M M' := by
  obtain ⟨h4, h5, h3, hj⟩ := zLy_lay S b h1 h2
  have hp := s_pl_all (S := s_lay S a b) a 0 (by omega) (fun j _ h => ⟨(hj j (by omega)).1, (hj j (by omega)).2.1⟩)
  obtain ⟨M', e, a1, a2, a3⟩ := g_papL (u := nI a) (b := b) h2 a 0 zFu (zUp (zUp (zUp M 74 48 1) 74 49 (nI a)) 74 50 (nI a)) (by omega) (by unfold zFu; omega) (by rw [zUp_x (by omega), zUp_s])
  refine ⟨M', ?_, ⟨⟨?_, ?_, ?_, ?_⟩, ?_⟩, ⟨fun c b1 b2 b3 _ _ => ?_, fun i b1 b2 b3 => ?_⟩⟩
  · rw [f_X10_papers, zLt_eq, zLt_eq, zLt_eq, zUp_s]
    exact e
  · rw [a1 74 (by omega) (by omega), zUp_x (by omega), zUp_x (by omega), zUp_s, h3]
  · rw [a1 74 (by omega) (by omega), zUp_x (by omega), zUp_s, hp.1]
  · rw [a1 74 (by omega) (by omega), zUp_s, h4]
  · intro i hi
    rw [hp.1] at hi
    rw [a2 i hi, a3 i hi, hp.2 i hi, if_pos (by omega), if_pos (by omega), Nat.zero_add, (hj i hi).2.2]
    exact ⟨rfl, rfl⟩
  · intro n hn hg
    exact absurd (hj n hn).2.1 hg
  · rw [a1 c b2 b3, zUp_off b1, zUp_off b1, zUp_off b1]
  · rw [a1 74 (by omega) (by omega), zUp_x b3, zUp_x b2, zUp_x b1]
/-- nothing on the table -/
theorem zWP_away {S : zMem} : zWP (s_away S) 0 := by
  have h4 : s_away S 12 4 = 0 := by unfold s_away; rw [zUp_x (by omega), zUp_s]
  have h5 : s_away S 12 5 = 0 := by unfold s_away; rw [zUp_s]
  have h3 : s_away S 12 3 = 0 := by unfold s_away; rw [zUp_x (by omega), zUp_x (by omega), zUp_s]
  exact ⟨⟨h4, by omega, fun i hi => by omega, fun i j _ hj => by omega⟩, h5, by rw [s_pl_nil]; simp, fun _ => rfl, Or.inl h3, fun n hn => by omega⟩
theorem zMP_away {S M : zMem} (h48 : M 74 48 = 0) (h49 : M 74 49 = 0) (h50 : M 74 50 = 0) : zMP (s_away S) M 0 := by
  have h4 : s_away S 12 4 = 0 := by unfold s_away; rw [zUp_x (by omega), zUp_s]
  have h3 : s_away S 12 3 = 0 := by unfold s_away; rw [zUp_x (by omega), zUp_x (by omega), zUp_s]
  refine ⟨⟨by rw [h48, h3], by rw [h49, s_pl_nil]; rfl, by rw [h50, h4], fun i hi => ?_⟩, fun n hn => by omega⟩
  rw [s_pl_nil] at hi
  exact absurd hi (Nat.not_lt_zero _)
theorem g_mayAm {S M : zMem} {e A : Nat} (hw : zWP S e) (h : zMPn S M e) (hA : A < 1000) : f_X10_mayAmend (nI A) M = some (zT (s_mayAm S A), M) := by
  have hw0 := hw
  have h0 := h
  obtain ⟨hO, h5, h40, h30, h31, hc⟩ := hw
  obtain ⟨m48, m49, m50, mA⟩ := h
  have h320 := hO.2.1
  have hx := zO_x hO.1 hO.2.1
  have hd := zd_div A hA
  rw [f_X10_mayAmend, hd.2, hd.1, g_placeOf hw0 h0, zBd_some, m49]
  unfold s_mayAm
  rw [hx, h5]
  by_cases qt : A / 4 < e ∧ S 15 (A / 4) = 0
  · obtain ⟨i0, hi0, ei⟩ := zWO_onto hO qt.1
    have hat := s_pl_at hO hi0 qt.1 ei qt.2
    have hjl := s_pl_len S i0 0
    have hcut := s_pl_cut hO hi0 ei qt.1 qt.2
    have hni := s_pl_notin hO hi0 ei qt.1
    have hlen : (s_pl S e 0).length = (s_pl S i0 0).length + 1 + (s_pl S (e - i0 - 1) (i0 + 1)).length := by
      rw [hcut, List.length_append, List.length_cons]
      omega
    have hbh : zBh (s_pl S e 0) (nI (A / 4)) = zHd (s_pl S (e - i0 - 1) (i0 + 1)) := by
      rw [hcut, zBh_app (by omega) _ _ hni.1 (fun x hx2 => by
        have := s_pl_lt hO (by omega) hx2
        omega)]
    rw [hat.1, if_neg (show ¬ nI (s_pl S i0 0).length = -1 by rw [zd_e1 (by omega)]; exact fun y => y), hbh, nI_1]
    by_cases c3 : A % 4 = 3
    · rw [if_pos (show nI (A % 4) = 3 by rw [c3]; rfl)]
      cases hL : s_pl S (e - i0 - 1) (i0 + 1) with
      | nil =>
        rw [hL, List.length_nil] at hlen
        rw [if_pos (nI_le (by omega) (by omega)), zT_f (fun y => y.2.2.2 c3 rfl)]
      | cons y L =>
        rw [hL, List.length_cons] at hlen
        have hy : y < e := s_pl_lt (k := e - i0 - 1) (i := i0 + 1) hO (by omega) (by rw [hL]; simp)
        rw [if_neg (nI_ge (by omega) (by omega)), zT_t ⟨qt.1, qt.2, fun z => by omega, fun _ => by
          show ¬ nI y = -1
          rw [zd_e1 (by omega)]
          exact fun y => y⟩]
    · rw [if_neg (show ¬ nI (A % 4) = 3 from fun y => c3 ((nI_eq (b := 3) (by omega) (by omega)).mp y))]
      by_cases c0 : A % 4 = 0
      · rw [if_pos (show nI (A % 4) = 0 by rw [c0]; rfl)]
        by_cases c1 : 40 ≤ (s_pl S e 0).length
        · rw [if_pos (show (40 : Int32) ≤ nI (s_pl S e 0).length from nI_le (a := 40) c1 (by omega)), zT_f (fun y => nI_nlt (b := 40) c1 (by omega) (y.2.2.1 c0))]
        · rw [if_neg (show ¬ (40 : Int32) ≤ nI (s_pl S e 0).length from nI_ge (b := 40) (by omega) (by omega)), zT_t ⟨qt.1, qt.2, fun _ => nI_lt (b := 40) (by omega) (by omega), fun z => by omega⟩]
      · rw [if_neg (show ¬ nI (A % 4) = 0 from nI_ne0 (by omega) (by omega)), zT_t ⟨qt.1, qt.2, fun z => absurd z c0, fun z => absurd z c3⟩]
  · have hout : zPo (s_pl S e 0) (nI (A / 4)) 0 = -1 := (zPo_1 0 (by omega)).mpr (fun x hx2 y => by
      have hx3 := (s_pl_in hO).mp hx2
      have := (nI_eq (by omega) (by omega)).mp y
      rw [this] at hx3
      exact qt hx3)
    rw [if_pos hout, zT_f (fun y => qt ⟨y.1, y.2.1⟩)]
