theorem yIf_c {M : zMem} {x y : Int32} : (if x = y then some ((1 : Int32), M) else some (0, M)) = some (zT (x = y), M) := by
  by_cases c : x = y
  · rw [if_pos c, zT_t c]
  · rw [if_neg c, zT_f c]
theorem g_ord {E S M : zMem} {sd k e nq nm : Nat} {w m d a b : Int32} (hsd : sd < 2) (hk : k < 300) (hWE : zWE E) (hE : zMv E M) (hw : zWA E S k nq nm e) (h : zMS S M sd k e) (hl : zLm M k w m d a b) (hlog : ∀ i, i < k → M 94 i = E 16 i) (hw2 : w = 2 ∨ w = 3 ∨ w = 4 ∨ w = 5 ∨ w = 6 ∨ w = 7 ∨ w = 8 ∨ w = 9) (h6 : w = 6 → zIn a 1000 ∧ zIn d 8) : f_X10_isInOrder (nI k) w m M = some (zT (s_ord E S w m d a), M) := by
  have hmv : w = 6 → f_X10_mayMove (nI k) m M = some (zT (s_mv E S m d a), M) := by
    intro q6
    obtain ⟨A, hA, eA⟩ := zIn_of (h6 q6).1
    exact g_mv hsd hk hWE hE hw h hl hlog hA eA (h6 q6).2
  obtain ⟨⟨hF, ⟨hm, hm8, hmo⟩, _, h9⟩, _, hrf, _⟩ := hw
  obtain ⟨m25, ⟨m31, m32, _, m37, _, _, _, _, m39⟩, hQ, _, hM4, hM5, _⟩ := h
  have hx : zIx (S 4 8) = nm := by rw [hm, zIx_n (by omega)]
  have h24 := hF.2.1
  have hq : zIx (S 1 4) = nq := by rw [hF.1, zIx_n (by omega)]
  rw [f_X10_isInOrder, m31, m32, m37, m39, hE.2.2.2.2.1]
  unfold s_ord s_dec
  rw [hx, hq]
  by_cases q2 : w = 2
  · rw [if_pos q2, if_pos q2, g_waitsFor hF.1 h24 (m31.trans hF.1) (fun i hi => hQ.1 i (by omega)), zBd_some, m32]
    by_cases c1 : zFi (S 2) m nq 0 < nq
    · rw [yB_t c1, if_neg (by decide), zT_f (fun x => x.1 c1)]
    · rw [yB_f c1, if_pos rfl]
      by_cases c2 : S 1 5 = m
      · rw [if_pos c2, zT_f (fun x => x.2 c2)]
      · rw [if_neg c2, zT_t ⟨c1, c2⟩]
  rw [if_neg q2, if_neg q2]
  by_cases q3 : w = 3
  · rw [if_pos q3, if_pos q3, hF.1]
    by_cases c1 : nq = 0
    · rw [c1, zT_f (fun x => by have := x.1; omega)]
      rfl
    · rw [if_neg (nI_nle (by omega) (by omega))]
      by_cases c2 : S 1 5 = -1
      · rw [if_pos c2, zT_t ⟨by omega, c2⟩]
      · rw [if_neg c2, zT_f (fun x => c2 x.2)]
  rw [if_neg q3, if_neg q3]
  by_cases q4 : w = 4
  · rw [if_pos q4, if_pos q4, zT_t trivial]
  rw [if_neg q4, if_neg q4]
  by_cases q5 : w = 5
  · rw [if_pos q5, if_pos q5]
    by_cases c1 : S 1 5 = -1
    · rw [if_pos c1, zT_f (fun x => x.2.1 c1)]
    rw [if_neg c1]
    by_cases c2 : S 1 5 = m
    · rw [if_pos c2, zT_f (fun x => x.2.2.1 c2)]
    rw [if_neg c2]
    by_cases c3 : S 1 7 = 0
    · rw [if_pos c3]
      by_cases c4 : E 3 7 = 0
      · rw [if_pos c4, zT_f (fun x => x.1 c4)]
      · rw [if_neg c4, zT_t ⟨c4, c1, c2, c3⟩]
    · rw [if_neg c3, zT_f (fun x => c3 x.2.2.2)]
  rw [if_neg q5, if_neg q5]
  by_cases q6 : w = 6
  · rw [if_pos q6, if_pos q6, hmv q6, zBd_some]
  rw [if_neg q6, if_neg q6]
  by_cases q7 : w = 7
  · rw [if_pos q7, if_pos q7, hm]
    by_cases c1 : nm = 0
    · rw [c1, zT_f (fun x => by have := x.1; omega)]
      rfl
    · rw [if_neg (nI_nle (by omega) (by omega)), zd_sub (by omega), zCk_t (zIn_n (by omega) (by omega)), zCk_t (zIn_n (by omega) (by omega)), zIx_n (by omega), (hM4 (nm - 1) (by omega)).2.2.2.2.1, (hM4 (nm - 1) (by omega)).2.1]
      by_cases c2 : S 10 (nm - 1) = 0
      · rw [if_pos c2]
        by_cases c3 : S 6 (nm - 1) = m
        · rw [if_pos c3, zT_f (fun x => x.2.2 c3)]
        · rw [if_neg c3, zT_t ⟨by omega, c2, c3⟩]
      · rw [if_neg c2, zT_f (fun x => c2 x.2.1)]
  rw [if_neg q7, if_neg q7, hm]
  have hfin : ∀ t : Int32, (t = 0 ∨ t = 1) → (w = 9 ↔ t = 1) → (if nI nm = 0 then some ((0 : Int32), M) else zCk (zIn (nI nm - 1) 12) (if M 116 (zIx (nI nm - 1)) = 0 then some (0, M) else zCk (zIn (nI nm - 1) 12) (if M 117 (zIx (nI nm - 1)) = 0 then some (0, M) else zCk (zIn (nI nm - 1) 12) (zCk (zIn (M 111 (zIx (nI nm - 1))) 8) (if M 81 (zIx (M 111 (zIx (nI nm - 1)))) = 3 then f_X10_isInOrder_B224 (nI k) w m 1 M else f_X10_isInOrder_B224 (nI k) w m 0 M))))) = some (zT (0 < nm ∧ S 10 (nm - 1) ≠ 0 ∧ S 11 (nm - 1) ≠ 0 ∧ yB (E 5 (zIx (S 5 (nm - 1))) = 3) = t), M) := by
    intro t ht hwt
    by_cases c1 : nm = 0
    · rw [c1, zT_f (fun x => by have := x.1; omega)]
      rfl
    · have hmo1 := hmo (nm - 1) (by omega)
      obtain ⟨T, hT, eT⟩ := zIn_of hmo1.1
      have hTE : E 4 T ≠ 0 := by
        have := hmo1.2.1
        rw [eT, zIx_n (by omega)] at this
        intro y
        rw [y] at this
        exact absurd this (by decide)
      rw [if_neg (nI_ne0 (by omega) (by omega)), zd_sub (by omega), zCk_t (zIn_n (by omega) (by omega)), zCk_t (zIn_n (by omega) (by omega)), zCk_t (zIn_n (by omega) (by omega)), zIx_n (by omega), (hM4 (nm - 1) (by omega)).2.2.2.2.1, (hM4 (nm - 1) (by omega)).2.2.2.2.2.1, (hM4 (nm - 1) (by omega)).1, eT, zCk_t (zIn_n hT (by omega)), zIx_n (by omega), (hE.1 T hT).2.2.2 hTE]
      by_cases c2 : S 10 (nm - 1) = 0
      · rw [if_pos c2, zT_f (fun x => x.2.1 c2)]
      rw [if_neg c2]
      by_cases c3 : S 11 (nm - 1) = 0
      · rw [if_pos c3, zT_f (fun x => x.2.2.1 c3)]
      rw [if_neg c3]
      have hB : ∀ y : Int32, (y = 0 ∨ y = 1) → f_X10_isInOrder_B224 (nI k) w m y M = some (zT (y = t), M) := by
        intro y hy
        unfold f_X10_isInOrder_B224 f_X10_isInOrder_B235
        by_cases c4 : w = 9
        · rw [if_pos c4, hwt.mp c4, yIf_c]
        · rw [if_neg c4]
          have : t = 0 := ht.elim id (fun z => absurd (hwt.mpr z) c4)
          rw [this, yIf_c]
      by_cases c5 : E 5 T = 3
      · rw [if_pos c5, hB 1 (Or.inr rfl), yB_t c5]
        congr 2
        exact zT_congr ⟨fun x => ⟨by omega, c2, c3, x⟩, fun x => x.2.2.2⟩
      · rw [if_neg c5, hB 0 (Or.inl rfl), yB_f c5]
        congr 2
        exact zT_congr ⟨fun x => ⟨by omega, c2, c3, x⟩, fun x => x.2.2.2⟩
  by_cases q8 : w = 8
  · rw [if_pos q8]
    exact hfin 0 (Or.inl rfl) ⟨fun y => by rw [q8] at y; exact absurd y (by decide), fun y => absurd y (by decide)⟩
  rw [if_neg q8]
  have q9 : w = 9 := by
    rcases hw2 with x | x | x | x | x | x | x | x
    · exact absurd x q2
    · exact absurd x q3
    · exact absurd x q4
    · exact absurd x q5
    · exact absurd x q6
    · exact absurd x q7
    · exact absurd x q8
    · exact x
  rw [if_pos q9]
  exact hfin 1 (Or.inr rfl) ⟨fun _ => rfl, fun _ => q9⟩
theorem s_in_bt {S : zMem} {m : Nat} (hm : m < 24) : s_in S (nI m) ↔ bt (S 0 11) m = true := by
  unfold s_in
  rw [b_bitu _ (by omega), yB_1]
  exact ⟨fun x => x.2, fun x => ⟨zIn_n hm (by omega), x⟩⟩
theorem s_told_m {S : zMem} {w m d a b : Int32} (hw : w = 0 ∨ w = 1 ∨ w = 2 ∨ w = 5 ∨ w = 7) : s_told S w m d a b = zIn m 24 := by
  unfold s_told
  rcases hw with h | h | h | h | h <;> (subst h; rw [if_neg (by decide), if_neg (by decide), if_neg (by decide), if_neg (by decide), if_neg (by decide)])
theorem g_rule {E S M : zMem} {sd k e nq nm : Nat} {w m d a b : Int32} (hsd : sd < 2) (hk : k < 300) (hWE : zWE E) (hE : zMv E M) (hw : zWA E S k nq nm e) (h : zMS S M sd k e) (hl : zLm M k w m d a b) (hlog : ∀ i, i < k → M 94 i = E 16 i) (hw10 : zIn w 10) : f_X10_rule (nI k) M = some (s_rule E S w m d a b, M) := by
  have hw0 := hw
  have h0 := h
  have hl0 := hl
  obtain ⟨l1, l2, l3, l4, l5⟩ := hl
  obtain ⟨_, _, _, ht24, _, _, _, _, _⟩ := hw
  obtain ⟨m25, ⟨_, _, _, _, _, _, m36, m38, _⟩, _, hM3, _, _, _⟩ := h
  have hi : zIn (nI k) 300 := zIn_n hk (by omega)
  have e0 : (0 : Int32).toInt = 0 := by decide +kernel
  have e23 : (23 : Int32).toInt = 23 := by decide +kernel
  have hmm : ((0 : Int32).toInt ≤ m.toInt ∧ m.toInt ≤ (23 : Int32).toInt) ↔ zIn m 24 := by
    rw [e0, e23]
    exact ⟨fun x => ⟨x.1, by omega⟩, fun x => ⟨x.1, by have := x.2; omega⟩⟩
  have h87 : s_told S w m d a b → f_X10_rule_B87 (nI k) w m M = some (zIf (w = 0 ∨ w = 1) 0 (zIf (S 0 15 ≠ 0) 3 (zIf (zBc (S 0 11) < E 3 5) 4 (zIf (0 < S 0 13 ∧ w ≠ 4) 5 (zIf (s_ord E S w m d a) 0 6)))), M) := by
    intro htold
    obtain ⟨W, hW, eW⟩ := zIn_of hw10
    rw [f_X10_rule_B87, m38, g_there ht24 hM3, zBd_some, hE.2.2.1, m36]
    by_cases c01 : w = 0 ∨ w = 1
    · rw [zIf_t c01, if_neg]
      rcases c01 with c | c <;> (rw [c]; decide)
    · rw [zIf_f c01, if_pos (by
        rw [eW] at c01 ⊢
        have : 2 ≤ W := by
          rcases (by omega : W = 0 ∨ W = 1 ∨ 2 ≤ W) with x | x | x
          · exact absurd (Or.inl (by rw [x]; rfl)) c01
          · exact absurd (Or.inr (by rw [x]; rfl)) c01
          · exact x
        exact nI_le (a := 2) this (by omega))]
      have hw2 : w = 2 ∨ w = 3 ∨ w = 4 ∨ w = 5 ∨ w = 6 ∨ w = 7 ∨ w = 8 ∨ w = 9 := by
        rcases (by omega : W = 0 ∨ W = 1 ∨ W = 2 ∨ W = 3 ∨ W = 4 ∨ W = 5 ∨ W = 6 ∨ W = 7 ∨ W = 8 ∨ W = 9) with x | x | x | x | x | x | x | x | x | x <;> (subst x; rw [eW])
        · exact absurd (Or.inl (by rw [eW]; rfl)) c01
        · exact absurd (Or.inr (by rw [eW]; rfl)) c01
        all_goals decide
      have hord := g_ord hsd hk hWE hE hw0 h0 hl0 hlog hw2 (fun e6 => by
        subst e6
        exact ⟨(s_told6 htold).2.2.1, (s_told6 htold).2.1⟩)
      by_cases c2 : S 0 15 = 0
      · rw [if_pos c2, zIf_f (fun x => x c2)]
        by_cases c3 : E 3 5 ≤ zBc (S 0 11)
        · rw [if_pos c3, zIf_f (fun x => Int32.not_lt.mpr c3 x)]
          have hgo : f_X10_rule_B132 (nI k) w m M = some (zIf (s_ord E S w m d a) 0 6, M) := by
            rw [f_X10_rule_B132, hord, zBd_some]
            by_cases c6 : s_ord E S w m d a
            · rw [zT_t c6, zIf_t c6, if_neg (by decide)]
            · rw [zT_f c6, zIf_f c6, if_pos rfl]
          rw [hgo]
          by_cases c4 : S 0 13 ≤ 0
          · rw [if_pos c4, zIf_f (show ¬ (0 < S 0 13 ∧ w ≠ 4) from fun x => Int32.not_lt.mpr c4 x.1)]
          rw [if_neg c4]
          by_cases c5 : w = 4
          · rw [if_pos c5, zIf_f (show ¬ (0 < S 0 13 ∧ w ≠ 4) from fun x => x.2 c5)]
          · rw [if_neg c5, zIf_t ⟨Int32.not_le.mp c4, c5⟩]
        · rw [if_neg c3, zIf_t (Int32.not_le.mp c3)]
      · rw [if_neg c2, zIf_t c2]
  have h51 : ∀ x4 : Int32, (x4 = 0 ∨ x4 = 1) → (x4 = 1 ↔ s_ofm w) → (x4 = 1 → zIn m 24) → (w = 6 → zIn m 24) → (s_ofm w ∨ w = 3 ∨ w = 4 ∨ w = 8 ∨ w = 9) → f_X10_rule_B51 (nI k) w m x4 M = some (s_rule E S w m d a b, M) := by
    intro x4 hx4 hof hmr hm6 hcl
    rw [f_X10_rule_B51, g_wrong hk hl0 ht24 hM3 hm6, zBd_some]
    unfold s_rule
    by_cases ht : s_told S w m d a b
    · rw [zT_f (fun x => x.1 ht), if_pos rfl, zIf_f (fun x => x ht)]
      by_cases c : x4 = 0
      · have hno : ¬ s_ofm w := fun x => by
          have := hof.mpr x
          rw [c] at this
          exact absurd this (by decide)
        rw [if_pos c, zIf_f (fun x => hno x.1)]
        exact h87 ht
      · have c1 : x4 = 1 := hx4.elim (fun z => absurd z c) id
        have hofw := hof.mp c1
        obtain ⟨j, hj, ej⟩ := zIn_of (hmr c1)
        rw [if_neg c, zCk_t (hmr c1)]
        have hin : M 108 (zIx m) = zT (s_in S m) := by
          rw [ej, zIx_n (by omega), hM3 j hj, yB_T]
          exact zT_congr (s_in_bt hj).symm
        rw [hin]
        unfold f_X10_rule_B82
        by_cases q0 : w = 0
        · rw [if_pos q0]
          by_cases q1 : zT (s_in S m) = 1
          · rw [if_pos q1, zIf_t ⟨hofw, by rw [q1, zT_t q0]⟩]
          · rw [if_neg q1, zIf_f (fun x => q1 (by rw [x.2, zT_t q0]))]
            exact h87 ht
        · rw [if_neg q0]
          by_cases q1 : zT (s_in S m) = 0
          · rw [if_pos q1, zIf_t ⟨hofw, by rw [q1, zT_f q0]⟩]
          · rw [if_neg q1, zIf_f (fun x => q1 (by rw [x.2, zT_f q0]))]
            exact h87 ht
    · rw [zIf_t ht]
      have hc : w = 4 ∨ w = 6 ∨ w = 8 ∨ w = 9 := by
        obtain ⟨W, hW, eW⟩ := zIn_of hw10
        have hcase : w = 0 ∨ w = 1 ∨ w = 2 ∨ w = 3 ∨ w = 4 ∨ w = 5 ∨ w = 6 ∨ w = 7 ∨ w = 8 ∨ w = 9 := by
          rcases (by omega : W = 0 ∨ W = 1 ∨ W = 2 ∨ W = 3 ∨ W = 4 ∨ W = 5 ∨ W = 6 ∨ W = 7 ∨ W = 8 ∨ W = 9) with x | x | x | x | x | x | x | x | x | x <;> (subst x; rw [eW]; decide)
        have hbad : (w = 0 ∨ w = 1 ∨ w = 2 ∨ w = 5 ∨ w = 7) → False := fun y => by
          have hof2 : s_ofm w := by
            unfold s_ofm
            rcases y with y | y | y | y | y <;> (rw [y]; decide)
          exact ht (by rw [s_told_m y]; exact hmr (hof.mpr hof2))
        rcases hcase with y | y | y | y | y | y | y | y | y | y
        · exact absurd (Or.inl y) hbad
        · exact absurd (Or.inr (Or.inl y)) hbad
        · exact absurd (Or.inr (Or.inr (Or.inl y))) hbad
        · exfalso
          refine ht ?_
          unfold s_told
          rw [if_pos y]
          trivial
        · exact Or.inl y
        · exact absurd (Or.inr (Or.inr (Or.inr (Or.inl y)))) hbad
        · exact Or.inr (Or.inl y)
        · exact absurd (Or.inr (Or.inr (Or.inr (Or.inr y)))) hbad
        · exact Or.inr (Or.inr (Or.inl y))
        · exact Or.inr (Or.inr (Or.inr y))
      rw [zT_t ⟨ht, hc⟩, if_neg (by decide)]
  have h29 : s_ofm w → f_X10_rule_B29 (nI k) w m M = some (s_rule E S w m d a b, M) := by
    intro hof
    rw [f_X10_rule_B29, f_X10_rule_B34, if_neg (by decide), k_in, zBd_some, yB_T, zT_congr hmm]
    by_cases c : zIn m 24
    · rw [zT_t c, if_neg (by decide)]
      exact h51 1 (Or.inr rfl) ⟨fun _ => hof, fun _ => rfl⟩ (fun _ => c) (fun _ => c) (Or.inl hof)
    · rw [zT_f c, if_pos rfl]
      unfold s_rule
      rw [zIf_t]
      intro ht
      obtain ⟨W, hW, eW⟩ := zIn_of hw10
      obtain ⟨o3, o4, o8, o9⟩ := hof
      have hcase : (w = 0 ∨ w = 1 ∨ w = 2 ∨ w = 5 ∨ w = 7) ∨ w = 6 := by
        rcases (by omega : W = 0 ∨ W = 1 ∨ W = 2 ∨ W = 3 ∨ W = 4 ∨ W = 5 ∨ W = 6 ∨ W = 7 ∨ W = 8 ∨ W = 9) with x | x | x | x | x | x | x | x | x | x
        · subst x; rw [eW]; decide
        · subst x; rw [eW]; decide
        · subst x; rw [eW]; decide
        · subst x; exact absurd eW o3
        · subst x; exact absurd eW o4
        · subst x; rw [eW]; decide
        · subst x; rw [eW]; decide
        · subst x; rw [eW]; decide
        · subst x; exact absurd eW o8
        · subst x; exact absurd eW o9
      rcases hcase with y | y
      · rw [s_told_m y] at ht
        exact c ht
      · subst y
        exact c (s_told6 ht).1
  rw [f_X10_rule, zCk_t hi, zCk_t hi, zIx_n (by omega), l1, l2, k_in, zBd_some]
  obtain ⟨W, hW, eW⟩ := zIn_of hw10
  rcases (by omega : W = 0 ∨ W = 1 ∨ W = 2 ∨ W = 3 ∨ W = 4 ∨ W = 5 ∨ W = 6 ∨ W = 7 ∨ W = 8 ∨ W = 9) with x | x | x | x | x | x | x | x | x | x
  · rw [if_pos (by rw [eW, x]; decide)]
    exact h29 (by unfold s_ofm; rw [eW, x]; decide)
  · rw [if_pos (by rw [eW, x]; decide)]
    exact h29 (by unfold s_ofm; rw [eW, x]; decide)
  · rw [if_pos (by rw [eW, x]; decide)]
    exact h29 (by unfold s_ofm; rw [eW, x]; decide)
  · rw [if_neg (by rw [eW, x]; decide), yB_f (by rw [eW, x]; decide +kernel), if_pos rfl, f_X10_rule_B34, if_pos rfl]
    exact h51 0 (Or.inl rfl) (by unfold s_ofm; rw [eW, x]; decide) (fun y => absurd y (by decide)) (by rw [eW, x]; exact fun y => absurd y (by decide)) (Or.inr (Or.inl (by rw [eW, x]; rfl)))
  · rw [if_neg (by rw [eW, x]; decide), yB_f (by rw [eW, x]; decide +kernel), if_pos rfl, f_X10_rule_B34, if_pos rfl]
    exact h51 0 (Or.inl rfl) (by unfold s_ofm; rw [eW, x]; decide) (fun y => absurd y (by decide)) (by rw [eW, x]; exact fun y => absurd y (by decide)) (Or.inr (Or.inr (Or.inl (by rw [eW, x]; rfl))))
  · rw [if_neg (by rw [eW, x]; decide), yB_t (by rw [eW, x]; decide +kernel), if_neg (by decide)]
    exact h29 (by unfold s_ofm; rw [eW, x]; decide)
  · rw [if_neg (by rw [eW, x]; decide), yB_t (by rw [eW, x]; decide +kernel), if_neg (by decide)]
    exact h29 (by unfold s_ofm; rw [eW, x]; decide)
  · rw [if_neg (by rw [eW, x]; decide), yB_t (by rw [eW, x]; decide +kernel), if_neg (by decide)]
    exact h29 (by unfold s_ofm; rw [eW, x]; decide)
  · rw [if_neg (by rw [eW, x]; decide), yB_f (by rw [eW, x]; decide +kernel), if_pos rfl, f_X10_rule_B34, if_pos rfl]
    exact h51 0 (Or.inl rfl) (by unfold s_ofm; rw [eW, x]; decide) (fun y => absurd y (by decide)) (by rw [eW, x]; exact fun y => absurd y (by decide)) (Or.inr (Or.inr (Or.inr (Or.inl (by rw [eW, x]; rfl)))))
  · rw [if_neg (by rw [eW, x]; decide), yB_f (by rw [eW, x]; decide +kernel), if_pos rfl, f_X10_rule_B34, if_pos rfl]
    exact h51 0 (Or.inl rfl) (by unfold s_ofm; rw [eW, x]; decide) (fun y => absurd y (by decide)) (by rw [eW, x]; exact fun y => absurd y (by decide)) (Or.inr (Or.inr (Or.inr (Or.inr (by rw [eW, x]; rfl)))))
