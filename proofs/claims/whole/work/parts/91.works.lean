theorem g_passing {E S M : zMem} {sd k e n : Nat} {a b : Int32} (hE : zMv E M) (h : zMS S M sd k e) (hm : S 4 8 = nI n) (h8 : n ≤ 8) (h0 : 0 < n) (hkd : zIn (S 5 (n - 1)) 8) (hpos : 0 < E 4 (zIx (S 5 (n - 1)))) (hway : E 5 (zIx (S 5 (n - 1))) = 0 ∨ E 5 (zIx (S 5 (n - 1))) = 1 ∨ E 5 (zIx (S 5 (n - 1))) = 2) (ha : z24 a) (hb : z24 b) : f_X10_isPassing a b M = some (zT (s_carr E (S 5 (n - 1)) a b), M) := by
  obtain ⟨T, hT, eT⟩ := zIn_of hkd
  obtain ⟨_, ⟨_, _, _, _, _, _, _, _, m39⟩, _, _, hM4, _⟩ := id h
  have hx : zIx (S 4 8) = n := by rw [hm, zIx_n (by omega)]
  have ht4 := (hM4 (n - 1) (by omega)).1
  rw [eT, zIx_n (by omega)] at hpos hway
  have hTE : E 4 T ≠ 0 := fun y => by
    rw [y] at hpos
    exact absurd hpos (by decide)
  rw [f_X10_isPassing, g_many ha, zBd_some, g_many hb, zBd_some, m39, hm, zd_sub (by omega), zCk_t (zIn_n (by omega) (by omega)), zIx_n (by omega), ht4, eT, zCk_t (zIn_n hT (by omega)), zIx_n (by omega), (hE.1 T hT).2.2.2 hTE]
  unfold s_carr
  rw [zIx_n (by omega)]
  by_cases q0 : E 5 T = 0
  · rw [if_pos q0, if_pos q0]
    by_cases c : 2 * zBc a ≤ zBc a + zBc b
    · rw [if_pos c, zT_f (fun x => x c)]
    · rw [if_neg c, zT_t c]
  rw [if_neg q0, if_neg q0]
  by_cases q1 : E 5 T = 1
  · rw [if_pos q1, if_pos q1]
    by_cases c2 : zBc a ≤ 0
    · rw [if_pos c2, zT_f (fun x => x.2 c2)]
    rw [if_neg c2]
    by_cases c : 3 * zBc a < 2 * (zBc a + zBc b)
    · rw [if_pos c, zT_f (fun x => x.1 c)]
    · rw [if_neg c, zT_t ⟨c, c2⟩]
  have q2 : E 5 T = 2 := by
    rcases hway with y | y | y
    · exact absurd y q0
    · exact absurd y q1
    · exact y
  rw [if_neg q1, if_neg q1, if_pos q2]
  by_cases c : 4 * zBc a ≤ zBc a + zBc b
  · rw [if_pos c, zT_f (fun x => x c)]
  · rw [if_neg c, zT_t c]
/-- an act done, by the reference -/
theorem g_do {E S M : zMem} {sd k e nq nm : Nat} {w m d a b : Int32} (hsd : sd < 2) (hk : k < 300) (hWE : zWE E) (hE : zMv E M) (h : zMS S M sd (k + 1) e) (hl : zLm M k w m d a b) (hlog : ∀ i, i < k → M 94 i = E 16 i) (hrf : yRf E S k) (hB : zWB E S (k + 1) nq nm) (hof : ∀ i, i < nm → S 9 i = -1 ∨ zIn (S 9 i) k) (hP : zWP S e) (he : e ≤ 20 + k) (hp : zPg E S nq nm w m d a b) (hw : zIn w 10) : ∃ M' e', f_X10_does (nI k) M = some (0, M') ∧ zMS (s_do E S k w m d a b) M' sd (k + 1) e' ∧ zFm M M' ∧ zWP (s_do E S k w m d a b) e' ∧ e' ≤ 20 + (k + 1) := by
  have hl0 := hl
  obtain ⟨l1, l2, l3, l4, l5⟩ := hl
  have hi : zIn (nI k) 300 := zIn_n hk (by omega)
  obtain ⟨g1, g2, g3, g4, g5, g6, g7, g8, g9⟩ := hp
  obtain ⟨hF, hMo, c9, hR, h24, hHo, h12, h13, h15, hbs⟩ := id hB
  have hm := hMo.1
  have hm8 := hMo.2.1
  have hx : zIx (S 4 8) = nm := by rw [hm, zIx_n (by omega)]
  rw [f_X10_does, zCk_t hi, zCk_t hi, zIx_n (by omega), l1, l2]
  unfold s_do
  by_cases q0 : w = 0
  · rw [if_pos q0, if_pos q0]
    have hm24 := g1 (Or.inl q0)
    obtain ⟨a1, a2⟩ := g_do0 hsd h hm24
    exact ⟨_, e, by rw [zCk_t hm24, zLt_eq], a1, a2, zWP_c hP (fun c _ _ => zUp_off (by omega)), by omega⟩
  rw [if_neg q0, if_neg q0]
  by_cases q1 : w = 1
  · rw [if_pos q1, if_pos q1]
    obtain ⟨M1, e1, a1, a2⟩ := g_do1 hsd h (g1 (Or.inr (Or.inl q1))) hF
    exact ⟨M1, e, e1, a1, a2, zWP_c hP (fun c _ _ => by rw [s_drop_off _ _ _ (by omega), zUp_off (by omega)]), by omega⟩
  rw [if_neg q1, if_neg q1]
  by_cases q2 : w = 2
  · rw [if_pos q2, if_pos q2]
    obtain ⟨M1, e1, a1, a2⟩ := g_do2 (m := m) hsd h hF (zWF_room hF (g1 (Or.inr (Or.inr (Or.inl q2)))) (g2 q2))
    exact ⟨M1, e, e1, a1, a2, zWP_c hP (fun c _ _ => s_ask_off _ _ _ (by omega)), by omega⟩
  rw [if_neg q2, if_neg q2]
  by_cases q3 : w = 3
  · rw [if_pos q3, if_pos q3]
    obtain ⟨M1, e1, a1, a2⟩ := g_do3 hsd hE h hF (g3 q3) hm hm8
    exact ⟨M1, e, e1, a1, a2, zWP_c hP (fun c _ _ => by rw [s_deb_off _ _ (by omega), s_call_off _ _ _ _ (by omega)]), by omega⟩
  rw [if_neg q3, if_neg q3]
  by_cases q4 : w = 4
  · rw [if_pos q4, if_pos q4]
    obtain ⟨M1, e1, a1, a2⟩ := g_do4 hsd h hk l4 (g4 q4) hHo h13
    refine ⟨M1, e, e1, a1, a2, zWP_c hP (fun c _ _ => ?_), by omega⟩
    unfold s_ticks
    rw [zUp_off (by omega), s_spend_off _ _ _ (by omega), zUp_off (by omega)]
  rw [if_neg q4, if_neg q4]
  by_cases q5 : w = 5
  · rw [if_pos q5, if_pos q5]
    obtain ⟨a1, a2⟩ := g_do5 (m := m) hsd h
    exact ⟨_, e, rfl, a1, a2, zWP_c hP (fun c _ _ => s_yield_off _ _ _ (by omega)), by omega⟩
  rw [if_neg q5, if_neg q5]
  by_cases q6 : w = 6
  · rw [if_pos q6, if_pos q6]
    obtain ⟨p1, p2, p3, p4, p5, p6⟩ := g6 q6
    obtain ⟨D, hD, eD⟩ := zIn_of p3
    subst eD
    obtain ⟨M1, e1, a1, a2⟩ := g_do6 hsd hk hE h hm p1 hD hl0 hlog hrf
    rw [zIx_n (show D < 2 ^ 31 by omega)]
    exact ⟨M1, e, by rw [e1, zBd_some], a1, a2, zWP_c hP (fun c _ _ => s_push_off _ _ _ _ _ _ _ _ (by omega)), by omega⟩
  rw [if_neg q6, if_neg q6]
  by_cases q7 : w = 7
  · rw [if_pos q7, if_pos q7]
    obtain ⟨M1, e1, a1, a2⟩ := g_do7 hsd h hm hm8 (g7 q7)
    exact ⟨M1, e, e1, a1, a2, zWP_c hP (fun c _ _ => s_sec_off _ _ (by omega)), by omega⟩
  rw [if_neg q7, if_neg q7]
  have hgo : 0 < nm → S 0 13 = 0 → ∀ c : Prop, ∃ M' e', f_X10_votes (nI k) (zT c) M = some (0, M') ∧ zMS (s_votes E S k c) M' sd (k + 1) e' ∧ zFm M M' ∧ zWP (s_votes E S k c) e' ∧ e' ≤ max 20 (e + 1) := by
    intro h0 hr c
    obtain ⟨x1, x2, x3, x4, x5, x6, x7⟩ := hMo.2.2 (nm - 1) (by omega)
    exact g_votes (E := E) hsd hk h c9 hm hm8 h0 x1 x3 x4 (hof (nm - 1) (by omega)) (fun i hi2 => (hbs i (by omega)).1) hP (by omega) hr c
  unfold s_decide
  rw [hx]
  by_cases q8 : w = 8
  · have hg8 := g8 (Or.inl q8)
    have hg9 := g9 q8
    obtain ⟨x1, x2, x3, x4, x5, x6, x7⟩ := hMo.2.2 (nm - 1) (by omega)
    obtain ⟨T, hT, eT⟩ := zIn_of x1
    have hway : E 5 (zIx (S 5 (nm - 1))) = 0 ∨ E 5 (zIx (S 5 (nm - 1))) = 1 ∨ E 5 (zIx (S 5 (nm - 1))) = 2 := by
      rw [eT, zIx_n (by omega)] at x2 hg9 ⊢
      rcases (hWE.1 T hT).2.1 x2 with y | y | y | y
      · exact Or.inl y
      · exact Or.inr (Or.inl y)
      · exact Or.inr (Or.inr y)
      · exact absurd y hg9.2.2
    rw [if_pos q8, if_neg (show ¬ w = 9 by rw [q8]; decide), zCk_t hi, zCk_t hi, l4, l5, g_passing hE h hm hm8 hg8.1 x1 x2 hway hg9.1 hg9.2.1, zBd_some]
    obtain ⟨M1, e1, y1, y2, y3, y4, y5⟩ := hgo hg8.1 hg8.2 (s_carr E (S 5 (nm - 1)) a b)
    exact ⟨M1, e1, by rw [y1, zBd_some], y2, y3, y4, by omega⟩
  · have q9 : w = 9 := by
      obtain ⟨W, hW, eW⟩ := zIn_of hw
      rcases (by omega : W = 0 ∨ W = 1 ∨ W = 2 ∨ W = 3 ∨ W = 4 ∨ W = 5 ∨ W = 6 ∨ W = 7 ∨ W = 8 ∨ W = 9) with x | x | x | x | x | x | x | x | x | x
      · exact absurd (by rw [eW, x]; rfl) q0
      · exact absurd (by rw [eW, x]; rfl) q1
      · exact absurd (by rw [eW, x]; rfl) q2
      · exact absurd (by rw [eW, x]; rfl) q3
      · exact absurd (by rw [eW, x]; rfl) q4
      · exact absurd (by rw [eW, x]; rfl) q5
      · exact absurd (by rw [eW, x]; rfl) q6
      · exact absurd (by rw [eW, x]; rfl) q7
      · exact absurd (by rw [eW, x]; rfl) q8
      · rw [eW, x]; rfl
    have hg8 := g8 (Or.inr q9)
    rw [if_neg q8, if_pos q9, zCk_t hi, l4]
    obtain ⟨M1, e1, y1, y2, y3, y4, y5⟩ := hgo hg8.1 hg8.2 (a = 1)
    refine ⟨M1, e1, ?_, y2, y3, y4, by omega⟩
    unfold f_X10_does_B362
    by_cases c : a = 1
    · rw [zT_t c] at y1
      rw [if_pos c, y1, zBd_some]
    · rw [zT_f c] at y1
      rw [if_neg c, y1, zBd_some]
/-- an act that is let, or may be let as the other ruling, can be done -/
theorem zPg_of {E S : zMem} {k nq nm e : Nat} {w m d a b : Int32} (hW : zWA E S k nq nm e) (hw : zIn w 10) (h : s_rule E S w m d a b = 0 ∨ (s_rule E S w m d a b = 6 ∧ s_oth E S w d (s_rule E S w m d a b))) : zPg E S nq nm w m d a b := by
  obtain ⟨⟨hF, ⟨hm, hm8, hmo⟩, _, _⟩, _, _, ht24, _, _, h13, _, _⟩ := hW
  have hx : zIx (S 4 8) = nm := by rw [hm, zIx_n (by omega)]
  have hxq : zIx (S 1 4) = nq := by rw [hF.1, zIx_n (by have := hF.2.1; omega)]
  obtain ⟨W, hW10, eW⟩ := zIn_of hw
  have hcase : w = 0 ∨ w = 1 ∨ w = 2 ∨ w = 3 ∨ w = 4 ∨ w = 5 ∨ w = 6 ∨ w = 7 ∨ w = 8 ∨ w = 9 := by
    rcases (by omega : W = 0 ∨ W = 1 ∨ W = 2 ∨ W = 3 ∨ W = 4 ∨ W = 5 ∨ W = 6 ∨ W = 7 ∨ W = 8 ∨ W = 9) with x | x | x | x | x | x | x | x | x | x <;> (subst x; rw [eW]; decide)
  -- what the ruling says
  have htold : s_told S w m d a b := by
    refine Classical.byContradiction (fun hn => ?_)
    have : s_rule E S w m d a b = 1 := by
      unfold s_rule
      rw [zIf_t hn]
    rw [this] at h
    rcases h with h | h
    · exact absurd h (by decide)
    · exact absurd h.1 (by decide)
  have hrest : ¬ (w = 0 ∨ w = 1) → ¬ (0 < S 0 13 ∧ w ≠ 4) := by
    intro h01 hn
    have hr : s_rule E S w m d a b = 2 ∨ s_rule E S w m d a b = 3 ∨ s_rule E S w m d a b = 4 ∨ s_rule E S w m d a b = 5 := by
      unfold s_rule
      rw [zIf_f (show ¬ ¬ s_told S w m d a b from fun y => y htold)]
      by_cases c1 : s_ofm w ∧ zT (s_in S m) = zT (w = 0)
      · rw [zIf_t c1]; exact Or.inl rfl
      rw [zIf_f c1, zIf_f h01]
      by_cases c2 : S 0 15 ≠ 0
      · rw [zIf_t c2]; exact Or.inr (Or.inl rfl)
      rw [zIf_f c2]
      by_cases c3 : zBc (S 0 11) < E 3 5
      · rw [zIf_t c3]; exact Or.inr (Or.inr (Or.inl rfl))
      rw [zIf_f c3, zIf_t hn]; exact Or.inr (Or.inr (Or.inr rfl))
    rcases hr with y | y | y | y <;> (rw [y] at h; rcases h with h | h <;> first | exact absurd h (by decide) | exact absurd h.1 (by decide))
  have hord : ¬ (w = 0 ∨ w = 1) → s_rule E S w m d a b = 0 → s_ord E S w m d a := by
    intro h01 h0
    refine Classical.byContradiction (fun hn => ?_)
    unfold s_rule at h0
    rw [zIf_f (show ¬ ¬ s_told S w m d a b from fun y => y htold)] at h0
    by_cases c1 : s_ofm w ∧ zT (s_in S m) = zT (w = 0)
    · rw [zIf_t c1] at h0; exact absurd h0 (by decide)
    rw [zIf_f c1, zIf_f h01] at h0
    by_cases c2 : S 0 15 ≠ 0
    · rw [zIf_t c2] at h0; exact absurd h0 (by decide)
    rw [zIf_f c2] at h0
    by_cases c3 : zBc (S 0 11) < E 3 5
    · rw [zIf_t c3] at h0; exact absurd h0 (by decide)
    rw [zIf_f c3, zIf_f (hrest h01), zIf_f hn] at h0
    exact absurd h0 (by decide)
  -- only 5 and 6 may be done against the order
  have h0or : w ≠ 5 → w ≠ 6 → s_rule E S w m d a b = 0 := by
    intro h5 h6
    rcases h with h | ⟨h1, h2⟩
    · exact h
    · rcases h2 with y | ⟨_, y | y⟩
      · exact y
      · exact absurd y.1 h6
      · exact absurd y.1 h5
  have hmem : (w = 0 ∨ w = 1 ∨ w = 2 ∨ w = 5 ∨ w = 7) → zIn m 24 := fun y => by
    rw [s_told_m y] at htold
    exact htold
  refine ⟨fun y => hmem (by rcases y with y | y | y | y <;> simp [y]), fun y => ?_, fun y => ?_, fun y => ?_, fun y => ?_, fun y => ?_, fun y => ?_, fun y => ?_, fun y => ?_⟩
  · have := hord (by rw [y]; decide) (h0or (by rw [y]; decide) (by rw [y]; decide))
    unfold s_ord at this
    rw [if_pos y, hxq] at this
    exact this.1
  · have := hord (by rw [y]; decide) (h0or (by rw [y]; decide) (by rw [y]; decide))
    unfold s_ord at this
    rw [if_neg (by rw [y]; decide), if_pos y, hxq] at this
    exact this.1
  · subst y
    rw [s_told_4] at htold
    exact htold
  · rcases h with h | ⟨h1, h2⟩
    · have := hord (by rw [y]; decide) h
      unfold s_ord at this
      rw [if_neg (by rw [y]; decide), if_neg (by rw [y]; decide), if_neg (by rw [y]; decide), if_pos y] at this
      exact this.2.1
    · rcases h2 with z | ⟨_, z | z⟩
      · rw [h1] at z
        exact absurd z (by decide)
      · rw [y] at z
        exact absurd z.1 (by decide)
      · exact z.2
  · subst y
    have h6 := s_told6 htold
    have hl8 : (zIn d 8 ∧ 0 < E 4 (zIx d)) ∧ zIx (S 4 8) < 8 := by
      rcases h with h | ⟨h1, h2⟩
      · have := hord (by decide) h
        unfold s_ord s_mv at this
        rw [if_neg (by decide), if_neg (by decide), if_neg (by decide), if_neg (by decide), if_pos rfl] at this
        exact ⟨this.1, this.2.1⟩
      · rcases h2 with z | ⟨_, z | z⟩
        · rw [h1] at z
          exact absurd z (by decide)
        · exact ⟨z.2.1, z.2.2⟩
        · exact absurd z.1 (by decide)
    rw [hx] at hl8
    exact ⟨hl8.2, h6.1, h6.2.1, hl8.1.2, h6.2.2.1, h6.2.2.2⟩
  · have := hord (by rw [y]; decide) (h0or (by rw [y]; decide) (by rw [y]; decide))
    unfold s_ord at this
    rw [if_neg (by rw [y]; decide), if_neg (by rw [y]; decide), if_neg (by rw [y]; decide), if_neg (by rw [y]; decide), if_neg (by rw [y]; decide), if_pos y, hx] at this
    exact this.1
  · have h01 : ¬ (w = 0 ∨ w = 1) := by rcases y with y | y <;> (rw [y]; decide)
    have hz : S 0 13 = 0 := by
      rcases zd_pos h13 with z | z
      · exact z
      · exact absurd ⟨z, by rcases y with y | y <;> (rw [y]; decide)⟩ (hrest h01)
    have h56 : w ≠ 5 ∧ w ≠ 6 := by rcases y with y | y <;> (rw [y]; decide)
    have := hord h01 (h0or h56.1 h56.2)
    refine ⟨?_, hz⟩
    unfold s_ord s_dec at this
    rcases y with y | y
    · rw [if_neg (by rw [y]; decide), if_neg (by rw [y]; decide), if_neg (by rw [y]; decide), if_neg (by rw [y]; decide), if_neg (by rw [y]; decide), if_neg (by rw [y]; decide), if_pos y, hx] at this
      exact this.1
    · rw [if_neg (by rw [y]; decide), if_neg (by rw [y]; decide), if_neg (by rw [y]; decide), if_neg (by rw [y]; decide), if_neg (by rw [y]; decide), if_neg (by rw [y]; decide), if_neg (by rw [y]; decide), if_pos y, hx] at this
      exact this.1
  · have := hord (by rw [y]; decide) (h0or (by rw [y]; decide) (by rw [y]; decide))
    unfold s_ord s_dec at this
    rw [if_neg (by rw [y]; decide), if_neg (by rw [y]; decide), if_neg (by rw [y]; decide), if_neg (by rw [y]; decide), if_neg (by rw [y]; decide), if_neg (by rw [y]; decide), if_pos y, hx] at this
    subst y
    rw [s_told_8] at htold
    have hz := (zd_told8 ht24).mp htold
    have hz1 : (a &&& b) = 0 ∧ z24 a ∧ z24 b := Classical.byContradiction (fun y => hz (Or.inl y))
    exact ⟨hz1.2.1, hz1.2.2, fun y => by
      have := this.2.2.2
      rw [yB_t y] at this
      exact absurd this (by decide)⟩
