/-! ===== the other clauses, and the text, both in step ===== -/
theorem k_bit : ∀ m, m < 16 → ∀ c, c < 4 → ((nI m &&& nI (2 ^ c) = 0 ↔ ¬ m.testBit c = true) ∧ nI m ||| nI (2 ^ c) = nI (m ||| 2 ^ c) ∧ m ||| 2 ^ c < 16 ∧ ∀ d, d < 4 → (m ||| 2 ^ c).testBit d = (m.testBit d || decide (d = c))) := by decide +kernel
theorem c_dr {P Q : zMem} {m c : Nat} {r : Int32} (hc : c < 4) (h : zDr P Q) (hm : P 13 4 = nI m) (hm2 : m < 16) (h0 : c = 0 → 0 < r) (h2 : c = 2 ∨ c = 3 → r = 0 ∨ r = 1) : zDr (zUp (zUp P 13 4 (nI (m ||| 2 ^ c))) 8 (4 + c) r) (zUp (zUp Q 76 c 1) (89 + c) 1 r) := by
  refine ⟨fun j hj => ?_, ?_⟩
  · unfold zDk
    simp (disch := omega) only [zUp_c, zUp_i]
    exact h.1 j hj
  · obtain ⟨m', m1, m2, m3, m4, m5, m6, m7, m8, m9, m10⟩ := h.2
    have em : m' = m := (nI_eq (by omega) (by omega)).mp (m2.symm.trans hm)
    subst em
    obtain ⟨k1, k2, k3, k4⟩ := k_bit m' m1 c hc
    refine ⟨m' ||| 2 ^ c, k3, ?_, fun d hd => ?_, ?_⟩
    · rw [zUp_c (by omega), zUp_s]
    · rw [zUp_c (by omega), k4 d hd]
      by_cases q : d = c
      · subst q
        rw [zUp_s]
        simp
      · rw [zUp_i q, m3 d hd]
        simp [q]
    · rcases (by omega : c = 0 ∨ c = 1 ∨ c = 2 ∨ c = 3) with e | e | e | e
      · subst e
        have := h0 rfl
        simp (disch := omega) only [zUp_c, zUp_i, zUp_s, Nat.add_zero]
        exact ⟨trivial, this, m6, m7, m8, m9, m10⟩
      · subst e
        simp (disch := omega) only [zUp_c, zUp_i, zUp_s]
        exact ⟨m4, m5, trivial, m7, m8, m9, m10⟩
      · subst e
        have := h2 (by omega)
        simp (disch := omega) only [zUp_c, zUp_i, zUp_s]
        exact ⟨m4, m5, m6, trivial, this, m9, m10⟩
      · subst e
        have := h2 (by omega)
        simp (disch := omega) only [zUp_c, zUp_i, zUp_s]
        exact ⟨m4, m5, m6, m7, m8, trivial, this⟩
/-- two readings in step -/
def zSp (B : Nat → Int32) (t : Nat) (RP RQ : zMem → zTr) (C : Int32 → Prop) : Prop := (∀ P Q p q, zPs B t P p 0 → zQs B t Q p q 0 → ∃ P' Q' r r2, RP P = some (r, P') ∧ RQ Q = some (r2, Q') ∧ zOp P P' ∧ zOq Q Q' ∧ ((∃ n p', 0 < n ∧ n < 4000 ∧ zPs B t P' p' (nI n) ∧ Q' 74 5 = nI n) ∨ (r2 = r ∧ C r ∧ ∃ p' q', p ≤ p' ∧ zPs B t P' p' 0 ∧ zQs B t Q' p' q' 0))) ∧ (∀ P p f, f ≠ 0 → zPs B t P p f → ∃ P' p' r, RP P = some (r, P') ∧ zPs B t P' p' f ∧ zOp P P')
theorem sp_num (B : Nat → Int32) (t : Nat) (u1 u2 : Int32) (hm : u2.toInt < 1000000) : zSp B t (f_X5_readNumber u1 u2) (f_X10_number u1 u2) (fun r => u1.toInt ≤ r.toInt ∧ r.toInt ≤ u2.toInt) := by
  refine ⟨fun P Q p q hP hQ => ?_, fun P p f hf hP => ?_⟩
  · have ht := hP.1.2.1
    have hs := yS_le (B := B) hP.2.2.1
    obtain ⟨P1, r1, p1, f1, e1, a1, a2, a3, a4⟩ := k_num u1 u2 0 hP
    obtain ⟨Q1, r2, p2, e2, b1, b2, b3⟩ := g_num u1 u2 hm hQ
    obtain ⟨a5, a6⟩ := a4 rfl
    subst a5
    refine ⟨P1, Q1, r1, r2, e1, e2, a2, b2, ?_⟩
    by_cases z : zNf B t (yS B t p) u1 u2 = 0
    · obtain ⟨x1, x2⟩ := a6 z
      obtain ⟨y1, y2⟩ := b3 z
      have hr := zNf_r (by omega) z
      have hg := yG_le (B := B) hs.2
      rw [← x1] at hr
      rw [z, x2] at a1
      rw [z, y2] at b1
      exact Or.inr ⟨y1.trans x1.symm, hr.2.2, _, _, by omega, a1, b1⟩
    · obtain ⟨n, n1, n2, en⟩ := zNf_n (by omega) z
      rw [en] at a1 b1
      exact Or.inl ⟨n, _, n1, n2, a1, b1.2.2.2.2⟩
  · obtain ⟨P1, r1, p1, f1, e1, a1, a2, a3, _⟩ := k_num u1 u2 f hP
    rw [a3 hf] at a1
    exact ⟨P1, p1, r1, e1, a1, a2⟩
theorem sp_one (B : Nat → Int32) (t : Nat) {u v u' v' : Int32} {a b a' b' : Nat} (hu : zIx u = a) (ha : a < 50) (hv : zIx v = b) (hb : b < 50) (hu' : zIx u' = a') (ha' : a' < 50) (hv' : zIx v' = b') (hb' : b' < 50) (h1 : zSb.getD a [] = zSb.getD a' []) (h2 : zSl.getD a 0 = zSl.getD a' 0) (h3 : zSb.getD b [] = zSb.getD b' []) (h4 : zSl.getD b 0 = zSl.getD b' 0) : zSp B t (f_X5_readChoice u v) (f_X10_one u' v') (fun r => r = 0 ∨ r = 1) := by
  refine ⟨fun P Q p q hP hQ => ?_, fun P p f hf hP => ?_⟩
  · have ht := hP.1.2.1
    have hs := yS_le (B := B) hP.2.2.1
    obtain ⟨P1, p1, f1, e1, a1, a2, a3, a4, a5, a6⟩ := k_choice hu ha hv hb hP
    obtain ⟨Q1, f2, e2, b1, b2, b3, b4⟩ := g_one hu' ha' hv' hb' hQ
    have i1 := yWm_eq (B := B) (q := yS B t p) a a' h1 h2
    have i2 := yWm_eq (B := B) (q := yS B t p) b b' h3 h4
    refine ⟨P1, Q1, _, _, e1, e2, a2, b2, ?_⟩
    by_cases x : yWm B (yS B t p) a
    · obtain ⟨x1, x2⟩ := a4 x
      rw [x1, x2] at a1
      rw [b3 (Or.inl (i1.mp x)), (yWm_E hP.1.2.2.2 ha hs.2 x).1] at b1
      exact Or.inr ⟨by rw [zT_t x, zT_t (i1.mp x)], zT_01 _, _, _, by omega, a1, b1⟩
    · have x' : ¬ yWm B (yS B t p) a' := fun w => x (i1.mpr w)
      by_cases y : yWm B (yS B t p) b
      · obtain ⟨x1, x2⟩ := a5 x y
        rw [x1, x2] at a1
        rw [b3 (Or.inr (i2.mp y)), (yWm_E hP.1.2.2.2 hb hs.2 y).1] at b1
        exact Or.inr ⟨by rw [zT_f x, zT_f x'], zT_01 _, _, _, by omega, a1, b1⟩
      · rw [a6 x y rfl, zf_1 (by omega)] at a1
        rw [b4 x' (fun w => y (i2.mpr w)), zf_1 (by omega)] at b1
        exact Or.inl ⟨_, _, by omega, by omega, a1, b1.2.2.2.2⟩
  · obtain ⟨P1, p1, f1, e1, a1, a2, a3, _⟩ := k_choice hu ha hv hb hP
    rw [a3 hf] at a1
    exact ⟨P1, p1, _, e1, a1, a2⟩
theorem c_gen {B : Nat → Int32} {t p q c : Nat} {P Q : zMem} {RP RQ : zMem → zTr} {C : Int32 → Prop} {u : Int32} (hS : zSp B t RP RQ C) (hc : c < 4) (hu : u = nI (2 ^ c)) (hC : ∀ r, C r → (c = 0 → 0 < r) ∧ (c = 2 ∨ c = 3 → r = 0 ∨ r = 1)) (hq : q ≤ t) (hP : zPs B t P p 0) (hQ : zQs B t Q p q 0) (hD : zDr P Q) : ∃ P' Q', zBd (f_X5_tellOnce u (nI q) P) (fun _ M29 => zBd (RP M29) (fun r30 M31 => zLt (zUp M31 8 (4 + c) r30) (fun M32 => some (0, M32)))) = some (0, P') ∧ (if Q 76 c = 0 then zBd (RQ (zUp Q 76 c 1)) (fun r11 M12 => zLt (zUp M12 (89 + c) 1 r11) (fun M13 => some (0, M13))) else zBd (f_X10_fails 3 (Q 74 4) Q) (fun _ M26 => some (0, M26))) = some (0, Q') ∧ (yFa B t P Q P' Q' ∨ zGo B t p P Q P' Q') := by
  have ht := hP.1.2.1
  obtain ⟨m, m1, m2, m3, _⟩ := hD.2
  obtain ⟨k1, k2, k3, k4⟩ := k_bit m m1 c hc
  subst hu
  rw [f_X5_tellOnce, m2, k2, m3 c hc]
  by_cases x : m.testBit c = true
  · obtain ⟨Q3, f4, g6, g7, g8, g9, g10⟩ := g_fail 3 (nI q) 0 hQ
    have v2 := g10 rfl
    rw [zf_3 (by omega)] at v2
    subst v2
    have hP1 : zPs B t (zUp P 13 3 (nI (3 + 4 * q))) p (nI (3 + 4 * q)) := zPs_f hP
    have hP2 : zPs B t (zUp (zUp P 13 3 (nI (3 + 4 * q))) 13 4 (nI (m ||| 2 ^ c))) p (nI (3 + 4 * q)) := ⟨zTp_c hP1.1 (fun b j hb => zUp_c (by omega)), by rw [zUp_x (by omega)]; exact hP1.2.1, hP1.2.2.1, by rw [zUp_x (by omega)]; exact hP1.2.2.2⟩
    obtain ⟨P3, p3, r3, e3, c1, c2⟩ := hS.2 _ p _ (nI_ne0 (by omega) (by omega)) hP2
    rw [if_neg (fun y => (k1.mp y) x), k_fail0 hP, zf_3 (by omega), zBd_some, zLt_eq, zUp_x (by omega), m2, k2, zBd_some, e3, zBd_some, zLt_eq, if_pos x, if_neg y_10, hQ.2.2.2.1, g6, zBd_some]
    exact ⟨_, Q3, rfl, rfl, Or.inl ⟨yFr_86 (yFr_t (yFr_86 (yFr_86 yFr_r (by omega) (by omega)) (by omega) (by omega)) (zOp_fr c2)) (by omega) (by omega), zOr_q g8, _, _, by omega, by omega, zPs_u c1 (by omega) (by omega), g7.2.2.2.2⟩⟩
  · have hP1 : zPs B t (zUp P 13 4 (nI (m ||| 2 ^ c))) p 0 := ⟨zTp_c hP.1 (fun b j hb => zUp_c (by omega)), by rw [zUp_x (by omega)]; exact hP.2.1, hP.2.2.1, by rw [zUp_x (by omega)]; exact hP.2.2.2⟩
    obtain ⟨P3, Q3, r, r2, e1, e2, o1, o2, h⟩ := hS.1 _ _ p q hP1 (zQs_u (c := 76) (i := c) (v := 1) hQ (by omega) (by omega))
    rw [if_pos (k1.mpr x), zLt_eq, zBd_some, e1, zBd_some, zLt_eq, if_neg x, if_pos y_00, e2, zBd_some, zLt_eq]
    have fP : yFr 8 6 P (zUp P3 8 (4 + c) r) := yFr_86 (yFr_t (yFr_86 yFr_r (by omega) (by omega)) (zOp_fr o1)) (by omega) (by omega)
    have fQ : zOr Q (zUp Q3 (89 + c) 1 r2) := zOr_t (zOr_t (zOr_u (by unfold zRr; omega)) (zOr_q o2)) (zOr_u (by unfold zRr; omega))
    refine ⟨_, _, rfl, rfl, ?_⟩
    rcases h with ⟨n, p', n1, n2, h1, h2⟩ | ⟨er, hr, p', q', h1, h2, h3⟩
    · exact Or.inl ⟨fP, fQ, n, p', n1, n2, zPs_u h1 (by omega) (by omega), by rw [zUp_c (by omega)]; exact h2⟩
    · subst er
      obtain ⟨hr1, hr2⟩ := hC _ hr
      exact Or.inr ⟨fP, fQ, p', q', h1, zPs_u h2 (by omega) (by omega), zQs_u h3 (by omega) (by omega), zDr_o (c_dr hc hD m2 m1 hr1 hr2) (zOp_up o1) (zOq_up o2)⟩
theorem c_all {B : Nat → Int32} {t p q0 : Nat} {P Q : zMem} (hp : yS B t p = p) (hP : zPs B t P p 0) (hQ : zQs B t Q p q0 0) (hD : zDr P Q) : ∃ P' Q', f_X5_readClause P = some (0, P') ∧ f_X10_clause Q = some (0, Q') ∧ (yFa B t P Q P' Q' ∨ zGo B t p P Q P' Q') := by
  have ht := hP.1.2.1
  have hpt := hP.2.2.1
  obtain ⟨Q1, e1, b1, b2⟩ := g_word hQ
  obtain ⟨P1, p1, a1, a2, a3, a4, a5⟩ := k_took (u := 0) (w := 0) rfl (by omega) hP
  rw [hp] at b1 a1 a4 a5
  have hD1 : ∀ P', zOp P P' → zDr P' Q1 := fun P' h => zDr_o hD h b2
  have fin : ∀ P1 p1 P' Q', zOp P P1 → p ≤ p1 → (yFa B t P1 Q1 P' Q' ∨ zGo B t p1 P1 Q1 P' Q') → (yFa B t P Q P' Q' ∨ zGo B t p P Q P' Q') := by
    intro P1 p1 P' Q' o hle h
    rcases h with ⟨h1, h2, h3⟩ | ⟨h1, h2, p', q', h3, h4⟩
    · exact Or.inl ⟨yFr_t (zOp_fr o) h1, zOr_t (zOr_q b2) h2, h3⟩
    · exact Or.inr ⟨yFr_t (zOp_fr o) h1, zOr_t (zOr_q b2) h2, p', q', by omega, h4⟩
  rw [f_X5_readClause, f_X10_clause, a1, zBd_some, e1, zBd_some, hP.2.1]
  by_cases y0 : yE B t p = p
  · have no : ∀ w, w < 50 → ¬ yWm B p w := fun w hw => yWm_no hP.1.2.2.2 hw hpt y0
    have z := zWs_1 b1 y0
    rw [a5 (no 0 (by omega))] at a2
    obtain ⟨P2, p2, c1, c2, c3, _, c5⟩ := k_took (u := 17) (w := 17) rfl (by omega) a2
    rw [hp] at c1 c5
    rw [c5 (no 17 (by omega))] at c2
    obtain ⟨P3, p3, d1, d2, d3, _, d5⟩ := k_took (u := 18) (w := 18) rfl (by omega) c2
    rw [hp] at d1 d5
    rw [d5 (no 18 (by omega))] at d2
    obtain ⟨P4, p4, g1, g2, g3, _, g5⟩ := k_took (u := 19) (w := 19) rfl (by omega) d2
    rw [hp] at g1 g5
    rw [g5 (no 19 (by omega))] at g2
    obtain ⟨P5, p5, h1, h2, h3, _, h5⟩ := k_took (u := 22) (w := 22) rfl (by omega) g2
    rw [hp] at h1 h5
    rw [h5 (no 22 (by omega))] at h2
    rw [zT_f (no 0 (by omega)), if_pos y_00, c1, zBd_some, zT_f (no 17 (by omega)), if_pos y_00, d1, zBd_some, zT_f (no 18 (by omega)), if_pos y_00, g1, zBd_some, zT_f (no 19 (by omega)), if_pos y_00, h1, zBd_some, zT_f (no 22 (by omega)), if_pos y_00, k_fail0 h2, zBd_some, z.2.2.2.2, if_neg (nI_nl (by omega) (by omega)), zf_1 (by omega)]
    exact ⟨_, _, rfl, rfl, Or.inl ⟨zOp_fr (zOp_t a3 (zOp_t c3 (zOp_t d3 (zOp_t g3 (zOp_t h3 (zOp_u (Or.inr rfl))))))), zOr_q b2, _, _, by omega, by omega, zPs_f h2, z.2.2.2.2⟩⟩
  have z := zWs_2 b1 y0
  rw [z.2.2.2.2, if_pos y_le, g_is (u := 25) (w := 25) rfl (by omega) z hpt, zBd_some]
  have i0 : yWm B p 0 ↔ yWm B p 25 := yWm_25 0 (by omega)
  have i17 : yWm B p 17 ↔ yWm B p 42 := yWm_25 17 (by omega)
  have i18 : yWm B p 18 ↔ yWm B p 43 := yWm_25 18 (by omega)
  have i19 : yWm B p 19 ↔ yWm B p 44 := yWm_25 19 (by omega)
  have i22 := yWm_eq (B := B) (q := p) 22 45 rfl rfl
  by_cases m0 : yWm B p 0
  · have z0 := zWs_0 b1 (w := 0) (by omega) m0
    rw [a4 m0] at a2
    obtain ⟨P2, Q2, e2, e3, h⟩ := m_0 a2 z0 (hD1 P1 a3)
    rw [zT_t m0, if_neg y_10, e2, zBd_some, zT_t (i0.mp m0), if_neg y_10, e3, zBd_some]
    exact ⟨P2, Q2, rfl, rfl, fin P1 _ P2 Q2 a3 (by omega) h⟩
  rw [zT_f m0, if_pos y_00, zT_f (fun x => m0 (i0.mpr x)), if_pos y_00]
  rw [a5 m0] at a2
  obtain ⟨P2, p2, c1, c2, c3, c4, c5⟩ := k_took (u := 17) (w := 17) rfl (by omega) a2
  rw [hp] at c1 c4 c5
  rw [c1, zBd_some]
  have oP2 := zOp_t a3 c3
  have zk : ∀ k, zFst (fun j => yWm B p (42 + j)) 4 k → f_X10_clause_L28 zFu 0 Q1 = f_X10_clause_B51 (nI k) Q1 := fun k hk => g_clL hk z hpt k 0 zFu (by omega) (by have := hk.1; unfold zFu; omega)
  by_cases m17 : yWm B p 17
  · have z0 := zWs_0 b1 (w := 17) (by omega) m17
    rw [c4 m17] at c2
    have e99 : (9999 : Int32).toInt = 9999 := by decide +kernel
    obtain ⟨P3, Q3, e2, e3, h⟩ := c_gen (c := 0) (u := 1) (sp_num B t 1 9999 (by rw [e99]; omega)) (by omega) rfl (fun r hr => ⟨fun _ => Int32.lt_iff_toInt_lt.mpr (by
      have e01 : (1 : Int32).toInt = 1 := by decide +kernel
      have e00 : (0 : Int32).toInt = 0 := by decide +kernel
      have := hr.1
      omega), fun x => by omega⟩) hpt c2 z0 (hD1 P2 oP2)
    rw [zT_t m17, if_neg y_10, zk 0 ⟨by omega, fun j hj => by omega, fun _ => i17.mp m17⟩, f_X10_clause_B51, if_neg (show ¬ nI 0 = 4 by decide), zCk_t (zIn_n (n := 0) (N := 12) (by omega) (by omega)), zIx_n (n := 0) (by omega), zCk_t (zIn_n (n := 0) (N := 12) (by omega) (by omega)), zLt_eq, if_pos (show nI 0 = 0 from rfl)]
    exact ⟨P3, Q3, e2, e3, fin P2 _ P3 Q3 oP2 (by omega) h⟩
  rw [zT_f m17, if_pos y_00]
  rw [c5 m17] at c2
  obtain ⟨P3, p3, d1, d2, d3, d4, d5⟩ := k_took (u := 18) (w := 18) rfl (by omega) c2
  rw [hp] at d1 d4 d5
  rw [d1, zBd_some]
  have oP3 := zOp_t oP2 d3
  by_cases m18 : yWm B p 18
  · have z0 := zWs_0 b1 (w := 18) (by omega) m18
    rw [d4 m18] at d2
    have e24 : (24 : Int32).toInt = 24 := by decide +kernel
    obtain ⟨P4, Q3, e2, e3, h⟩ := c_gen (c := 1) (u := 2) (sp_num B t 0 24 (by rw [e24]; omega)) (by omega) rfl (fun r hr => ⟨fun x => by omega, fun x => by omega⟩) hpt d2 z0 (hD1 P3 oP3)
    rw [zT_t m18, if_neg y_10, zk 1 ⟨by omega, fun j hj => by
      rw [show j = 0 by omega]
      exact fun x => m17 (i17.mpr x), fun _ => i18.mp m18⟩, f_X10_clause_B51, if_neg (show ¬ nI 1 = 4 by decide), zCk_t (zIn_n (n := 1) (N := 12) (by omega) (by omega)), zIx_n (n := 1) (by omega), zCk_t (zIn_n (n := 1) (N := 12) (by omega) (by omega)), zLt_eq, if_neg (show ¬ nI 1 = 0 by decide), if_pos (show nI 1 = 1 from rfl)]
    exact ⟨P4, Q3, e2, e3, fin P3 _ P4 Q3 oP3 (by omega) h⟩
  rw [zT_f m18, if_pos y_00]
  rw [d5 m18] at d2
  obtain ⟨P4, p4, g1, g2, g3, g4, g5⟩ := k_took (u := 19) (w := 19) rfl (by omega) d2
  rw [hp] at g1 g4 g5
  rw [g1, zBd_some]
  have oP4 := zOp_t oP3 g3
  by_cases m19 : yWm B p 19
  · have z0 := zWs_0 b1 (w := 19) (by omega) m19
    rw [g4 m19] at g2
    obtain ⟨P5, Q3, e2, e3, h⟩ := c_gen (c := 2) (u := 4) (sp_one B t (u := 20) (v := 21) (u' := 46) (v' := 47) (a := 20) (b := 21) (a' := 46) (b' := 47) rfl (by omega) rfl (by omega) rfl (by omega) rfl (by omega) rfl rfl rfl rfl) (by omega) rfl (fun r hr => ⟨fun x => by omega, fun _ => hr⟩) hpt g2 z0 (hD1 P4 oP4)
    rw [zT_t m19, if_neg y_10, zk 2 ⟨by omega, fun j hj => by
      rcases (by omega : j = 0 ∨ j = 1) with e | e <;> subst e
      · exact fun x => m17 (i17.mpr x)
      · exact fun x => m18 (i18.mpr x), fun _ => i19.mp m19⟩, f_X10_clause_B51, if_neg (show ¬ nI 2 = 4 by decide), zCk_t (zIn_n (n := 2) (N := 12) (by omega) (by omega)), zIx_n (n := 2) (by omega), zCk_t (zIn_n (n := 2) (N := 12) (by omega) (by omega)), zLt_eq, if_neg (show ¬ nI 2 = 0 by decide), if_neg (show ¬ nI 2 = 1 by decide), if_pos (show nI 2 = 2 from rfl)]
    exact ⟨P5, Q3, e2, e3, fin P4 _ P5 Q3 oP4 (by omega) h⟩
  rw [zT_f m19, if_pos y_00]
  rw [g5 m19] at g2
  obtain ⟨P5, p5, h1, h2, h3, h4, h5⟩ := k_took (u := 22) (w := 22) rfl (by omega) g2
  rw [hp] at h1 h4 h5
  rw [h1, zBd_some]
  have oP5 := zOp_t oP4 h3
  by_cases m22 : yWm B p 22
  · have z0 := zWs_0 b1 (w := 22) (by omega) m22
    rw [h4 m22] at h2
    obtain ⟨P6, Q3, e2, e3, h⟩ := c_gen (c := 3) (u := 8) (sp_one B t (u := 23) (v := 24) (u' := 48) (v' := 49) (a := 23) (b := 24) (a' := 48) (b' := 49) rfl (by omega) rfl (by omega) rfl (by omega) rfl (by omega) rfl rfl rfl rfl) (by omega) rfl (fun r hr => ⟨fun x => by omega, fun _ => hr⟩) hpt h2 z0 (hD1 P5 oP5)
    rw [zT_t m22, if_neg y_10, zk 3 ⟨by omega, fun j hj => by
      rcases (by omega : j = 0 ∨ j = 1 ∨ j = 2) with e | e | e <;> subst e
      · exact fun x => m17 (i17.mpr x)
      · exact fun x => m18 (i18.mpr x)
      · exact fun x => m19 (i19.mpr x), fun _ => i22.mp m22⟩, f_X10_clause_B51, if_neg (show ¬ nI 3 = 4 by decide), zCk_t (zIn_n (n := 3) (N := 12) (by omega) (by omega)), zIx_n (n := 3) (by omega), zCk_t (zIn_n (n := 3) (N := 12) (by omega) (by omega)), zLt_eq, if_neg (show ¬ nI 3 = 0 by decide), if_neg (show ¬ nI 3 = 1 by decide), if_neg (show ¬ nI 3 = 2 by decide)]
    exact ⟨P6, Q3, e2, e3, fin P5 _ P6 Q3 oP5 (by omega) h⟩
  rw [h5 m22] at h2
  obtain ⟨Q2, f2, k1, k2, k3, k4, k5⟩ := g_fail 1 (nI p) 0 z
  have k6 := k5 rfl
  rw [zf_1 (by omega)] at k6
  subst k6
  rw [zT_f m22, if_pos y_00, k_fail0 h2, zBd_some, zk 4 ⟨by omega, fun j hj => by
    rcases (by omega : j = 0 ∨ j = 1 ∨ j = 2 ∨ j = 3) with e | e | e | e <;> subst e
    · exact fun x => m17 (i17.mpr x)
    · exact fun x => m18 (i18.mpr x)
    · exact fun x => m19 (i19.mpr x)
    · exact fun x => m22 (i22.mpr x), fun x => by omega⟩, f_X10_clause_B51, if_pos (show nI 4 = 4 from rfl), z.2.2.2.1, k1, zBd_some, zf_1 (by omega)]
  exact ⟨_, _, rfl, rfl, Or.inl ⟨zOp_fr (zOp_t oP5 (zOp_u (Or.inr rfl))), zOr_q (zOq_t b2 k3), _, _, by omega, by omega, zPs_f h2, k2.2.2.2.2⟩⟩
