/-! ===== a motion of the rules, both in step ===== -/
def zDk (P Q : zMem) (k : Nat) : Prop := ∃ a, a ≤ 99 ∧ P 9 k = nI a ∧ Q 79 k = nI a ∧ Q 76 (4 + k) = (if a = 0 then 0 else 1) ∧ P 11 k = Q 85 k ∧ (P 11 k = 0 ∨ P 11 k = 1) ∧ P 12 k = Q 88 k ∧ (P 12 k = 0 ∨ P 12 k = 1) ∧ (a ≠ 0 → ∃ w, w < 4 ∧ P 10 k = nI w ∧ Q 82 k = nI w) ∧ (a = 0 → P 10 k = -1)
def zDs (P Q : zMem) : Prop := ∃ m, m < 16 ∧ P 13 4 = nI m ∧ (∀ c, c < 4 → Q 76 c = if m.testBit c = true then 1 else 0) ∧ P 8 4 = Q 89 1 ∧ 0 < P 8 4 ∧ P 8 5 = Q 90 1 ∧ P 8 6 = Q 91 1 ∧ (P 8 6 = 0 ∨ P 8 6 = 1) ∧ P 8 7 = Q 92 1 ∧ (P 8 7 = 0 ∨ P 8 7 = 1)
def zDr (P Q : zMem) : Prop := (∀ k, k < 8 → zDk P Q k) ∧ zDs P Q
def zRr (c i : Nat) : Prop := c ≠ 76 ∧ c ≠ 79 ∧ c ≠ 82 ∧ c ≠ 85 ∧ c ≠ 88 ∧ (c = 74 → i ≠ 3 ∧ i ≠ 4 ∧ i ≠ 5) ∧ (89 ≤ c ∧ c ≤ 92 → i ≠ 1)
def zOr (Q Q' : zMem) : Prop := ∀ c i, zRr c i → Q' c i = Q c i
theorem zOr_r {Q : zMem} : zOr Q Q := fun _ _ _ => rfl
theorem zOr_t {Q Q1 Q2 : zMem} (h1 : zOr Q Q1) (h2 : zOr Q1 Q2) : zOr Q Q2 := fun c i h => (h2 c i h).trans (h1 c i h)
theorem zOr_q {Q Q1 : zMem} (h : zOq Q Q1) : zOr Q Q1 := fun c i hr => h c i (by unfold zRr at hr; omega)
theorem zOr_u {Q : zMem} {c i : Nat} {v : Int32} (h : ¬ zRr c i) : zOr Q (zUp Q c i v) := fun a b hr => if_neg (fun e => h (by rw [← e.1, ← e.2]; exact hr))
theorem zOp_fr {P P' : zMem} (h : zOp P P') : yFr 8 6 P P' := fun c hc => by
  funext i
  exact h c i (by omega)
theorem zOp_up {P P' : zMem} {c i : Nat} {v : Int32} (h : zOp P P') : zOp (zUp P c i v) (zUp P' c i v) := fun a b hc => by
  unfold zUp
  by_cases q : a = c ∧ b = i
  · rw [if_pos q, if_pos q]
  · rw [if_neg q, if_neg q]
    exact h a b hc
theorem zOq_up {P P' : zMem} {c i : Nat} {v : Int32} (h : zOq P P') : zOq (zUp P c i v) (zUp P' c i v) := fun a b hc => by
  unfold zUp
  by_cases q : a = c ∧ b = i
  · rw [if_pos q, if_pos q]
  · rw [if_neg q, if_neg q]
    exact h a b hc
theorem zDr_o {P Q P' Q' : zMem} (h : zDr P Q) (hp : zOp P P') (hq : zOq Q Q') : zDr P' Q' := by
  refine ⟨fun k hk => ?_, ?_⟩
  · unfold zDk
    rw [hp 9 k (by omega), hp 10 k (by omega), hp 11 k (by omega), hp 12 k (by omega), hq 79 k (by omega), hq 76 (4 + k) (by omega), hq 85 k (by omega), hq 88 k (by omega), hq 82 k (by omega)]
    exact h.1 k hk
  · obtain ⟨m, h1, h2, h3, h4⟩ := h.2
    refine ⟨m, h1, by rw [hp 13 4 (by omega)]; exact h2, fun c hc => by rw [hq 76 c (by omega)]; exact h3 c hc, ?_⟩
    rw [hp 8 4 (by omega), hp 8 5 (by omega), hp 8 6 (by omega), hp 8 7 (by omega), hq 89 1 (by omega), hq 90 1 (by omega), hq 91 1 (by omega), hq 92 1 (by omega)]
    exact h4
/-- both have one fault -/
def yFa (B : Nat → Int32) (t : Nat) (P Q P' Q' : zMem) : Prop := yFr 8 6 P P' ∧ zOr Q Q' ∧ ∃ n p', 0 < n ∧ n < 4000 ∧ zPs B t P' p' (nI n) ∧ Q' 74 5 = nI n
theorem yWm_25a : ∀ j, j < 20 → zSb.getD j [] = zSb.getD (25 + j) [] ∧ zSl.getD j 0 = zSl.getD (25 + j) 0 := by decide +kernel
theorem yWm_25 {B : Nat → Int32} {q : Nat} (j : Nat) (h : j < 20) : yWm B q j ↔ yWm B q (25 + j) := yWm_eq j (25 + j) (yWm_25a j h).1 (yWm_25a j h).2
theorem zFst_i {A C : Nat → Prop} {n k : Nat} (h : zFst A n k) (e : ∀ j, j < n → (A j ↔ C j)) : zFst C n k := ⟨h.1, fun j hj x => h.2.1 j hj ((e j (by have := h.1; omega)).mpr x), fun hk => (e k hk).mp (h.2.2 hk)⟩
/-! the program, cut -/
def y_M4 (k : Int32) (M : zMem) : zTr := zBd (f_X5_readWay M) (fun r27 M28 => zCk (zIn k 8) (zLt (zUp M28 10 (zIx k) r27) (fun M29 => some (0, M29))))
def y_M3 (k : Int32) (M : zMem) : zTr := zBd (f_X5_expectWord 12 M) (fun _ M26 => y_M4 k M26)
def y_M2 (k : Int32) (M : zMem) : zTr := zBd (f_X5_tookWord 10 M) (fun r17 M18 => zCk (zIn k 8) (zLt (zUp M18 11 (zIx k) r17) (fun M19 => zBd (f_X5_tookWord 11 M19) (fun r21 M22 => zCk (zIn k 8) (zLt (zUp M22 12 (zIx k) r21) (fun M23 => y_M3 k M23))))))
def y_M1 (k : Int32) (M : zMem) : zTr := zBd (f_X5_readNumber 1 99 M) (fun r13 M14 => zCk (zIn k 8) (zLt (zUp M14 9 (zIx k) r13) (fun M15 => y_M2 k M15)))
theorem y_M0 (M : zMem) : f_X5_readMotion M = zBd (f_X5_skipBlanks M) (fun _ M2 => zBd (f_X5_readKind M2) (fun r3 M4 => zBd (f_X9_isKind r3 M4) (fun r5 M6 => if r5 = 0 then zBd (f_X5_fail 1 (M2 13 2) M6) (fun _ M8 => some (0, M8)) else zBd (f_X6_lets 8 r3 M6) (fun r9 M10 => if r9 = 0 then zBd (f_X5_expectWord 9 M10) (fun _ M12 => y_M1 r3 M12) else zBd (f_X5_fail 3 (M2 13 2) M10) (fun _ M32 => some (0, M32)))))) := rfl
theorem yFr_86 {P P1 : zMem} {c i : Nat} {v : Int32} (h : yFr 8 6 P P1) (h1 : 8 ≤ c) (h2 : c < 14) : yFr 8 6 P (zUp P1 c i v) := yFr_u h h1 h2
theorem y_M4s {B : Nat → Int32} {t p k : Nat} {f : Int32} {P : zMem} (hk : k < 8) (hf : f ≠ 0) (h : zPs B t P p f) : ∃ P' p', y_M4 (nI k) P = some (0, P') ∧ zPs B t P' p' f ∧ yFr 8 6 P P' := by
  obtain ⟨w, hF⟩ := zFst_ex (fun j => yWm B (yS B t p) (13 + j)) 4
  obtain ⟨P1, p1, f1, e1, a1, a2, a3, _⟩ := k_way hF h
  rw [a3 hf] at a1
  refine ⟨_, p1, ?_, zPs_u (c := 10) (i := k) (v := if w < 4 then nI w else -1) a1 (by omega) (by omega), yFr_86 (zOp_fr a2) (by omega) (by omega)⟩
  rw [y_M4, e1, zBd_some, zCk_t (zIn_n hk (by omega)), zLt_eq, zIx_n (by omega)]
theorem y_M3s {B : Nat → Int32} {t p k : Nat} {f : Int32} {P : zMem} (hk : k < 8) (hf : f ≠ 0) (h : zPs B t P p f) : ∃ P' p', y_M3 (nI k) P = some (0, P') ∧ zPs B t P' p' f ∧ yFr 8 6 P P' := by
  obtain ⟨P1, p1, f1, e1, a1, a2, a3, _⟩ := k_expect (u := 12) (w := 12) rfl (by omega) h
  rw [a3 hf] at a1
  obtain ⟨P2, p2, e2, b1, b2⟩ := y_M4s hk hf a1
  exact ⟨P2, p2, by rw [y_M3, e1, zBd_some, e2], b1, yFr_t (zOp_fr a2) b2⟩
theorem y_M2s {B : Nat → Int32} {t p k : Nat} {f : Int32} {P : zMem} (hk : k < 8) (hf : f ≠ 0) (h : zPs B t P p f) : ∃ P' p', y_M2 (nI k) P = some (0, P') ∧ zPs B t P' p' f ∧ yFr 8 6 P P' := by
  obtain ⟨P1, p1, e1, a1, a2, _⟩ := k_took (u := 10) (w := 10) rfl (by omega) h
  obtain ⟨P2, p2, e2, b1, b2, _⟩ := k_took (u := 11) (w := 11) rfl (by omega) (zPs_u (c := 11) (i := k) (v := zT (yWm B (yS B t p) 10)) a1 (by omega) (by omega))
  obtain ⟨P3, p3, e3, c1, c2⟩ := y_M3s hk hf (zPs_u (c := 12) (i := k) (v := zT (yWm B (yS B t p1) 11)) b1 (by omega) (by omega))
  refine ⟨P3, p3, ?_, c1, yFr_t (yFr_86 (yFr_t (yFr_86 (zOp_fr a2) (by omega) (by omega)) (zOp_fr b2)) (by omega) (by omega)) c2⟩
  rw [y_M2, e1, zBd_some, zCk_t (zIn_n hk (by omega)), zLt_eq, zIx_n (by omega), e2, zBd_some, zCk_t (zIn_n hk (by omega)), zLt_eq, e3]
theorem y_M1s {B : Nat → Int32} {t p k : Nat} {f : Int32} {P : zMem} (hk : k < 8) (hf : f ≠ 0) (h : zPs B t P p f) : ∃ P' p', y_M1 (nI k) P = some (0, P') ∧ zPs B t P' p' f ∧ yFr 8 6 P P' := by
  obtain ⟨P1, r1, p1, f1, e1, a1, a2, a3, _⟩ := k_num 1 99 f h
  rw [a3 hf] at a1
  obtain ⟨P3, p3, e3, c1, c2⟩ := y_M2s hk hf (zPs_u (c := 9) (i := k) (v := r1) a1 (by omega) (by omega))
  refine ⟨P3, p3, ?_, c1, yFr_t (yFr_86 (zOp_fr a2) (by omega) (by omega)) c2⟩
  rw [y_M1, e1, zBd_some, zCk_t (zIn_n hk (by omega)), zLt_eq, zIx_n (by omega), e3]
theorem zWs_0 {B : Nat → Int32} {t q w : Nat} {Q : zMem} (h : zWs B t Q q) (hw : w < 50) (m : yWm B q w) : zQs B t Q (q + zSlenN w) q 0 := by
  obtain ⟨h1, h2⟩ := h
  have e := (yWm_E h1.1.2.2.2 hw h2 m).1
  have l := (zw_ok w hw).1
  rw [e, if_neg (by omega)] at h1
  exact h1
theorem zWs_1 {B : Nat → Int32} {t q : Nat} {Q : zMem} (h : zWs B t Q q) (m : yE B t q = q) : zQs B t Q q q (nI (1 + 4 * q)) := by
  obtain ⟨h1, h2⟩ := h
  have := h1.1.2.1
  rw [if_pos m, m, zf_1 (by omega)] at h1
  exact h1
theorem zWs_2 {B : Nat → Int32} {t q : Nat} {Q : zMem} (h : zWs B t Q q) (m : ¬ yE B t q = q) : zQs B t Q (yE B t q) q 0 := by
  obtain ⟨h1, h2⟩ := h
  rw [if_neg m] at h1
  exact h1
theorem nI_nl {n : Nat} (h0 : 0 < n) (h : n < 4000) : ¬ nI n ≤ 0 := nI_nle h0 (by omega)
/-- the way of a motion -/
theorem m_4 {B : Nat → Int32} {t p q0 k : Nat} {P Q : zMem} (hk : k < 8) (hP : zPs B t P p 0) (hQ : zQs B t Q p q0 0) : ∃ P' Q', y_M4 (nI k) P = some (0, P') ∧ f_X10_motion_B203 (nI k) Q = some (0, Q') ∧ (yFa B t P Q P' Q' ∨ ∃ p' q' w, p ≤ p' ∧ w < 4 ∧ zPs B t P' p' 0 ∧ zQs B t Q' p' q' 0 ∧ zOp (zUp P 10 k (nI w)) P' ∧ zOq (zUp Q 82 k (nI w)) Q') := by
  have ht := hP.1.2.1
  have hs := yS_le (B := B) hP.2.2.1
  obtain ⟨Q1, e2, b1, b2⟩ := g_word hQ
  obtain ⟨w, hF⟩ := zFst_ex (fun j => yWm B (yS B t p) (13 + j)) 4
  obtain ⟨P1, p1, f1, e1, a1, a2, a3, a4, a5⟩ := k_way hF hP
  have hG : zFst (fun j => yWm B (yS B t p) (38 + j)) 4 w := zFst_i hF (fun j hj => by
    have := yWm_25 (B := B) (q := yS B t p) (13 + j) (by omega)
    rw [show 25 + (13 + j) = 38 + j by omega] at this
    exact this)
  have e3 := g_wayL (x := nI k) hG b1.1 b1.2 w 0 zFu (by omega) (by have := hG.1; unfold zFu; omega)
  have e4 : f_X10_motion_B203 (nI k) Q = f_X10_motion_B240 (nI k) (nI w) Q1 := by
    rw [f_X10_motion_B203, hQ.2.2.2.2, if_pos (by decide), e2, zBd_some]
    exact e3
  have e5 : ∀ M : zMem, f_X10_motion_B261 (nI k) (nI w) M = some (0, zUp M 82 k (nI w)) := fun M => by
    rw [f_X10_motion_B261, zCk_t (zIn_n hk (by omega)), zLt_eq, zIx_n (by omega)]
  have e6 : y_M4 (nI k) P = some (0, zUp P1 10 k (if w < 4 then nI w else -1)) := by
    rw [y_M4, e1, zBd_some, zCk_t (zIn_n hk (by omega)), zLt_eq, zIx_n (by omega)]
  rw [e4, e6]
  by_cases x : w < 4
  · have m : yWm B (yS B t p) (13 + w) := hF.2.2 x
    have z := zWs_0 b1 (by omega) m
    obtain ⟨x1, x2⟩ := a4 x
    rw [x1, x2] at a1
    refine ⟨_, _, rfl, by rw [f_X10_motion_B240, z.2.2.2.2, if_pos rfl, if_neg (show ¬ nI w = 4 from by rw [zl_4, nI_eq (by omega) (by omega)]; omega), e5], Or.inr ⟨_, _, w, ?_, x, zPs_u a1 (by omega) (by omega), zQs_u z (by omega) (by omega), ?_, zOq_up b2⟩⟩
    · omega
    · rw [if_pos x]
      exact zOp_up a2
  · have x4 : w = 4 := by have := hF.1; omega
    have g := a5 x4 rfl
    rw [zf_1 (by omega)] at g
    subst g
    have fin : ∀ Q2, zOq Q Q2 → Q2 74 5 = nI (1 + 4 * yS B t p) → yFa B t P Q (zUp P1 10 k (if w < 4 then nI w else -1)) (zUp Q2 82 k (nI w)) := fun Q2 h1 h2 =>
      ⟨yFr_86 (zOp_fr a2) (by omega) (by omega), zOr_t (zOr_q h1) (zOr_u (by unfold zRr; omega)), _, _, by omega, by omega, zPs_u a1 (by omega) (by omega), by rw [zUp_c (by omega)]; exact h2⟩
    by_cases y : yE B t (yS B t p) = yS B t p
    · have z := zWs_1 b1 y
      exact ⟨_, _, rfl, by rw [f_X10_motion_B240, z.2.2.2.2, if_neg (nI_ne0 (by omega) (by omega)), e5], Or.inl (fin Q1 b2 z.2.2.2.2)⟩
    · have z := zWs_2 b1 y
      obtain ⟨Q2, f2, e7, c1, c2, c3, c4⟩ := g_fail 1 (nI (yS B t p)) 0 z
      have c5 := c4 rfl
      rw [zf_1 (by omega)] at c5
      refine ⟨_, _, rfl, by rw [f_X10_motion_B240, z.2.2.2.2, if_pos rfl, if_pos (show nI w = 4 from by rw [x4]; rfl), z.2.2.2.1, e7, zBd_some, e5], Or.inl (fin Q2 (zOq_t b2 c2) (by rw [c1.2.2.2.2, c5]))⟩
theorem m_3 {B : Nat → Int32} {t p k : Nat} {P Q : zMem} (hk : k < 8) (hP : zPs B t P p 0) (hQ : zWs B t Q (yS B t p)) : ∃ P' Q', y_M3 (nI k) P = some (0, P') ∧ f_X10_motion_B178 (nI k) Q = some (0, Q') ∧ (yFa B t P Q P' Q' ∨ ∃ p' q' w, p ≤ p' ∧ w < 4 ∧ zPs B t P' p' 0 ∧ zQs B t Q' p' q' 0 ∧ zOp (zUp P 10 k (nI w)) P' ∧ zOq (zUp Q 82 k (nI w)) Q') := by
  have ht := hP.1.2.1
  have hs := yS_le (B := B) hP.2.2.1
  obtain ⟨P1, p1, f1, e1, a1, a2, a3, a4, a5⟩ := k_expect (u := 12) (w := 12) rfl (by omega) hP
  have ei : yWm B (yS B t p) 12 ↔ yWm B (yS B t p) 37 := yWm_25 12 (by omega)
  by_cases m : yWm B (yS B t p) 12
  · have z := zWs_0 hQ (by omega) m
    obtain ⟨x1, x2⟩ := a4 m
    rw [x1, x2] at a1
    obtain ⟨P2, Q2, e2, e3, b⟩ := m_4 hk a1 z
    refine ⟨P2, Q2, by rw [y_M3, e1, zBd_some, e2], ?_, ?_⟩
    · rw [f_X10_motion_B178, z.2.2.2.2, if_pos rfl, g_is (u := 37) (w := 37) rfl (by omega) hQ.1 hQ.2, zBd_some, zT_t (ei.mp m), if_neg (by decide)]
      exact e3
    · rcases b with ⟨b1, b2, b3⟩ | ⟨p', q', w, b1, b2, b3, b4, b5, b6⟩
      · exact Or.inl ⟨yFr_t (zOp_fr a2) b1, b2, b3⟩
      · exact Or.inr ⟨p', q', w, by omega, b2, b3, b4, zOp_t (zOp_up a2) b5, b6⟩
  · have g := a5 m rfl
    rw [zf_1 (by omega)] at g
    subst g
    obtain ⟨P2, p2, e2, b1, b2⟩ := y_M4s hk (nI_ne0 (by omega) (by omega)) a1
    have fin : ∀ Q2, zOq Q Q2 → Q2 74 5 = nI (1 + 4 * yS B t p) → yFa B t P Q P2 Q2 := fun Q2 h1 h2 => ⟨yFr_t (zOp_fr a2) b2, zOr_q h1, _, _, by omega, by omega, b1, h2⟩
    have e3 : y_M3 (nI k) P = some (0, P2) := by rw [y_M3, e1, zBd_some, e2]
    by_cases y : yE B t (yS B t p) = yS B t p
    · have z := zWs_1 hQ y
      exact ⟨P2, Q, e3, by rw [f_X10_motion_B178, z.2.2.2.2, if_neg (nI_ne0 (by omega) (by omega)), f_X10_motion_B203, z.2.2.2.2, if_neg (nI_nl (by omega) (by omega))], Or.inl (fin Q zOq_r z.2.2.2.2)⟩
    · have z := zWs_2 hQ y
      obtain ⟨Q2, f2, e7, c1, c2, c3, c4⟩ := g_fail 1 (nI (yS B t p)) 0 z
      have c5 := c4 rfl
      rw [zf_1 (by omega)] at c5
      subst c5
      exact ⟨P2, Q2, e3, by rw [f_X10_motion_B178, z.2.2.2.2, if_pos rfl, g_is (u := 37) (w := 37) rfl (by omega) z hQ.2, zBd_some, zT_f (fun v => m (ei.mpr v)), if_pos rfl, z.2.2.2.1, e7, zBd_some, f_X10_motion_B203, c1.2.2.2.2, if_neg (nI_nl (by omega) (by omega))], Or.inl (fin Q2 c2 c1.2.2.2.2)⟩
/-- a word that may stand there -/
theorem m_opt {B : Nat → Int32} {t p w : Nat} {u v : Int32} {P Q : zMem} (c k : Nat) (hc : c ≠ 74) (hc2 : c ≠ 75) (hu : zIx u = w) (hv : zIx v = 25 + w) (hw : w < 20) (hP : zPs B t P p 0) (hQ : zWs B t Q (yS B t p)) : ∃ P1 p1 s Q', f_X5_tookWord u P = some (s, P1) ∧ zPs B t P1 p1 0 ∧ zOp P P1 ∧ p ≤ p1 ∧ (s = 0 ∨ s = 1) ∧ f_X10_is v Q = some (s, Q) ∧ (∀ K : zMem → zTr, (if (zUp Q c k s) c k = 0 then K (zUp Q c k s) else zBd (f_X10_word (zUp Q c k s)) (fun _ M => K M)) = K Q') ∧ zWs B t Q' (yS B t p1) ∧ zOq (zUp Q c k s) Q' := by
  have ht := hP.1.2.1
  have hs := yS_le (B := B) hP.2.2.1
  obtain ⟨P1, p1, e1, a1, a2, a3, a4⟩ := k_took hu (by omega) hP
  have ei := yWm_25 (B := B) (q := yS B t p) w hw
  have e2 := g_is hv (by omega) hQ.1 hQ.2
  by_cases m : yWm B (yS B t p) w
  · have z := zWs_0 hQ (by omega) m
    have x := a3 m
    rw [zT_t m] at e1
    rw [zT_t (ei.mp m)] at e2
    obtain ⟨Q1, e3, b1, b2⟩ := g_word (zQs_u (c := c) (i := k) (v := 1) z hc hc2)
    rw [← x] at b1
    refine ⟨P1, p1, 1, Q1, e1, a1, a2, by omega, Or.inr rfl, e2, fun K => ?_, b1, b2⟩
    rw [zUp_s, if_neg (by decide), e3, zBd_some]
  · have x := a4 m
    rw [zT_f m] at e1
    rw [zT_f (fun y => m (ei.mpr y))] at e2
    refine ⟨P1, p1, 0, zUp Q c k 0, e1, a1, a2, by omega, Or.inl rfl, e2, fun K => ?_, ?_, zOq_r⟩
    · rw [zUp_s, if_pos rfl]
    · rw [x, yS_id hP.2.2.1]
      exact ⟨zQs_u hQ.1 hc hc2, hQ.2⟩
