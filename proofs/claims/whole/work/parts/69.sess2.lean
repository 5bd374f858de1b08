/-- the session as it must be, k acts worked: of the floor, of the motions, of the paper -/
def zWS (E S : zMem) (k nq nm e : Nat) : Prop := zWF S nq ∧ (S 4 8 = nI nm ∧ nm ≤ 8 ∧ (∀ i, i < nm → zIn (S 5 i) 8 ∧ 0 < E 4 (zIx (S 5 i)) ∧ zIn (S 7 i) 1000 ∧ zIn (S 8 i) 1000 ∧ (S 10 i = 0 ∨ S 10 i = 1) ∧ (S 11 i = 0 ∨ S 11 i = 1) ∧ (S 9 i = -1 ∨ zIn (S 9 i) k))) ∧ (zWO S e ∧ e ≤ 20 + k ∧ (S 12 3 = 0 ∨ S 12 3 = 1)) ∧ S 0 9 = nI k
theorem k_mayAp {o : Nat} {S M : zMem} (h : zCS o S M) {k : Nat} (hk : S 0 9 = nI k) (hk3 : k ≤ 300) : f_X7_mayAppeal o M = some (zT (s_wk S (S 0 10) ∧ S 19 (zIx (S 0 10)) = 0), M) := by
  have e10 : M o 10 = S 0 10 := zCS_0 h (by omega) (by omega)
  rw [f_X7_mayAppeal, e10, k_wk h, zBd_some, e10]
  by_cases q : s_wk S (S 0 10)
  · have q0 := q
    obtain ⟨q1, q2⟩ := q
    obtain ⟨j, hj, ej⟩ := zIn_of q1
    have hjk : j < k := by
      rw [ej, hk] at q2
      exact (nI_ltI (by omega) (by omega)).mp q2
    have hx : zIx (S 0 9) = k := by rw [hk, zIx_n (by omega)]
    rw [zT_t q0, if_neg (by decide), zCk_t q1, zCS_a h 19 (by omega) (by omega) (by rw [hx, ej, zIx_n (by omega)]; exact hjk)]
    by_cases q3 : S 19 (zIx (S 0 10)) = 0
    · rw [if_pos q3, zT_t ⟨q0, q3⟩]
    · rw [if_neg q3, zT_f (fun x => q3 x.2)]
  · rw [zT_f q, if_pos rfl, zT_f (fun x => q x.1)]
theorem k_mmk {o : Nat} {S M E : zMem} (h : zCS o S M) {k nq nm e : Nat} (hw : zWS E S k nq nm e) {A : Nat} (hA : A < 1000) (d : Int32) : f_X7_mayMoveKind o d (nI A) M = some (zT (s_mmk S d (nI A)), M) := by
  obtain ⟨_, ⟨hm, hm8, _⟩, ⟨hO, _, hl⟩, _⟩ := hw
  have h3 : M (o + 12) 3 = S 12 3 := zCP_0 h.2.2.2.1 (by omega) (by omega)
  have h8 : M (o + 4) 8 = S 4 8 := zCM_8 h.2.2.1
  have hx : zIx (S 4 8) = nm := by rw [hm, zIx_n (by omega)]
  obtain ⟨r, er, r01, r1⟩ := k_mayAm h.2.2.2.1 hO hA
  rw [f_X7_mayMoveKind, h3, h8]
  unfold s_mmk
  by_cases q0 : d = 0
  · rw [if_pos q0, if_pos q0]
    by_cases c1 : S 12 3 = 0
    · rw [if_pos c1]
      by_cases c2 : nI A < 1
      · rw [if_pos c2, zT_f (fun x => Int32.not_le.mpr c2 x.2.1)]
      rw [if_neg c2]
      by_cases c3 : 20 < nI A
      · rw [if_pos c3, zT_f (fun x => Int32.not_le.mpr c3 x.2.2)]
      · rw [if_neg c3, zT_t ⟨c1, Int32.not_lt.mp c2, Int32.not_lt.mp c3⟩]
    · rw [if_neg c1, zT_f (fun x => c1 x.1)]
  rw [if_neg q0, if_neg q0]
  by_cases q1 : d = 1
  · rw [if_pos q1, if_pos q1]
    by_cases c1 : S 12 3 = 0
    · rw [if_pos c1, zT_f (fun x => x.1 c1)]
    · rw [if_neg c1, er, zBd_some, zIx_n (by omega)]
      by_cases c2 : s_mayAm S A
      · rw [r1.mpr c2, if_neg (by decide), zT_t ⟨c1, c2⟩]
      · rw [zT_f (fun x => c2 x.2)]
        by_cases c3 : r = 0
        · rw [if_pos c3]
        · exact absurd (r1.mp (r01.elim (fun y => absurd y c3) id)) c2
  rw [if_neg q1, if_neg q1]
  by_cases q2 : d = 2
  · rw [if_pos q2, if_pos q2]
    by_cases c1 : S 12 3 = 0
    · rw [if_pos c1, zT_f (fun x => x.1 c1)]
    rw [if_neg c1, hx, hm]
    by_cases c2 : nm = 0
    · rw [c2, zT_f (by simp)]
      rfl
    · rw [zT_t ⟨c1, by omega⟩]
      simp (disch := omega) only [zl_2, zl_3, zl_4, zl_5, zl_6, zl_7, zl_8, zl_12, zl_20, zl_24, zl_28, zl_40, zl_60, zl_300, zl_320, zl_400, zl_600, zd_lt0, zd_l0n, zd_l0y, zd_0lt, zd_1lt, zd_1lty, zd_e0n, zd_e0y, zd_e1n, zd_e1y, zd_nn, zd_ny, zd_mn, zd_my, zd_en, zd_ey, zd_e1, zd_in, zCk_T, zIx_n, nI_1, nI_add, zd_sub, zd_dec, if_true, if_false, ite_true, ite_false]
  rw [if_neg q2, if_neg q2]
  by_cases q3 : d = 3
  · rw [if_pos q3, if_pos q3]
    by_cases c1 : nI A ≤ 0
    · rw [if_pos c1, zT_f (fun x => Int32.not_lt.mpr c1 x)]
    · rw [if_neg c1, zT_t (Int32.not_le.mp c1)]
  rw [if_neg q3, if_neg q3]
  by_cases q4 : d = 4
  · rw [if_pos q4, if_pos q4, zCk_t hl]
    rcases hl with c | c
    · rw [c, zT_f (by simp)]
    · rw [c, zT_t (by decide)]
  rw [if_neg q4, if_neg q4]
  by_cases q5 : d = 5
  · rw [if_pos q5, if_pos q5]
    by_cases c1 : nI A ≤ 0
    · rw [if_pos c1, zT_f (fun x => Int32.not_lt.mpr c1 x)]
    · rw [if_neg c1, zT_t (Int32.not_le.mp c1)]
  · rw [if_neg q5, if_neg q5, zT_t trivial]
theorem k_mv {o k : Nat} {S M E : zMem} {w m d a b : Int32} (h : zCS o S M) (hE : zEv E M) (hk : k < 300) {nq nm e : Nat} (hw : zWS E S k nq nm e) (hl : zLg M k w m d a b) {A : Nat} (hA : A < 1000) (ha : a = nI A) : f_X7_mayMove o (nI k) M = some (zT (s_mv E S m d a), M) := by
  obtain ⟨l1, l2, l3, l4, l5⟩ := hl
  subst ha
  have hmk := fun d => k_mmk h hw hA d
  obtain ⟨_, ⟨hm, hm8, hmk2⟩, _, h9⟩ := hw
  have hx : zIx (S 4 8) = nm := by rw [hm, zIx_n (by omega)]
  have hi : zIn (nI k) 300 := zIn_n hk (by omega)
  have h5 : M (o + 1) 5 = S 1 5 := zCF_1 h.2.1 (by omega) (by omega)
  rw [f_X7_mayMove, zCk_t hi, zIx_n (by omega), l3, k_lets, zBd_some, show M (3 + 1) = E 4 from hE.2.1]
  unfold s_mv
  rw [hx]
  by_cases q : zIn d 8 ∧ 0 < E 4 (zIx d)
  · obtain ⟨D, hD, eD⟩ := zIn_of q.1
    rw [yB_t q, if_neg (by decide), k_full h.2.2.1 hm hm8, zBd_some]
    by_cases q8 : 8 ≤ nm
    · rw [yB_t q8, if_neg (by decide), zT_f (fun x => by omega)]
    rw [yB_f q8, if_pos rfl]
    by_cases q7 : d = 7
    · rw [if_pos q7, if_pos q7, k_has h.2.2.1 hm hm8, zBd_some]
      by_cases c1 : zFi (S 5) 7 nm 0 < nm
      · rw [yB_t c1, if_neg (by decide), zT_f (fun x => x.2.2.1 c1)]
      rw [yB_f c1, if_pos rfl, k_mayAp h h9 (by omega), zBd_some]
      by_cases c2 : s_wk S (S 0 10) ∧ S 19 (zIx (S 0 10)) = 0
      · rw [zT_t c2, if_neg (by decide), zT_t ⟨q, by omega, c1, c2⟩]
      · rw [zT_f c2, if_pos rfl, zT_f (fun x => c2 x.2.2.2)]
    · rw [if_neg q7, if_neg q7, h5]
      have hB : f_X7_mayMove_B96 o (nI k) d M = some (zT ((nm = 0 ∨ E 4 (zIx (S 5 (nm - 1))) < E 4 (zIx d)) ∧ s_mmk S d (nI A)), M) := by
        rw [f_X7_mayMove_B96, eD, k_outr h.2.2.1 hE.2.1 hm hm8 (fun i hi => (hmk2 i hi).1) hD, zBd_some, show zIx (nI D) = D from zIx_n (by omega)]
        by_cases c3 : nm = 0 ∨ E 4 (zIx (S 5 (nm - 1))) < E 4 D
        · rw [yB_t c3, if_neg (by decide), zCk_t hi, zIx_n (by omega), l4, hmk, zBd_some]
          by_cases c4 : s_mmk S (nI D) (nI A)
          · rw [zT_t c4, if_neg (by decide), zT_t ⟨c3, c4⟩]
          · rw [zT_f c4, if_pos rfl, zT_f (fun x => c4 x.2)]
        · rw [yB_f c3, if_pos rfl, zT_f (fun x => c3 x.1)]
      rw [hB, l2, zCk_t hi]
      by_cases c1 : S 1 5 = -1
      · rw [if_pos c1, zT_congr]
        exact ⟨fun x => ⟨q, by omega, Or.inl c1, x⟩, fun x => x.2.2.2⟩
      rw [if_neg c1]
      by_cases c2 : S 1 5 = m
      · rw [if_pos c2, zT_congr]
        exact ⟨fun x => ⟨q, by omega, Or.inr c2, x⟩, fun x => x.2.2.2⟩
      · rw [if_neg c2, zT_f (fun x => x.2.2.1.elim c1 c2)]
  · rw [yB_f q, if_pos rfl, zT_f (fun x => q x.1)]
theorem k_ord {o k : Nat} {S M E : zMem} {w m d a b : Int32} (h : zCS o S M) (hE : zEv E M) (hk : k < 300) {nq nm e : Nat} (hw : zWS E S k nq nm e) (hl : zLg M k w m d a b) (hA : w = 6 → ∃ A, A < 1000 ∧ a = nI A) : f_X7_isInOrder o (nI k) M = some (zT (s_ord E S w m d a), M) := by
  have hl0 := hl
  obtain ⟨l1, l2, l3, l4, l5⟩ := hl
  have hw0 := hw
  obtain ⟨hF, ⟨hm, hm8, hmk2⟩, _, h9⟩ := hw
  have hx : zIx (S 4 8) = nm := by rw [hm, zIx_n (by omega)]
  have hq : zIx (S 1 4) = nq := by rw [hF.1, zIx_n (by have := hF.2.1; omega)]
  have hi : zIn (nI k) 300 := zIn_n hk (by omega)
  have h4 : M (o + 1) 4 = S 1 4 := zCF_1 h.2.1 (by omega) (by omega)
  have h5 : M (o + 1) 5 = S 1 5 := zCF_1 h.2.1 (by omega) (by omega)
  rw [f_X7_isInOrder, zCk_t hi, zCk_t hi, zIx_n (by omega), l1, l2, h4, h5]
  unfold s_ord s_dec
  rw [hx, hq]
  by_cases q2 : w = 2
  · rw [if_pos q2, if_pos q2, k_mayAsk h.2.1 hF.1 hF.2.1, zBd_some, yB_T]
  rw [if_neg q2, if_neg q2]
  by_cases q3 : w = 3
  · rw [if_pos q3, if_pos q3, hF.1]
    by_cases c1 : nq = 0
    · rw [c1, zT_f (fun x => by have := x.1; omega)]
      rfl
    · have := hF.2.1
      simp (disch := omega) only [zl_2, zl_3, zl_4, zl_5, zl_6, zl_7, zl_8, zl_12, zl_20, zl_24, zl_28, zl_40, zl_60, zl_300, zl_320, zl_400, zl_600, zd_lt0, zd_l0n, zd_l0y, zd_0lt, zd_1lt, zd_1lty, zd_e0n, zd_e0y, zd_e1n, zd_e1y, zd_nn, zd_ny, zd_mn, zd_my, zd_en, zd_ey, zd_e1, zd_in, zCk_T, zIx_n, nI_1, nI_add, zd_sub, zd_dec, if_true, if_false, ite_true, ite_false]
      by_cases c2 : S 1 5 = -1
      · rw [if_pos c2, zT_t ⟨by omega, c2⟩]
      · rw [if_neg c2, zT_f (fun x => c2 x.2)]
  rw [if_neg q3, if_neg q3]
  by_cases q4 : w = 4
  · rw [if_pos q4, if_pos q4, zT_t trivial]
  rw [if_neg q4, if_neg q4]
  by_cases q5 : w = 5
  · rw [if_pos q5, if_pos q5, k_mayYield h.2.1 hE.1, zBd_some, yB_T]
  rw [if_neg q5, if_neg q5]
  by_cases q6 : w = 6
  · obtain ⟨A, hA1, hA2⟩ := hA q6
    rw [if_pos q6, if_pos q6, k_mv h hE hk hw0 hl0 hA1 hA2, zBd_some]
  rw [if_neg q6, if_neg q6]
  by_cases q7 : w = 7
  · rw [if_pos q7, if_pos q7, k_maySec h.2.2.1 hm hm8, zBd_some, yB_T]
  rw [if_neg q7, if_neg q7]
  by_cases q8 : w = 8
  · rw [if_pos q8, if_pos q8, k_mayDec h.2.2.1 hE.2.2.1 hm hm8 (fun i hi => (hmk2 i hi).1), zBd_some, yB_T]
  rw [if_neg q8, if_neg q8]
  by_cases q9 : w = 9
  · rw [if_pos q9, if_pos q9, k_mayDec h.2.2.1 hE.2.2.1 hm hm8 (fun i hi => (hmk2 i hi).1), zBd_some, yB_T]
  · rw [if_neg q9, if_neg q9, zT_t trivial]
theorem s_told6 {S : zMem} {m d a b : Int32} (h : s_told S 6 m d a b) : zIn m 24 ∧ zIn d 8 ∧ zIn a 1000 ∧ zIn b 1000 := by
  unfold s_told at h
  rw [if_neg (by decide), if_neg (by decide), if_pos rfl] at h
  have e0 : (0 : Int32).toInt = 0 := by decide +kernel
  have e9 : (999 : Int32).toInt = 999 := by decide +kernel
  refine ⟨h.1, h.2.1, ⟨?_, ?_⟩, ⟨?_, ?_⟩⟩
  · have := Int32.le_iff_toInt_le.mp h.2.2.1.1; omega
  · have := Int32.le_iff_toInt_le.mp h.2.2.1.2; omega
  · have := Int32.le_iff_toInt_le.mp h.2.2.2.1; omega
  · have := Int32.le_iff_toInt_le.mp h.2.2.2.2; omega
/-- the ruling, as the work's tree comes to it -/
theorem k_rule {o k : Nat} {S M E : zMem} {w m d a b : Int32} (h : zCS o S M) (hE : zEv E M) (hk : k < 300) {nq nm e : Nat} (hw : zWS E S k nq nm e) (hl : zLg M k w m d a b) (u : Int32) : f_X7_work o (nI k) u M = f_X7_work_B30 o (nI k) u (s_rule E S w m d a b) M := by
  have hl0 := hl
  obtain ⟨l1, l2, l3, l4, l5⟩ := hl
  have hi : zIn (nI k) 300 := zIn_n hk (by omega)
  have e11 : M o 11 = S 0 11 := zCS_0 h (by omega) (by omega)
  have e13 : M o 13 = S 0 13 := zCS_0 h (by omega) (by omega)
  have e15 : M o 15 = S 0 15 := zCS_0 h (by omega) (by omega)
  rw [f_X7_work, k_isActNumber, zBd_some, yB_t hi, if_neg (by decide), f_X7_refusalAtLarge, zCk_t hi, k_told h hk hl0, zBd_some, zIx_n (by omega), l1]
  unfold s_rule
  by_cases q1 : s_told S w m d a b
  · rw [zIf_f (fun x => x q1), zT_t q1, if_neg (show ¬ (1 : Int32) = 0 by decide)]
    have hord := k_ord h hE hk hw hl0 (fun e6 => by
      subst e6
      exact zIn_of (s_told6 q1).2.2.1)
    -- all that follows once nobody is wanting
    have hrest : zBd (f_X7_refusalAtLarge_B54 o (nI k) w M) (fun r3 M4 => if r3 = 0 then zBd (f_X7_isInOrder o (nI k) M4) (fun r5 M6 => if r5 = 0 then f_X7_work_B30 o (nI k) u 6 M6 else f_X7_work_B30 o (nI k) u r3 M6) else f_X7_work_B30 o (nI k) u r3 M4) = f_X7_work_B30 o (nI k) u (zIf (w = 0 ∨ w = 1) 0 (zIf (S 0 15 ≠ 0) 3 (zIf (zBc (S 0 11) < E 3 5) 4 (zIf (0 < S 0 13 ∧ w ≠ 4) 5 (zIf (s_ord E S w m d a) 0 6))))) M := by
      rw [f_X7_refusalAtLarge_B54, e15, e11, k_bc, zBd_some, hE.1, e13]
      by_cases c0 : w = 0
      · rw [if_pos c0, zBd_some, if_pos rfl, hord, zBd_some, zIf_t (Or.inl c0)]
        have : s_ord E S w m d a := by subst c0; unfold s_ord; simp only [if_neg (show ¬ (0 : Int32) = 2 by decide), if_neg (show ¬ (0 : Int32) = 3 by decide), if_neg (show ¬ (0 : Int32) = 4 by decide), if_neg (show ¬ (0 : Int32) = 5 by decide), if_neg (show ¬ (0 : Int32) = 6 by decide), if_neg (show ¬ (0 : Int32) = 7 by decide), if_neg (show ¬ (0 : Int32) = 8 by decide), if_neg (show ¬ (0 : Int32) = 9 by decide)]
        rw [zT_t this, if_neg (show ¬ (1 : Int32) = 0 by decide)]
      rw [if_neg c0]
      by_cases c1 : w = 1
      · rw [if_pos c1, zBd_some, if_pos rfl, hord, zBd_some, zIf_t (Or.inr c1)]
        have : s_ord E S w m d a := by subst c1; unfold s_ord; simp only [if_neg (show ¬ (1 : Int32) = 2 by decide), if_neg (show ¬ (1 : Int32) = 3 by decide), if_neg (show ¬ (1 : Int32) = 4 by decide), if_neg (show ¬ (1 : Int32) = 5 by decide), if_neg (show ¬ (1 : Int32) = 6 by decide), if_neg (show ¬ (1 : Int32) = 7 by decide), if_neg (show ¬ (1 : Int32) = 8 by decide), if_neg (show ¬ (1 : Int32) = 9 by decide)]
        rw [zT_t this, if_neg (show ¬ (1 : Int32) = 0 by decide)]
      rw [if_neg c1, zIf_f (fun x => x.elim c0 c1)]
      by_cases c2 : S 0 15 = 0
      · rw [if_pos c2, zIf_f (fun x => x c2)]
        by_cases c3 : E 3 5 ≤ zBc (S 0 11)
        · rw [if_pos c3, zIf_f (fun x => Int32.not_lt.mpr c3 x)]
          have hgo : zBd (some ((0 : Int32), M)) (fun r3 M4 => if r3 = 0 then zBd (f_X7_isInOrder o (nI k) M4) (fun r5 M6 => if r5 = 0 then f_X7_work_B30 o (nI k) u 6 M6 else f_X7_work_B30 o (nI k) u r3 M6) else f_X7_work_B30 o (nI k) u r3 M4) = f_X7_work_B30 o (nI k) u (zIf (s_ord E S w m d a) 0 6) M := by
            rw [zBd_some, if_pos rfl, hord, zBd_some]
            by_cases c6 : s_ord E S w m d a
            · rw [zT_t c6, zIf_t c6, if_neg (show ¬ (1 : Int32) = 0 by decide)]
            · rw [zT_f c6, zIf_f c6, if_pos rfl]
          by_cases c4 : S 0 13 ≤ 0
          · rw [if_pos c4, zIf_f (fun x => Int32.not_lt.mpr c4 x.1)]
            exact hgo
          rw [if_neg c4]
          by_cases c5 : w = 4
          · rw [if_pos c5, zIf_f (fun x => x.2 c5)]
            exact hgo
          · rw [if_neg c5, zIf_t ⟨Int32.not_le.mp c4, c5⟩, zBd_some, if_neg (by decide)]
        · rw [if_neg c3, zIf_t (Int32.not_le.mp c3), zBd_some, if_neg (by decide)]
      · rw [if_neg c2, zIf_t c2, zBd_some, if_neg (by decide)]
    rw [k_ofm, zBd_some]
    by_cases q2 : s_ofm w
    · rw [zT_t q2, if_neg (show ¬ (1 : Int32) = 0 by decide), zCk_t hi, l2, k_sin h, zBd_some]
      unfold f_X7_refusalAtLarge_B49
      by_cases q3 : zT (s_in S m) = zT (w = 0)
      · rw [zIf_t ⟨q2, q3⟩]
        by_cases q4 : w = 0
        · rw [if_pos q4, if_pos (by rw [q3, zT_t q4]), zBd_some, if_neg (by decide)]
        · rw [if_neg q4, if_pos (by rw [q3, zT_f q4]), zBd_some, if_neg (by decide)]
      · rw [zIf_f (fun x => q3 x.2)]
        by_cases q4 : w = 0
        · rw [if_pos q4, if_neg (by rw [← zT_t q4]; exact q3)]
          exact hrest
        · rw [if_neg q4, if_neg (by rw [← zT_f q4]; exact q3)]
          exact hrest
    · rw [zT_f q2, if_pos rfl, zIf_f (fun x => q2 x.1)]
      exact hrest
  · rw [zIf_t q1, zT_f q1, if_pos rfl, zBd_some, if_neg (by decide)]
