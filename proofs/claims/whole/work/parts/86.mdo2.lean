theorem s_deq_4 (S : zMem) (p : Nat) : s_deq S p 1 4 = nI (zIx (S 1 4) - 1) := by
  unfold s_deq
  rw [yPc_c (by omega), zUp_s]
theorem s_deq_2 (S : zMem) (p i : Nat) : s_deq S p 2 i = if i < p then S 2 i else S 2 (i + 1) := by
  unfold s_deq
  rw [yPc_s]
theorem s_lv_3 (S : zMem) (u : Int32) (i : Nat) : s_lv S u 3 i = S 3 i := by
  unfold s_lv
  by_cases q : zFi (S 2) u (zIx (S 1 4)) 0 < zIx (S 1 4)
  · rw [if_pos q, s_deq_3]
  · rw [if_neg q]
theorem s_lv_1 (S : zMem) (u : Int32) (i : Nat) (h : i ≠ 4) : s_lv S u 1 i = S 1 i := by
  unfold s_lv
  by_cases q : zFi (S 2) u (zIx (S 1 4)) 0 < zIx (S 1 4)
  · rw [if_pos q, s_deq_1 _ _ _ h]
  · rw [if_neg q]
theorem g_leaves {S M : zMem} {n : Nat} (hw : zWF S n) (h31 : M 74 31 = S 1 4) (hq : ∀ i, i < n → M 109 i = S 2 i) (u : Int32) : ∃ M', f_X10_leaves u M = some (0, M') ∧ (∀ c i, (c ≠ 74 ∨ i ≠ 31) → c ≠ 109 → M' c i = M c i) ∧ M' 74 31 = s_lv S u 1 4 ∧ (∀ i, i < zIx (s_lv S u 1 4) → M' 109 i = s_lv S u 2 i) := by
  obtain ⟨hn, h24, hr, hd⟩ := hw
  have hx : zIx (S 1 4) = n := by rw [hn, zIx_n (by omega)]
  have hle := zFi_le (S 2) u n 0
  obtain ⟨M', e, a1, a2, a3⟩ := g_leaves_L (S := S) (u := u) h24 hd n 0 0 zFu M (by omega) (by unfold zFu; omega) (by rw [h31, hn]) (by rw [if_neg (by omega)]) (fun x hx => by omega) (fun x _ hx => hq x hx)
  refine ⟨M', e, a1, ?_, ?_⟩
  · unfold s_lv
    rw [hx, a2]
    by_cases q : zFi (S 2) u n 0 < n
    · rw [if_pos q, if_pos q, s_deq_4, hx]
    · rw [if_neg q, if_neg q, hn]
  · intro i hi
    unfold s_lv at hi ⊢
    rw [hx] at hi ⊢
    by_cases q : zFi (S 2) u n 0 < n
    · rw [if_pos q, s_deq_4, hx, zIx_n (by omega)] at hi
      rw [if_pos q, a3 i (by rw [if_pos q]; exact hi), s_deq_2]
    · rw [if_neg q, hx] at hi
      rw [if_neg q, a3 i (by rw [if_neg q]; exact hi), if_pos (by omega)]
theorem b_set (t : Int32) {m j : Nat} (hm : m < 24) (hj : j < 32) : bt (t ||| (1 <<< (nI m &&& 31))) j = (bt t j || decide (j = m)) := by
  rw [b_or, b_shl m (by omega) 1 hj, b_1]
  congr 1
  by_cases q : j = m
  · subst q
    simp
  · by_cases q2 : m ≤ j
    · simp [q, q2]
      omega
    · simp [q, q2]
theorem b_clr (t : Int32) {m j : Nat} (hm : m < 24) (hj : j < 32) : bt (t &&& ((1 <<< (nI m &&& 31)) ^^^ (-1))) j = (bt t j && !decide (j = m)) := by
  rw [b_and, b_xor, b_m1 j hj, b_shl m (by omega) 1 hj, b_1]
  by_cases q : j = m
  · subst q
    simp
  · by_cases q2 : m ≤ j
    · have : ¬ j - m = 0 := by omega
      simp [q, q2, this]
    · simp [q, q2]
/-- what must hold that an act may be done, whole -/
def zPg (E S : zMem) (nq nm : Nat) (w m d a b : Int32) : Prop := ((w = 0 ∨ w = 1 ∨ w = 2 ∨ w = 5) → zIn m 24) ∧ (w = 2 → ¬ zFi (S 2) m nq 0 < nq) ∧ (w = 3 → 0 < nq) ∧ (w = 4 → 1 ≤ a ∧ a ≤ 9999) ∧ (w = 5 → S 1 5 ≠ -1) ∧ (w = 6 → nm < 8 ∧ zIn m 24 ∧ zIn d 8 ∧ 0 < E 4 (zIx d) ∧ zIn a 1000 ∧ zIn b 1000) ∧ (w = 7 → 0 < nm) ∧ ((w = 8 ∨ w = 9) → 0 < nm ∧ S 0 13 = 0) ∧ (w = 8 → z24 a ∧ z24 b ∧ E 5 (zIx (S 5 (nm - 1))) ≠ 3)
/-- one more may ask: none waits twice, so there is room -/
theorem zWF_room {S : zMem} {n : Nat} {m : Int32} (hw : zWF S n) (hm : zIn m 24) (hno : ¬ zFi (S 2) m n 0 < n) : n < 24 := by
  obtain ⟨hn, h24, hr, hd⟩ := hw
  have hle := zFi_le (S 2) m n 0
  have := fb_holes 24 (n + 1) (fun i => if i < n then zIx (S 2 i) else zIx m) (fun i hi => by
    by_cases q : i < n
    · simp only [if_pos q]; exact zIx_lt (hr i q)
    · simp only [if_neg q]; exact zIx_lt hm) (fun i j hij hj => by
    have qi : i < n := by omega
    obtain ⟨a, ha, ea⟩ := zIn_of (hr i qi)
    simp only [if_pos qi]
    by_cases qj : j < n
    · simp only [if_pos qj]
      obtain ⟨b, hb, eb⟩ := zIn_of (hr j qj)
      have := hd i j hij qj
      rw [ea, eb] at this ⊢
      rw [zIx_n (by omega), zIx_n (by omega)]
      exact fun y => this (by rw [y])
    · simp only [if_neg qj]
      obtain ⟨b, hb, eb⟩ := zIn_of hm
      have := zFi_no (S 2) m n 0 i (by omega) (by omega)
      rw [ea, eb] at this
      rw [ea, eb, zIx_n (by omega), zIx_n (by omega)]
      exact fun y => this (by rw [y]))
  omega
theorem zPf_of {E S : zMem} {k nq nm : Nat} {w m d a b : Int32} (hF : zWF S nq) (h : zPg E S nq nm w m d a b) (hw : zIn w 10) : zPf k nq nm w m d a b := by
  obtain ⟨g1, g2, g3, g4, g5, g6, g7, g8, g9⟩ := h
  refine ⟨fun q => zWF_room hF (g1 (by rw [q]; decide)) (g2 q), g3, fun q => ⟨(g6 q).1, (g6 q).2.2.1⟩, ?_⟩
  obtain ⟨W, hW, eW⟩ := zIn_of hw
  rcases (by omega : W = 0 ∨ W = 1 ∨ W = 2 ∨ W = 3 ∨ W = 4 ∨ W = 5 ∨ W = 6 ∨ W = 7 ∨ W = 8 ∨ W = 9) with x | x | x | x | x | x | x | x | x | x
  · exact Or.inl (by rw [eW, x]; rfl)
  · exact Or.inr (Or.inl (by rw [eW, x]; rfl))
  · exact Or.inr (Or.inr (Or.inl (by rw [eW, x]; rfl)))
  · exact Or.inr (Or.inr (Or.inr (Or.inl (by rw [eW, x]; rfl))))
  · exact Or.inr (Or.inr (Or.inr (Or.inr (Or.inl (by rw [eW, x]; rfl)))))
  · exact Or.inr (Or.inr (Or.inr (Or.inr (Or.inr (Or.inl (by rw [eW, x]; rfl))))))
  · exact Or.inr (Or.inr (Or.inr (Or.inr (Or.inr (Or.inr (Or.inl (by rw [eW, x]; rfl)))))))
  · exact Or.inr (Or.inr (Or.inr (Or.inr (Or.inr (Or.inr (Or.inr (Or.inl (by rw [eW, x]; rfl))))))))
  · exact Or.inr (Or.inr (Or.inr (Or.inr (Or.inr (Or.inr (Or.inr (Or.inr (g8 (Or.inl (by rw [eW, x]; rfl))).1)))))))
  · exact Or.inr (Or.inr (Or.inr (Or.inr (Or.inr (Or.inr (Or.inr (Or.inr (g8 (Or.inr (by rw [eW, x]; rfl))).1)))))))
/-- act 0, one comes -/
theorem g_do0 {S M : zMem} {sd k e : Nat} {m : Int32} (hsd : sd < 2) (h : zMS S M sd k e) (hm : zIn m 24) : zMS (zUp S 0 11 (S 0 11 ||| (1 <<< (m &&& 31)))) (zUp M 108 (zIx m) 1) sd k e ∧ zFm M (zUp M 108 (zIx m) 1) := by
  obtain ⟨j, hj, ej⟩ := zIn_of hm
  subst ej
  rw [zIx_n (by omega)]
  obtain ⟨_, ⟨_, _, _, _, m34, m35, m36, m38, _⟩, _, h3, _⟩ := id h
  refine ⟨zMS_0 hsd h (fun c hc => zUp_off hc) (fun c _ hc => zUp_off hc) (fun i _ _ _ _ => zUp_c (by omega)) ⟨?_, ?_, ?_, ?_⟩ ?_, zFm_u zFm_r (by omega)⟩
  · rw [zUp_c (by omega), zUp_x (by omega), m34]
  · rw [zUp_c (by omega), zUp_x (by omega), m35]
  · rw [zUp_c (by omega), zUp_x (by omega), m36]
  · rw [zUp_c (by omega), zUp_x (by omega), m38]
  · intro i hi
    rw [zUp_s, yB_T, b_set _ hj (by omega), ← yB_T (p := (bt (S 0 11) i || decide (i = j)) = true)]
    by_cases q : i = j
    · subst q
      rw [zUp_s, yB_t (by simp)]
    · rw [zUp_x q, h3 i hi]
      exact yB_congr (by simp [q])
/-- act 1, one leaves -/
theorem g_do1 {S M : zMem} {sd k e n : Nat} {m : Int32} (hsd : sd < 2) (h : zMS S M sd k e) (hm : zIn m 24) (hF : zWF S n) : ∃ M', zCk (zIn m 24) (zLt (zUp M 108 (zIx m) 0) (fun M7 => zBd (f_X10_leaves m M7) (fun _ M10 => if M10 74 32 = m then zBd (f_X10_free M10) (fun _ M12 => some (0, M12)) else some (0, M10)))) = some (0, M') ∧ zMS (s_drop (zUp S 0 11 (S 0 11 &&& ((1 <<< (m &&& 31)) ^^^ (-1)))) m) M' sd k e ∧ zFm M M' := by
  obtain ⟨j, hj, ej⟩ := zIn_of hm
  subst ej
  have hx : zIx (S 1 4) = n := by rw [hF.1, zIx_n (by have := hF.2.1; omega)]
  have h1 : zMS (zUp S 0 11 (S 0 11 &&& ((1 <<< (nI j &&& 31)) ^^^ (-1)))) (zUp M 108 j 0) sd k e := by
    obtain ⟨_, ⟨_, _, _, _, m34, m35, m36, m38, _⟩, _, h3, _⟩ := id h
    refine zMS_0 hsd h (fun c hc => zUp_off hc) (fun c _ hc => zUp_off hc) (fun i _ _ _ _ => zUp_c (by omega)) ⟨?_, ?_, ?_, ?_⟩ ?_
    · rw [zUp_c (by omega), zUp_x (by omega), m34]
    · rw [zUp_c (by omega), zUp_x (by omega), m35]
    · rw [zUp_c (by omega), zUp_x (by omega), m36]
    · rw [zUp_c (by omega), zUp_x (by omega), m38]
    · intro i hi
      rw [zUp_s, yB_T, b_clr _ hj (by omega), ← yB_T (p := (bt (S 0 11) i && !decide (i = j)) = true)]
      by_cases q : i = j
      · subst q
        rw [zUp_s, yB_f (by simp)]
      · rw [zUp_x q, h3 i hi]
        exact yB_congr (by simp [q])
  rw [zCk_t hm, zLt_eq, zIx_n (by omega)]
  have hF1 : zWF (zUp S 0 11 (S 0 11 &&& ((1 <<< (nI j &&& 31)) ^^^ (-1)))) n := by
    unfold zWF
    rw [zUp_off (by omega), zUp_off (by omega)]
    exact hF
  generalize zUp S 0 11 (S 0 11 &&& ((1 <<< (nI j &&& 31)) ^^^ (-1))) = S1 at *
  have hx1 : zIx (S1 1 4) = n := by rw [hF1.1, zIx_n (by have := hF1.2.1; omega)]
  have f1 : zFm M (zUp M 108 j 0) := zFm_u zFm_r (by omega)
  generalize zUp M 108 j 0 = M1 at *
  obtain ⟨_, ⟨m31, m32, m33, m37, _⟩, hQ, _⟩ := id h1
  obtain ⟨M2, e2, a1, a2, a3⟩ := g_leaves hF1 m31 (fun i hi => hQ.1 i (by omega)) (nI j)
  have c32 : M2 74 32 = S1 1 5 := by rw [a1 74 32 (by omega) (by omega), m32]
  have h2 : zMS (s_lv S1 (nI j)) M2 sd k e := by
    refine zMS_F hsd h1 (fun c hc => s_lv_off _ _ _ hc) (fun c h3 h4 _ => by funext i; exact a1 c i (by omega) h4) (fun i b1 _ _ _ => a1 74 i (by omega) (by omega)) ⟨a2, ?_, ?_, ?_⟩ ⟨a3, ?_⟩
    · rw [c32, s_lv_1 _ _ _ (by omega)]
    · rw [a1 74 33 (by omega) (by omega), m33, s_lv_1 _ _ _ (by omega)]
    · rw [a1 74 37 (by omega) (by omega), m37, s_lv_1 _ _ _ (by omega)]
    · intro i hi
      rw [a1 110 i (by omega) (by omega), s_lv_3, hQ.2 i hi]
  have f2 : zFm M M2 := zFm_t f1 ⟨fun c hc => by funext i; exact a1 c i (by omega) (by omega), fun i hi => a1 74 i (by omega) (by omega)⟩
  rw [e2, zBd_some, c32]
  unfold s_drop
  by_cases q : S1 1 5 = nI j
  · rw [if_pos q, if_pos q]
    refine ⟨_, by rw [f_X10_free, zLt_eq, zLt_eq, zLt_eq, zBd_some], ?_, zFm_u (zFm_u (zFm_u f2 (by omega)) (by omega)) (by omega)⟩
    refine zMS_F hsd h2 (fun c hc => s_free_off _ _ hc) (fun c h3 _ _ => by rw [zUp_off h3, zUp_off h3, zUp_off h3]) (fun i _ b2 b3 b4 => by rw [zUp_x b4, zUp_x b3, zUp_x b2]) ?_ ?_
    · unfold s_free
      simp (disch := omega) only [zUp_x, zUp_s]
      exact ⟨a2, trivial, trivial, trivial⟩
    · unfold s_free
      refine ⟨fun i hi => ?_, fun i hi => ?_⟩
      · simp (disch := omega) only [zUp_x, zUp_c] at hi ⊢
        exact a3 i hi
      · simp (disch := omega) only [zUp_c]
        exact h2.2.2.1.2 i hi
  · rw [if_neg q, if_neg q]
    exact ⟨M2, rfl, h2, f2⟩
