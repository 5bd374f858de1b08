theorem s_deq_off (S : zMem) (p c : Nat) (h : c < 1 ∨ 4 ≤ c) : s_deq S p c = S c := by
  unfold s_deq
  rw [yPc_off (by omega), zUp_off (by omega)]
theorem s_free_off (S : zMem) (c : Nat) (h : c < 1 ∨ 4 ≤ c) : s_free S c = S c := by
  unfold s_free
  rw [zUp_off (by omega), zUp_off (by omega), zUp_off (by omega)]
theorem s_lv_off (S : zMem) (u : Int32) (c : Nat) (h : c < 1 ∨ 4 ≤ c) : s_lv S u c = S c := by
  unfold s_lv
  by_cases q : zFi (S 2) u (zIx (S 1 4)) 0 < zIx (S 1 4)
  · rw [if_pos q, s_deq_off _ _ _ h]
  · rw [if_neg q]
theorem s_drop_off (S : zMem) (u : Int32) (c : Nat) (h : c < 1 ∨ 4 ≤ c) : s_drop S u c = S c := by
  unfold s_drop
  by_cases q : S 1 5 = u
  · rw [if_pos q, s_free_off _ _ h, s_lv_off _ _ _ h]
  · rw [if_neg q, s_lv_off _ _ _ h]
theorem s_ask_off (S : zMem) (u : Int32) (c : Nat) (h : c < 1 ∨ 4 ≤ c) : s_ask S u c = S c := by
  unfold s_ask
  rw [zUp_off (by omega), zUp_off (by omega)]
theorem s_call_off (E S : zMem) (t : Int32) (c : Nat) (h : c < 1 ∨ 4 ≤ c) : s_call E S t c = S c := by
  unfold s_call
  rw [zUp_off (by omega), zUp_off (by omega), zUp_off (by omega), zUp_off (by omega), s_deq_off _ _ _ h]
theorem s_yield_off (S : zMem) (u : Int32) (c : Nat) (h : c < 1 ∨ 4 ≤ c) : s_yield S u c = S c := by
  unfold s_yield
  rw [zUp_off (by omega), zUp_off (by omega)]
theorem s_spend_off (S : zMem) (u : Int32) (c : Nat) (h : c < 1 ∨ 4 ≤ c) : s_spend S u c = S c := by
  unfold s_spend
  by_cases q : zMax 0 (S 1 6 - u) = 0
  · rw [if_pos q, s_free_off _ _ h, zUp_off (by omega)]
  · rw [if_neg q, zUp_off (by omega)]
theorem s_push_off (E S : zMem) (d : Nat) (m a b r : Int32) (c : Nat) (h : c < 4 ∨ 12 ≤ c) : s_push E S d m a b r c = S c := by
  unfold s_push
  simp (disch := omega) only [zUp_off]
theorem s_sec_off (S : zMem) (c : Nat) (h : c < 4 ∨ 12 ≤ c) : s_sec S c = S c := by
  unfold s_sec
  by_cases q : zIx (S 4 8) = 0
  · rw [if_pos q]
  · rw [if_neg q, zUp_off (by omega)]
theorem s_deb_off (S : zMem) (c : Nat) (h : c < 4 ∨ 12 ≤ c) : s_deb S c = S c := by
  unfold s_deb
  by_cases q : zIx (S 4 8) = 0
  · rw [if_pos q]
  · rw [if_neg q, zUp_off (by omega)]
theorem s_w1_off (S : zMem) (k : Nat) (r : Int32) (c : Nat) (h : 1 ≤ c) (h2 : c < 16) : s_w1 S k r c = S c := by
  unfold s_w1
  simp (disch := omega) only [zUp_off]
theorem s_w1_0 (S : zMem) (k : Nat) (r : Int32) (i : Nat) (h : i ≠ 9) : s_w1 S k r 0 i = S 0 i := by
  unfold s_w1
  rw [zUp_x h]
  simp (disch := omega) only [zUp_off]
theorem s_w1_9 (S : zMem) (k : Nat) (r : Int32) : s_w1 S k r 0 9 = nI (k + 1) := by
  unfold s_w1
  rw [zUp_s]
/-- what must hold that an act may be done -/
def zPf (k nq nm : Nat) (w m d a b : Int32) : Prop := (w = 2 → nq < 24) ∧ (w = 3 → 0 < nq) ∧ (w = 6 → nm < 8 ∧ zIn d 8) ∧ (w = 0 ∨ w = 1 ∨ w = 2 ∨ w = 3 ∨ w = 4 ∨ w = 5 ∨ w = 6 ∨ w = 7 ∨ 0 < nm)
theorem zWS_w1 {E S : zMem} {k nq nm e : Nat} (hw : zWS E S k nq nm e) (r : Int32) : zWF (s_w1 S k r) nq ∧ s_w1 S k r 4 8 = nI nm ∧ zWO (s_w1 S k r) e := by
  obtain ⟨hF, ⟨hm, hm8, hmk2⟩, ⟨hO, _⟩, h9⟩ := hw
  unfold zWF zWO
  rw [s_w1_off _ _ _ 1 (by omega) (by omega), s_w1_off _ _ _ 2 (by omega) (by omega), s_w1_off _ _ _ 4 (by omega) (by omega), s_w1_off _ _ _ 12 (by omega) (by omega), s_w1_off _ _ _ 13 (by omega) (by omega)]
  exact ⟨hF, hm, hO⟩
theorem k_do {o k : Nat} {S M E : zMem} {w m d a b r : Int32} (ho : 21 ≤ o) (hk : k < 300) {nq nm e : Nat} (hw : zWS E S k nq nm e) (hp : zPf k nq nm w m d a b) (h : zCS o (s_w1 S k r) M) (hE : zEv E M) (hl : zLg M k w m d a b) : ∃ M', f_X7_perform o (nI k) M = some (0, M') ∧ zCS o (s_do E (s_w1 S k r) k w m d a b) M' ∧ yFr o 20 M M' := by
  obtain ⟨hF, hm, hO⟩ := zWS_w1 hw r
  have h9 := s_w1_9 S k r
  have hs5 : ∀ i, s_w1 S k r 5 i = S 5 i := fun i => by rw [s_w1_off _ _ _ 5 (by omega) (by omega)]
  have hs7 : ∀ i, s_w1 S k r 7 i = S 7 i := fun i => by rw [s_w1_off _ _ _ 7 (by omega) (by omega)]
  obtain ⟨_, ⟨_, hm8, hmk2⟩, ⟨_, he20, _⟩, _⟩ := hw
  obtain ⟨l1, l2, l3, l4, l5⟩ := hl
  obtain ⟨p2, p3, p6, p8⟩ := hp
  generalize s_w1 S k r = S1 at *
  have hi : zIn (nI k) 300 := zIn_n hk (by omega)
  have e11 : M o 11 = S1 0 11 := zCS_0 h (by omega) (by omega)
  have e12 : M o 12 = S1 0 12 := zCS_0 h (by omega) (by omega)
  have e10 : M o 10 = S1 0 10 := zCS_0 h (by omega) (by omega)
  have hx : zIx (S1 4 8) = nm := by rw [hm, zIx_n (by omega)]
  rw [f_X7_perform, zCk_t hi, zCk_t hi, zIx_n (by omega), l1, l2, e11]
  unfold s_do
  by_cases q0 : w = 0
  · rw [if_pos q0, if_pos q0]
    exact ⟨_, rfl, zCS_u0 h 11 _ (by omega), yFr_u yFr_r (by omega) (by omega)⟩
  rw [if_neg q0, if_neg q0]
  by_cases q1 : w = 1
  · rw [if_pos q1, if_pos q1, zLt_eq]
    have g := zCS_u0 h 11 (S1 0 11 &&& ((1 <<< (m &&& 31)) ^^^ (-1))) (by omega)
    obtain ⟨M1, e1, a1, a2⟩ := k_drop g.2.1 (n := nq) (by rw [zUp_c (by omega)]; exact hF.1) hF.2.1 m
    exact ⟨M1, by rw [e1, zBd_some], zCS_F g a1 a2 (fun c hc => s_drop_off _ _ _ hc), yFr_t (yFr_u yFr_r (by omega) (by omega)) (yFr_m a2 (by omega) (by omega))⟩
  rw [if_neg q1, if_neg q1]
  by_cases q2 : w = 2
  · rw [if_pos q2, if_pos q2]
    obtain ⟨M1, e1, a1, a2⟩ := k_ask h.2.1 hF.1 (p2 q2) m
    exact ⟨M1, by rw [e1, zBd_some], zCS_F h a1 a2 (fun c hc => s_ask_off _ _ _ hc), yFr_m a2 (by omega) (by omega)⟩
  rw [if_neg q2, if_neg q2]
  by_cases q3 : w = 3
  · rw [if_pos q3, if_pos q3, e12]
    obtain ⟨M1, e1, a1, a2⟩ := k_call h.2.1 hE.2.2.2.2.2 hE.1 hF (p3 q3) (S1 0 12)
    have g := zCS_F h a1 a2 (fun c hc => s_call_off _ _ _ _ hc)
    obtain ⟨M2, e2, b1, b2⟩ := k_debTop g.2.2.1 (n := nm) (by rw [s_call_off _ _ _ _ (by omega)]; exact hm) hm8
    exact ⟨M2, by rw [e1, zBd_some, e2, zBd_some], zCS_M g b1 b2 (fun c hc => s_deb_off _ _ hc), yFr_t (yFr_m a2 (by omega) (by omega)) (yFr_m b2 (by omega) (by omega))⟩
  rw [if_neg q3, if_neg q3]
  by_cases q4 : w = 4
  · rw [if_pos q4, if_pos q4, zCk_t hi, l4, f_X7_letTicksGo, zLt_eq, zCS_0 h (by omega) (by omega)]
    have g := zCS_u0 h 14 (S1 0 14 + a) (by omega)
    obtain ⟨M1, e1, a1, a2⟩ := k_spend g.2.1 a
    have g2 := zCS_F g a1 a2 (fun c hc => s_spend_off _ _ _ hc)
    have e13 : M1 o 13 = S1 0 13 := by rw [zCS_0 g2 (by omega) (by omega), s_spend_off _ _ _ (by omega), zUp_x (by omega)]
    refine ⟨zUp M1 o 13 (zMax 0 (S1 0 13 - a)), by rw [e1, zBd_some, zLt_eq, e13, zBd_some], ?_, yFr_u (yFr_t (yFr_u yFr_r (by omega) (by omega)) (yFr_m a2 (by omega) (by omega))) (by omega) (by omega)⟩
    unfold s_ticks
    exact zCS_u0 g2 13 _ (by omega)
  rw [if_neg q4, if_neg q4]
  by_cases q5 : w = 5
  · rw [if_pos q5, if_pos q5]
    obtain ⟨M1, e1, a1, a2⟩ := k_yield h.2.1 m
    exact ⟨M1, by rw [e1, zBd_some], zCS_F h a1 a2 (fun c hc => s_yield_off _ _ _ hc), yFr_m a2 (by omega) (by omega)⟩
  rw [if_neg q5, if_neg q5]
  by_cases q6 : w = 6
  · obtain ⟨D, hD, eD⟩ := zIn_of (p6 q6).2
    subst eD
    rw [if_pos q6, if_pos q6, zCk_t hi, zCk_t hi, zCk_t hi, zIx_n (by omega), l3, l4, l5, e10]
    obtain ⟨M1, e1, a1, a2⟩ := k_push h.2.2.1 (by omega) hE.2.2.2.1 hE.2.2.2.2.1 hm (p6 q6).1 hD m a b (S1 0 10)
    exact ⟨M1, by rw [e1, zBd_some], zCS_M h a1 a2 (fun c hc => s_push_off _ _ _ _ _ _ _ _ hc), yFr_m a2 (by omega) (by omega)⟩
  rw [if_neg q6, if_neg q6]
  by_cases q7 : w = 7
  · rw [if_pos q7, if_pos q7]
    obtain ⟨M1, e1, a1, a2⟩ := k_secTop h.2.2.1 hm hm8
    exact ⟨M1, by rw [e1, zBd_some], zCS_M h a1 a2 (fun c hc => s_sec_off _ _ hc), yFr_m a2 (by omega) (by omega)⟩
  rw [if_neg q7, if_neg q7]
  have h0 : 0 < nm := by
    rcases p8 with x | x | x | x | x | x | x | x | x
    · exact absurd x q0
    · exact absurd x q1
    · exact absurd x q2
    · exact absurd x q3
    · exact absurd x q4
    · exact absurd x q5
    · exact absurd x q6
    · exact absurd x q7
    · exact x
  have hkd := (hmk2 (nm - 1) (by omega))
  have e5 : M (o + 5) (nm - 1) = S1 5 (nm - 1) := zCM_c h.2.2.1 1 (by omega) (by omega) (by omega)
  have hgo := fun c => k_votes (E := E) h hk h9 hm hm8 h0 (by rw [hs7]; exact hkd.2.2.1) hO (by omega) c
  unfold s_decide
  rw [hx, f_X7_decide, k_top h.2.2.1 hm hm8, zBd_some, if_neg (show ¬ nm = 0 by omega), if_neg (show ¬ nI (nm - 1) = -1 by rw [zd_e1 (by omega)]; exact fun x => x), k_isActNumber, zBd_some, yB_t hi, if_neg (show ¬ (1 : Int32) = 0 by decide), zCk_t (zIn_n (by omega) (by omega)), zCk_t hi, zCk_t hi, zCk_t hi, zCk_t hi, zIx_n (by omega), zIx_n (by omega), l1, l4, l5, e5]
  by_cases q9 : w = 9
  · rw [if_pos q9, if_pos q9]
    obtain ⟨M1, e1, a1, a2⟩ := hgo (a = 1)
    refine ⟨M1, ?_, a1, a2⟩
    by_cases c : a = 1
    · rw [zT_t c] at e1
      rw [if_pos c, e1, zBd_some]
    · rw [zT_f c] at e1
      rw [if_neg c, e1, zBd_some]
  · rw [if_neg q9, if_neg q9, k_carr hE (by rw [hs5]; exact hkd.1), zBd_some]
    obtain ⟨M1, e1, a1, a2⟩ := hgo (s_carr E (S1 5 (nm - 1)) a b)
    exact ⟨M1, by rw [e1, zBd_some], a1, a2⟩
theorem zEv_fr {E M M' : zMem} {o : Nat} (ho : 21 ≤ o) (h : zEv E M) (hf : yFr o 20 M M') : zEv E M' := by
  obtain ⟨h3, h4, h5, h6, h7, h14⟩ := h
  exact ⟨(hf 3 (by omega)).trans h3, (hf 4 (by omega)).trans h4, (hf 5 (by omega)).trans h5, (hf 6 (by omega)).trans h6, (hf 7 (by omega)).trans h7, (hf 14 (by omega)).trans h14⟩
theorem zLg_fr {M M' : zMem} {o k : Nat} {w m d a b : Int32} (ho : 21 ≤ o) (h : zLg M k w m d a b) (hf : yFr o 20 M M') : zLg M' k w m d a b := by
  obtain ⟨h3, h4, h5, h6, h7⟩ := h
  exact ⟨by rw [hf 16 (by omega), h3], by rw [hf 17 (by omega), h4], by rw [hf 18 (by omega), h5], by rw [hf 19 (by omega), h6], by rw [hf 20 (by omega), h7]⟩
/-- the work with the ruling given -/
theorem k_work56 {o k : Nat} {S M E : zMem} {w m d a b r u : Int32} (ho : 21 ≤ o) (hk : k < 300) {nq nm e : Nat} (hw : zWS E S k nq nm e) (hp : r = 0 → zPf k nq nm w m d a b) (h : zCS o S M) (hE : zEv E M) (hl : zLg M k w m d a b) : ∃ M', f_X7_work_B56 o (nI k) u r M = some (1, M') ∧ zCS o (s_step E S k w m d a b r) M' ∧ yFr o 20 M M' := by
  have hi : zIn (nI k) 300 := zIn_n hk (by omega)
  have g1 := zCS_w1 h hw.2.2.2 hk r
  have f1 : yFr o 20 M (zUp (zUp (zUp (zUp (zUp M (o + 16) k r) (o + 17) k (-1)) (o + 18) k 0) (o + 19) k 0) o 9 (nI (k + 1))) := yFr_u (yFr_u (yFr_u (yFr_u (yFr_u yFr_r (by omega) (by omega)) (by omega) (by omega)) (by omega) (by omega)) (by omega) (by omega)) (by omega) (by omega)
  rw [f_X7_work_B56, zCk_t hi, zLt_eq, zCk_t hi, zLt_eq, zCk_t hi, zLt_eq, zCk_t hi, zLt_eq, zLt_eq, zIx_n (by omega), nI_1]
  generalize zUp (zUp (zUp (zUp (zUp M (o + 16) k r) (o + 17) k (-1)) (o + 18) k 0) (o + 19) k 0) o 9 (nI (k + 1)) = M1 at *
  have hE1 := zEv_fr ho hE f1
  have hl1 := zLg_fr ho hl f1
  have l1 := hl1.1
  unfold s_step
  by_cases q0 : r = 0
  · rw [if_pos q0, zIf_t q0]
    obtain ⟨M2, e2, b1, b2⟩ := k_do ho hk hw (hp q0) g1 hE1 hl1
    exact ⟨M2, by rw [e2, zBd_some], b1, yFr_t f1 b2⟩
  rw [if_neg q0, zIf_f q0]
  by_cases q6 : r = 6
  · rw [if_pos q6, zCk_t hi, zCk_t hi, l1]
    by_cases w6 : w = 6
    · rw [if_pos w6, zIf_t ⟨q6, Or.inl w6⟩]
      exact ⟨_, rfl, zCS_u0 g1 10 _ (by omega), yFr_u f1 (by omega) (by omega)⟩
    rw [if_neg w6]
    by_cases w5 : w = 5
    · rw [if_pos w5, zIf_t ⟨q6, Or.inr w5⟩]
      exact ⟨_, rfl, zCS_u0 g1 10 _ (by omega), yFr_u f1 (by omega) (by omega)⟩
    · rw [if_neg w5, zIf_f (fun x => x.2.elim w6 w5)]
      exact ⟨M1, rfl, g1, f1⟩
  · rw [if_neg q6, zIf_f (fun x => q6 x.1)]
    exact ⟨M1, rfl, g1, f1⟩
/-- an act worked as it is ruled -/
theorem k_work0 {o k : Nat} {S M E : zMem} {w m d a b : Int32} (ho : 21 ≤ o) (hk : k < 300) {nq nm e : Nat} (hw : zWS E S k nq nm e) (hp : s_rule E S w m d a b = 0 → zPf k nq nm w m d a b) (h : zCS o S M) (hE : zEv E M) (hl : zLg M k w m d a b) : ∃ M', f_X7_work o (nI k) 0 M = some (1, M') ∧ zCS o (s_step E S k w m d a b (s_rule E S w m d a b)) M' ∧ yFr o 20 M M' := by
  rw [k_rule h hE hk hw hl, f_X7_work_B30, if_pos rfl]
  exact k_work56 ho hk hw hp h hE hl
/-- an act worked with its other ruling -/
theorem k_work1 {o k : Nat} {S M E : zMem} {w m d a b : Int32} (ho : 21 ≤ o) (hk : k < 300) {nq nm e : Nat} (hw : zWS E S k nq nm e) (hp : s_rule E S w m d a b ≠ 0 → s_oth E S w d (s_rule E S w m d a b) → zPf k nq nm w m d a b) (h : zCS o S M) (hE : zEv E M) (hl : zLg M k w m d a b) : (s_oth E S w d (s_rule E S w m d a b) → ∃ M', f_X7_work o (nI k) 1 M = some (1, M') ∧ zCS o (s_step E S k w m d a b (if s_rule E S w m d a b = 0 then 6 else 0)) M' ∧ yFr o 20 M M') ∧ (¬ s_oth E S w d (s_rule E S w m d a b) → f_X7_work o (nI k) 1 M = some (0, M)) := by
  rw [k_rule h hE hk hw hl, f_X7_work_B30, if_neg (by decide), k_oth h hE hk hw hl, zBd_some]
  refine ⟨fun q => ?_, fun q => by rw [zT_f q, if_pos rfl]⟩
  rw [zT_t q, if_neg (by decide)]
  unfold f_X7_work_B55
  by_cases c : s_rule E S w m d a b = 0
  · rw [if_pos c, if_pos c]
    exact k_work56 ho hk hw (fun x => absurd x (by decide)) h hE hl
  · rw [if_neg c, if_neg c]
    exact k_work56 ho hk hw (fun _ => hp c q) h hE hl
