theorem zCS_w1 {o k : Nat} {S M : zMem} (h : zCS o S M) (hk : S 0 9 = nI k) (hk3 : k < 300) (r : Int32) : zCS o (s_w1 S k r) (zUp (zUp (zUp (zUp (zUp M (o + 16) k r) (o + 17) k (-1)) (o + 18) k 0) (o + 19) k 0) o 9 (nI (k + 1))) := by
  have hx : zIx (S 0 9) = k := by rw [hk, zIx_n (by omega)]
  unfold s_w1
  refine zCS_w ?_ ?_ (zCF_fr h.2.1 (fun j hj => by simp (disch := omega) only [zUp_off]) (fun c h1 h2 => by simp (disch := omega) only [zUp_off])) (zCM_fr h.2.2.1 (fun j hj => by simp (disch := omega) only [zUp_off]) (fun c h1 h2 => by simp (disch := omega) only [zUp_off])) (zCP_fr h.2.2.2.1 (fun j hj => by simp (disch := omega) only [zUp_off]) (fun c h1 h2 => by simp (disch := omega) only [zUp_off]))
  · intro i h1 h2
    by_cases q : i = 9
    · subst q; rw [zUp_s, zUp_s]
    · rw [zUp_x q, zUp_x q]
      simp (disch := omega) only [zUp_off]
      exact zCS_0 h h1 h2
  · intro j i h1 h2 hi
    rw [zUp_s, zIx_n (by omega)] at hi
    by_cases q : i = k
    · subst q
      rcases (by omega : j = 16 ∨ j = 17 ∨ j = 18 ∨ j = 19) with e | e | e | e <;> (subst e; simp (disch := omega) only [zUp_s, zUp_c])
    · have hg : zUp (zUp (zUp (zUp (zUp M (o + 16) k r) (o + 17) k (-1)) (o + 18) k 0) (o + 19) k 0) o 9 (nI (k + 1)) (o + j) i = M (o + j) i := by simp (disch := omega) only [zUp_x, zUp_c]
      have hg2 : zUp (zUp (zUp (zUp (zUp S 16 k r) 17 k (-1)) 18 k 0) 19 k 0) 0 9 (nI (k + 1)) j i = S j i := by simp (disch := omega) only [zUp_x, zUp_c]
      rw [hg, hg2]
      exact zCS_a h j h1 h2 (by omega)
theorem k_oth {o k : Nat} {S M E : zMem} {w m d a b : Int32} (h : zCS o S M) (hE : zEv E M) (hk : k < 300) {nq nm e : Nat} (hw : zWS E S k nq nm e) (hl : zLg M k w m d a b) (r : Int32) : f_X7_hasOther o (nI k) r M = some (zT (s_oth E S w d r), M) := by
  obtain ⟨l1, l2, l3, l4, l5⟩ := hl
  obtain ⟨_, ⟨hm, hm8, hmk2⟩, _, h9⟩ := hw
  have hx : zIx (S 4 8) = nm := by rw [hm, zIx_n (by omega)]
  have hi : zIn (nI k) 300 := zIn_n hk (by omega)
  have h5 : M (o + 1) 5 = S 1 5 := zCF_1 h.2.1 (by omega) (by omega)
  rw [f_X7_hasOther, zCk_t hi, zCk_t hi, zCk_t hi, zIx_n (by omega), l1, l3, h5, k_lets, zBd_some, show M (3 + 1) = E 4 from hE.2.1]
  unfold s_oth
  rw [hx]
  by_cases q0 : r = 0
  · rw [if_pos q0, zT_t (Or.inl q0)]
  rw [if_neg q0]
  by_cases q6 : r = 6
  · rw [if_pos q6]
    by_cases w6 : w = 6
    · rw [if_pos w6]
      by_cases c1 : zIn d 8 ∧ 0 < E 4 (zIx d)
      · rw [yB_t c1, if_neg (by decide), k_full h.2.2.1 hm hm8, zBd_some]
        by_cases c2 : 8 ≤ nm
        · rw [yB_t c2, if_neg (by decide), zT_f]
          rintro (x | ⟨_, x | x⟩)
          · exact q0 x
          · omega
          · rw [w6] at x; exact absurd x.1 (by decide)
        · rw [yB_f c2, if_pos rfl, zT_t (Or.inr ⟨q6, Or.inl ⟨w6, c1, by omega⟩⟩)]
      · rw [yB_f c1, if_pos rfl, zT_f]
        rintro (x | ⟨_, x | x⟩)
        · exact q0 x
        · exact c1 x.2.1
        · rw [w6] at x; exact absurd x.1 (by decide)
    · rw [if_neg w6]
      by_cases w5 : w = 5
      · rw [if_pos w5]
        by_cases c1 : S 1 5 = -1
        · rw [if_pos c1, zT_f]
          rintro (x | ⟨_, x | x⟩)
          · exact q0 x
          · exact w6 x.1
          · exact x.2 c1
        · rw [if_neg c1, zT_t (Or.inr ⟨q6, Or.inr ⟨w5, c1⟩⟩)]
      · rw [if_neg w5, zT_f]
        rintro (x | ⟨_, x | x⟩)
        · exact q0 x
        · exact w6 x.1
        · exact w5 x.1
  · rw [if_neg q6, zT_f]
    rintro (x | ⟨x, _⟩)
    · exact q0 x
    · exact q6 x
theorem k_carr {o : Nat} {M E : zMem} (hE : zEv E M) {kd a b : Int32} (hk : zIn kd 8) : f_X7_isCarried o kd a b M = some (zT (s_carr E kd a b), M) := by
  rw [f_X7_isCarried, k_bc, zBd_some, k_bc, zBd_some, k_isKind, zBd_some, yB_t hk, if_neg (by decide), zCk_t hk, show M (3 + 2) = E 5 from hE.2.2.1, f_X7_isCarried_B35]
  unfold s_carr
  by_cases q0 : E 5 (zIx kd) = 0
  · rw [if_pos q0, if_pos q0]
    by_cases c : 2 * zBc a ≤ zBc a + zBc b
    · rw [if_pos c, zT_f (fun x => x c)]
    · rw [if_neg c, zT_t c]
  rw [if_neg q0, if_neg q0]
  by_cases q1 : E 5 (zIx kd) = 1
  · rw [if_pos q1, if_pos q1]
    by_cases c : 3 * zBc a < 2 * (zBc a + zBc b)
    · rw [if_pos c, zT_f (fun x => x.1 c)]
    rw [if_neg c]
    by_cases c2 : zBc a ≤ 0
    · rw [if_pos c2, zT_f (fun x => x.2 c2)]
    · rw [if_neg c2, zT_t ⟨c, c2⟩]
  rw [if_neg q1, if_neg q1]
  by_cases q2 : E 5 (zIx kd) = 2
  · rw [if_pos q2, if_pos q2]
    by_cases c : 4 * zBc a ≤ zBc a + zBc b
    · rw [if_pos c, zT_f (fun x => x c)]
    · rw [if_neg c, zT_t c]
  · rw [if_neg q2, if_neg q2, zT_f (fun x => x)]
theorem k_settle {o k : Nat} {S M : zMem} (h : zCS o S M) (hk : S 0 9 = nI k) (hk3 : k ≤ 300) (u : Int32) (c : Prop) : ∃ M', f_X7_settleAppeal o u (zT c) M = some (0, M') ∧ zCS o (s_settle S u c) M' ∧ yFr o 20 M M' := by
  have hx : zIx (S 0 9) = k := by rw [hk, zIx_n (by omega)]
  rw [f_X7_settleAppeal, k_wk h, zBd_some]
  unfold s_settle
  by_cases q : s_wk S u
  · obtain ⟨j, hj, ej⟩ := zIn_of q.1
    have hjk : j < k := by
      have q2 := q.2
      rw [ej, hk] at q2
      exact (nI_ltI (by omega) (by omega)).mp q2
    rw [zT_t q, if_neg (by decide), zIf_t q, zCk_t q.1, zLt_eq, zCk_t q.1, zUp_c (by omega), zCS_a h 18 (by omega) (by omega) (by rw [hx, ej, zIx_n (by omega)]; exact hjk)]
    have hfin : ∀ v, ∃ M', zCk (zIn u 300) (zLt (zUp (zUp M (o + 19) (zIx u) 1) (o + 18) (zIx u) v) (fun M6 => some (0, M6))) = some (0, M') ∧ zCS o (zUp (zUp S 19 (zIx u) 1) 18 (zIx u) v) M' ∧ yFr o 20 M M' := fun v =>
      ⟨_, by rw [zCk_t q.1, zLt_eq], zCS_ua (zCS_ua h 19 _ _ (by omega) (by omega)) 18 _ _ (by omega) (by omega), yFr_u (yFr_u yFr_r (by omega) (by omega)) (by omega) (by omega)⟩
    by_cases c1 : S 18 (zIx u) = 0
    · rw [if_pos c1, if_pos c1]
      by_cases c2 : c
      · rw [zT_t c2, if_neg (by decide)]
        exact hfin 1
      · rw [zT_f c2, if_pos rfl]
        exact hfin 0
    · rw [if_neg c1, if_neg c1]
      exact hfin 1
  · rw [zT_f q, if_pos rfl, zIf_f q]
    exact ⟨M, rfl, h, yFr_r⟩
theorem zUp_self {M : zMem} {c i : Nat} : zUp M c i (M c i) = M := by
  funext a b
  by_cases q : a = c ∧ b = i
  · obtain ⟨q1, q2⟩ := q
    subst q1; subst q2
    rw [zUp_s]
  · exact if_neg q
theorem s_ins_off (S : zMem) (s : Nat) (t : Int32) (c : Nat) (h : c < 12 ∨ 16 ≤ c) : s_ins S s t c = S c := by
  unfold s_ins
  rw [zUp_off (by omega), zUp_off (by omega), zUp_off (by omega), zUp_off (by omega), yPc_off (by omega)]
theorem s_away_off (S : zMem) (c : Nat) (h : c ≠ 12) : s_away S c = S c := by
  unfold s_away
  rw [zUp_off h, zUp_off h, zUp_off h]
theorem s_layL_off (b : Int32) : ∀ k i S c, (c < 12 ∨ 16 ≤ c) → s_layL b k i S c = S c
  | 0, _, _, _, _ => rfl
  | k + 1, i, S, c, h => by
    unfold s_layL
    rw [s_layL_off b k (i + 1) _ c h, s_ins_off _ _ _ _ h]
theorem s_lay_off (S : zMem) (a : Nat) (b : Int32) (c : Nat) (h : c < 12 ∨ 16 ≤ c) : s_lay S a b c = S c := by
  unfold s_lay
  by_cases q : 1 ≤ a ∧ a ≤ 20
  · rw [if_pos q, s_layL_off _ _ _ _ _ h, zUp_off (by omega), s_away_off _ _ (by omega)]
  · rw [if_neg q]
theorem s_rem_off (S : zMem) (n c : Nat) (h : c < 12 ∨ 16 ≤ c) : s_rem S n c = S c := by
  unfold s_rem
  rw [zUp_off (by omega), zUp_off (by omega)]
theorem s_add_off (S : zMem) (n : Nat) (t : Int32) (c : Nat) (h : c < 12 ∨ 16 ≤ c) : s_add S n t c = S c := by
  unfold s_add
  by_cases q : n < zIx (S 12 4) ∧ S 12 5 < 40
  · rw [if_pos q, s_ins_off _ _ _ _ h]
  · rw [if_neg q]
theorem s_amend_off (S : zMem) (a : Nat) (b : Int32) (c : Nat) (h : c < 12 ∨ 16 ≤ c) : s_amend S a b c = S c := by
  unfold s_amend
  by_cases q0 : a % 4 = 0
  · rw [if_pos q0, s_add_off _ _ _ _ h]
  rw [if_neg q0]
  by_cases q : ¬ (a / 4 < zIx (S 12 4) ∧ S 15 (a / 4) = 0)
  · rw [if_pos q]
  rw [if_neg q]
  by_cases q1 : a % 4 = 1
  · rw [if_pos q1, s_rem_off _ _ _ h]
  rw [if_neg q1]
  by_cases q2 : a % 4 = 2
  · rw [if_pos q2, zUp_off (by omega)]
  rw [if_neg q2]
  dsimp only
  by_cases q3 : zIn (zBh (s_pl S (zIx (S 12 4)) 0) (nI (a / 4))) (zIx (S 12 4)) ∧ (zUp S 14 (a / 4) (zMax (S 14 (a / 4)) (s_txt S (zBh (s_pl S (zIx (S 12 4)) 0) (nI (a / 4)))))) 15 (zIx (zBh (s_pl S (zIx (S 12 4)) 0) (nI (a / 4)))) = 0
  · rw [if_pos q3, s_rem_off _ _ _ h, zUp_off (by omega)]
  · rw [if_neg q3, zUp_off (by omega)]
theorem s_endDeb_off (S : zMem) (c : Nat) (h : c ≠ 11) : s_endDeb S c = S c := by
  unfold s_endDeb
  rw [yPc_off h]
theorem k_carry {o : Nat} {S M : zMem} (h : zCS o S M) {n e : Nat} (hm : S 4 8 = nI n) (hm8 : n ≤ 8) (hO : zWO S e) (he : e < 320) {kd a b : Int32} (ha : zIn a 1000) : ∃ M', f_X7_carryOut o kd a b M = some (0, M') ∧ zCS o (s_carry S kd a b) M' ∧ yFr o 20 M M' := by
  obtain ⟨A, hA, rfl⟩ := zIn_of ha
  have h8 : zIx (S 4 8) = n := by rw [hm, zIx_n (by omega)]
  rw [f_X7_carryOut]
  unfold s_carry
  rw [zIx_n (by omega)]
  by_cases q0 : kd = 0
  · rw [if_pos q0, if_pos q0]
    obtain ⟨M1, e1, a1, a2⟩ := k_lay h.2.2.2.1 (a := A) (by omega) b
    exact ⟨M1, by rw [e1, zBd_some], zCS_P h a1 a2 (fun c hc => s_lay_off _ _ _ _ hc), yFr_m a2 (by omega) (by omega)⟩
  rw [if_neg q0, if_neg q0]
  by_cases q1 : kd = 1
  · rw [if_pos q1, if_pos q1]
    obtain ⟨M1, e1, a1, a2⟩ := k_amend h.2.2.2.1 hO he hA b
    exact ⟨M1, by rw [e1, zBd_some], zCS_P h a1 a2 (fun c hc => s_amend_off _ _ _ _ hc), yFr_m a2 (by omega) (by omega)⟩
  rw [if_neg q1, if_neg q1]
  by_cases q2 : kd = 2
  · rw [if_pos q2, if_pos q2]
    obtain ⟨M1, e1, a1, a2⟩ := k_endDeb h.2.2.1 hm hm8
    exact ⟨M1, by rw [e1, zBd_some], zCS_M h a1 a2 (fun c hc => s_endDeb_off _ _ (by omega)), yFr_m a2 (by omega) (by omega)⟩
  rw [if_neg q2, if_neg q2]
  by_cases q3 : kd = 3
  · rw [if_pos q3, if_pos q3]
    by_cases c : nI A ≤ 0
    · rw [if_pos c, if_pos c, zUp_self, zLt_eq]
      exact ⟨M, rfl, h, yFr_r⟩
    · rw [if_neg c, if_neg c]
      exact ⟨_, rfl, zCS_u0 h 12 _ (by omega), yFr_u yFr_r (by omega) (by omega)⟩
  rw [if_neg q3, if_neg q3]
  have hz : ∀ S1 M1, zCS o S1 M1 → zCS o (zUp S1 4 8 0) (zUp M1 (o + 4) 8 0) := fun S1 M1 h1 =>
    zCS_M h1 (zCM_len h1.2.2.1 0 (Nat.zero_le _)) (yFr_u yFr_r (by omega) (by omega)) (fun c hc => zUp_off (by omega))
  by_cases q4 : kd = 4
  · rw [if_pos q4, if_pos q4]
    obtain ⟨M1, e1, a1, a2⟩ := k_away (f := o + 12) (S := S) (M := M)
    refine ⟨zUp M1 (o + 4) 8 0, by rw [e1, zBd_some, zLt_eq], hz _ _ (zCS_P h a1 a2 (fun c hc => s_away_off _ _ (by omega))), yFr_u (yFr_m a2 (by omega) (by omega)) (by omega) (by omega)⟩
  rw [if_neg q4, if_neg q4]
  by_cases q5 : kd = 5
  · rw [if_pos q5, if_pos q5]
    exact ⟨_, rfl, zCS_u0 h 13 _ (by omega), yFr_u yFr_r (by omega) (by omega)⟩
  rw [if_neg q5, if_neg q5]
  by_cases q6 : kd = 6
  · rw [if_pos q6, if_pos q6]
    exact ⟨_, rfl, hz _ _ (zCS_u0 h 15 1 (by omega)), yFr_u (yFr_u yFr_r (by omega) (by omega)) (by omega) (by omega)⟩
  · rw [if_neg q6, if_neg q6]
    exact ⟨M, rfl, h, yFr_r⟩
/-- a motion decided; k + 1 acts are worked, act k the vote -/
theorem k_votes {o k : Nat} {S M E : zMem} (h : zCS o S M) (hk : k < 300) (h9 : S 0 9 = nI (k + 1)) {n e : Nat} (hm : S 4 8 = nI n) (hm8 : n ≤ 8) (h0 : 0 < n) (ht : zIn (S 7 (n - 1)) 1000) (hO : zWO S e) (he : e < 320) (c : Prop) : ∃ M', f_X7_decide_B89 o (nI k) (nI (n - 1)) (S 5 (n - 1)) (zT c) M = some (0, M') ∧ zCS o (s_votes E S k c) M' ∧ yFr o 20 M M' := by
  have hx : zIx (S 4 8) = n := by rw [hm, zIx_n (by omega)]
  have hi : zIn (nI k) 300 := zIn_n hk (by omega)
  have hi8 : zIn (nI (n - 1)) 8 := zIn_n (by omega) (by omega)
  have g0 : zCS o (zUp S 4 8 (nI (n - 1))) (zUp M (o + 4) 8 (nI (n - 1))) := zCS_M h (zCM_len h.2.2.1 _ (by rw [hx, zIx_n (by omega)]; omega)) (yFr_u yFr_r (by omega) (by omega)) (fun c hc => zUp_off (by omega))
  have g1 : zCS o (zUp (zUp S 4 8 (nI (n - 1))) 17 k (zT c)) (zUp (zUp M (o + 4) 8 (nI (n - 1))) (o + 17) k (zT c)) := zCS_ua g0 17 _ _ (by omega) (by omega)
  have f1 : yFr o 20 M (zUp (zUp M (o + 4) 8 (nI (n - 1))) (o + 17) k (zT c)) := yFr_u (yFr_u yFr_r (by omega) (by omega)) (by omega) (by omega)
  have e7 : M (o + 7) (n - 1) = S 7 (n - 1) := zCM_c h.2.2.1 3 (by omega) (by omega) (by omega)
  have e8 : M (o + 8) (n - 1) = S 8 (n - 1) := zCM_c h.2.2.1 4 (by omega) (by omega) (by omega)
  have e9 : M (o + 9) (n - 1) = S 9 (n - 1) := zCM_c h.2.2.1 5 (by omega) (by omega) (by omega)
  have hst : f_X7_decide_B89 o (nI k) (nI (n - 1)) (S 5 (n - 1)) (zT c) M = f_X7_decide_B114 o (nI k) (nI (n - 1)) (S 5 (n - 1)) (zT c) (zT c) (nI k) (zUp M (o + 4) 8 (nI (n - 1))) := by
    rw [f_X7_decide_B89, zLt_eq]
    by_cases q : c
    · rw [zT_t q, if_neg (by decide)]
    · rw [zT_f q, if_pos rfl]
  rw [hst, f_X7_decide_B114, zCk_t hi, zLt_eq, zIx_n (by omega), zCk_t hi8, zCk_t hi8, zCk_t hi8, zIx_n (by omega)]
  simp (disch := omega) only [zUp_c]
  rw [e7, e8, e9]
  unfold s_votes
  rw [hx]
  show ∃ M', _ ∧ zCS o (if S 5 (n - 1) = 7 then _ else _) M' ∧ _
  by_cases q : S 5 (n - 1) = 7
  · rw [if_pos q, if_pos q]
    obtain ⟨M1, e1, a1, a2⟩ := k_settle g1 (k := k + 1) (by rw [zUp_c (by omega), zUp_c (by omega), h9]) (by omega) (S 9 (n - 1)) c
    exact ⟨M1, by rw [e1, zBd_some], a1, yFr_t f1 a2⟩
  · rw [if_neg q, if_neg q]
    by_cases q2 : c
    · rw [zIf_t q2, zT_t q2, if_neg (show ¬ (1 : Int32) = 0 by decide)]
      rw [zT_t q2] at g1 f1
      obtain ⟨M1, e1, a1, a2⟩ := k_carry g1 (n := n - 1) (e := e) (by rw [zUp_c (by omega), zUp_s]) (by omega) ⟨by rw [zUp_c (by omega), zUp_c (by omega)]; exact hO.1, hO.2.1, by rw [zUp_off (by omega), zUp_off (by omega)]; exact hO.2.2.1, by rw [zUp_off (by omega), zUp_off (by omega)]; exact hO.2.2.2⟩ he (kd := S 5 (n - 1)) (b := S 8 (n - 1)) ht
      exact ⟨M1, by rw [e1, zBd_some], a1, yFr_t f1 a2⟩
    · rw [zIf_f q2, zT_f q2, if_pos rfl]
      rw [zT_f q2] at g1 f1
      exact ⟨_, rfl, g1, f1⟩
