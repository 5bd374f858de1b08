theorem zWP_c {S S' : zMem} {e : Nat} (h : zWP S e) (hS : ∀ c, 12 ≤ c → c < 16 → S' c = S c) : zWP S' e := by
  obtain ⟨hO, p5, p40, p30, p31, pc⟩ := h
  have q12 := hS 12 (by omega) (by omega)
  have q13 := hS 13 (by omega) (by omega)
  have q14 := hS 14 (by omega) (by omega)
  have q15 := hS 15 (by omega) (by omega)
  have hpl := s_pl_c q13 q15 e 0
  refine ⟨?_, by rw [q12, hpl, p5], by rw [hpl]; exact p40, by rw [q12]; exact p30, by rw [q12]; exact p31, fun n hn => by rw [q15, q14]; exact pc n hn⟩
  unfold zWO
  rw [q12, q13]
  exact hO
theorem s_settle_off (S : zMem) (u : Int32) (c : Prop) (a : Nat) (h : a < 18 ∨ 20 ≤ a) : s_settle S u c a = S a := by
  unfold s_settle
  by_cases q : s_wk S u
  · rw [zIf_t q, zUp_off (by omega), zUp_off (by omega)]
  · rw [zIf_f q]
theorem g_votes {E S M : zMem} {sd k e n : Nat} (hsd : sd < 2) (hk : k < 300) (h : zMS S M sd (k + 1) e) (h9 : S 0 9 = nI (k + 1)) (hm : S 4 8 = nI n) (h8 : n ≤ 8) (h0 : 0 < n) (hkd : zIn (S 5 (n - 1)) 8) (ha : zIn (S 7 (n - 1)) 1000) (hb : zIn (S 8 (n - 1)) 1000) (hof : S 9 (n - 1) = -1 ∨ zIn (S 9 (n - 1)) k) (hbo : ∀ i, i < k → S 18 i = 0 ∨ S 18 i = 1) (hP : zWP S e) (he : e < 320) (hr : S 0 13 = 0) (c : Prop) : ∃ M' e', f_X10_votes (nI k) (zT c) M = some (0, M') ∧ zMS (s_votes E S k c) M' sd (k + 1) e' ∧ zFm M M' ∧ zWP (s_votes E S k c) e' ∧ e' ≤ max 20 (e + 1) := by
  have hi : zIn (nI k) 300 := zIn_n hk (by omega)
  have h12 : zIn (nI (n - 1)) 12 := zIn_n (by omega) (by omega)
  have hx : zIx (S 4 8) = n := by rw [hm, zIx_n (by omega)]
  obtain ⟨m25, ⟨_, _, _, _, _, _, _, _, m39⟩, _, _, hM4, _⟩ := id h
  have ht4 := hM4 (n - 1) (by omega)
  -- the motion off, the answer noted
  have g0 : zMS (zUp S 4 8 (nI (n - 1))) (zUp M 74 39 (nI (n - 1))) sd (k + 1) e := by
    refine zMS_M hsd h (fun c hc => zUp_off (by omega)) (fun c b1 _ => zUp_off b1) (fun i b => zUp_x b) (by rw [zUp_s, zUp_s]) ?_
    intro i hi2
    rw [zUp_s, zIx_n (by omega)] at hi2
    have := hM4 i (by omega)
    simp (disch := omega) only [zUp_c]
    exact this
  have g1 : zMS (zUp (zUp S 4 8 (nI (n - 1))) 17 k (zT c)) (zUp (zUp M 74 39 (nI (n - 1))) (103 + sd) k (zT c)) sd (k + 1) e := by
    refine zMS_5 g0 (fun a _ _ => zUp_off (by omega)) (fun i _ => zUp_c (by omega)) (fun a ha2 => zUp_off (by omega)) ⟨fun i hi2 => ?_, fun i hi2 => ?_⟩
    · have := g0.2.2.2.2.2.1.1 i hi2
      refine ⟨(zUp_c (by omega)).trans (this.1.trans (zUp_c (by omega)).symm), ?_⟩
      by_cases q : i = k
      · subst q
        rw [zUp_s, zUp_s]
      · rw [zUp_x q, zUp_x q]
        exact this.2
    · have := g0.2.2.2.2.2.1.2 i hi2
      simp (disch := omega) only [zUp_c] at this ⊢
      exact this
  have f1 : zFm M (zUp (zUp M 74 39 (nI (n - 1))) (103 + sd) k (zT c)) := zFm_u (zFm_u zFm_r (by omega)) (by omega)
  have hst : f_X10_votes (nI k) (zT c) M = f_X10_votes_B34 (nI k) (zT c) (nI (n - 1)) (zT c) (nI k) (103 + sd) (zUp M 74 39 (nI (n - 1))) := by
    rw [f_X10_votes, zLt_eq, m39, hm, zd_sub (by omega), zUp_s, zUp_x (by omega), m25, zCk_t (zIn_n hsd (by omega)), zIx_n (by omega)]
    by_cases q : c
    · rw [zT_t q, if_neg (by decide)]
    · rw [zT_f q, if_pos rfl]
  have c111 : zUp (zUp M 74 39 (nI (n - 1))) (103 + sd) k (zT c) 111 (n - 1) = S 5 (n - 1) := by rw [zUp_c (by omega), zUp_c (by omega), ht4.1]
  have c115 : zUp (zUp M 74 39 (nI (n - 1))) (103 + sd) k (zT c) 115 (n - 1) = if S 5 (n - 1) = 7 then S 9 (n - 1) else -1 := by rw [zUp_c (by omega), zUp_c (by omega), ht4.2.2.2.2.2.2]
  have c113 : zUp (zUp M 74 39 (nI (n - 1))) (103 + sd) k (zT c) 113 (n - 1) = S 7 (n - 1) := by rw [zUp_c (by omega), zUp_c (by omega), ht4.2.2.1]
  have c114 : zUp (zUp M 74 39 (nI (n - 1))) (103 + sd) k (zT c) 114 (n - 1) = S 8 (n - 1) := by rw [zUp_c (by omega), zUp_c (by omega), ht4.2.2.2.1]
  have hP1 : zWP (zUp (zUp S 4 8 (nI (n - 1))) 17 k (zT c)) e := zWP_c hP (fun a _ _ => by rw [zUp_off (by omega), zUp_off (by omega)])
  have hS18 : ∀ i, zUp (zUp S 4 8 (nI (n - 1))) 17 k (zT c) 18 i = S 18 i := fun i => by rw [zUp_c (by omega), zUp_c (by omega)]
  have hS09 : zUp (zUp S 4 8 (nI (n - 1))) 17 k (zT c) 0 9 = nI (k + 1) := by rw [zUp_c (by omega), zUp_c (by omega), h9]
  have hS48 : zUp (zUp S 4 8 (nI (n - 1))) 17 k (zT c) 4 8 = nI (n - 1) := by rw [zUp_c (by omega), zUp_s]
  have hS13 : zUp (zUp S 4 8 (nI (n - 1))) 17 k (zT c) 0 13 = 0 := by rw [zUp_c (by omega), zUp_c (by omega), hr]
  rw [hst, f_X10_votes_B34, zCk_t hi, zLt_eq, zIx_n (by omega), zCk_t h12, zCk_t h12, zCk_t h12, zIx_n (by omega), c111, c115]
  have hdef : s_votes E S k c = if S 5 (n - 1) = 7 then s_settle (zUp (zUp S 4 8 (nI (n - 1))) 17 k (zT c)) (S 9 (n - 1)) c else zIf c (s_carry (zUp (zUp S 4 8 (nI (n - 1))) 17 k (zT c)) (S 5 (n - 1)) (S 7 (n - 1)) (S 8 (n - 1))) (zUp (zUp S 4 8 (nI (n - 1))) 17 k (zT c)) := by
    unfold s_votes
    rw [hx]
  rw [hdef]
  generalize zUp (zUp S 4 8 (nI (n - 1))) 17 k (zT c) = S1 at *
  generalize zUp (zUp M 74 39 (nI (n - 1))) (103 + sd) k (zT c) = M1 at *
  by_cases q7 : S 5 (n - 1) = 7
  · rw [if_pos q7] at c115
    rw [if_pos q7, if_pos q7, if_pos q7]
    rcases hof with ho | ho
    · have hnw : ¬ s_wk S1 (S 9 (n - 1)) := fun y => by
        rw [ho] at y
        exact absurd y.1.1 (by decide +kernel)
      have hs : s_settle S1 (S 9 (n - 1)) c = S1 := by
        unfold s_settle
        rw [zIf_f hnw]
      rw [if_pos ho, hs]
      refine ⟨M1, e, ?_, g1, f1, hP1, by omega⟩
      rw [f_X10_votes_B68]
      by_cases q : c
      · rw [zT_t q, if_neg (by decide), zCk_t h12, zIx_n (by omega), c111, q7]
        rw [if_neg (by decide), if_neg (by decide), if_neg (by decide), if_neg (by decide), if_neg (by decide), if_neg (by decide), if_neg (by decide), zCk_t h12, c115, if_pos ho]
      · rw [zT_f q, if_pos rfl]
    · obtain ⟨r, hrk, er⟩ := zIn_of ho
      have hr3 : zIn (nI r) 300 := zIn_n (by omega) (by omega)
      have hwk : s_wk S1 (nI r) := ⟨hr3, by rw [hS09]; exact nI_lt (by omega) (by omega)⟩
      have hs : s_settle S1 (S 9 (n - 1)) c = zUp (zUp S1 19 r 1) 18 r (if S1 18 r = 0 then zT c else 1) := by
        unfold s_settle
        rw [er, zIf_t hwk, zIx_n (by omega)]
      rw [hs, er, if_neg (show ¬ nI r = -1 by rw [zd_e1 (by omega)]; exact fun y => y), zCk_t hr3, zLt_eq, zIx_n (by omega)]
      have hb18 := hbo r hrk
      rw [← hS18 r] at hb18
      have h5 := g1.2.2.2.2.2.1
      rw [f_X10_votes_B68]
      by_cases q : c
      · rw [zT_t q, if_neg (by decide), zCk_t h12, zIx_n (by omega), zUp_c (by omega), c111, q7]
        rw [if_neg (by decide), if_neg (by decide), if_neg (by decide), if_neg (by decide), if_neg (by decide), if_neg (by decide), if_neg (by decide), zCk_t h12, zUp_c (by omega), c115, er, if_neg (show ¬ nI r = -1 by rw [zd_e1 (by omega)]; exact fun y => y), zUp_c (by omega), g1.1, zCk_t (zIn_n hsd (by omega)), zCk_t h12, zCk_t hr3, zLt_eq, zIx_n (by omega), zIx_n (by omega)]
        have hv : (if S1 18 r = 0 then (1 : Int32) else 1) = 1 := by
          by_cases y : S1 18 r = 0
          · rw [if_pos y]
          · rw [if_neg y]
        rw [hv]
        refine ⟨_, e, rfl, ?_, zFm_u (zFm_u f1 (by omega)) (by omega), zWP_c hP1 (fun a _ _ => by rw [zUp_off (by omega), zUp_off (by omega)]), by omega⟩
        refine zMS_5 g1 (fun a _ _ => by rw [zUp_off (by omega), zUp_off (by omega)]) (fun i _ => by rw [zUp_c (by omega), zUp_c (by omega)]) (fun a ha2 => by rw [zUp_off (by omega), zUp_off (by omega)]) ⟨fun i hi2 => ?_, fun i hi2 => ?_⟩
        · have := h5.1 i hi2
          simp (disch := omega) only [zUp_c]
          exact this
        · have := h5.2 i hi2
          by_cases y : i = r
          · subst y
            rw [if_pos (by omega), if_pos (by omega)]
            simp (disch := omega) only [zUp_c, zUp_s]
            exact ⟨trivial, trivial⟩
          · simp (disch := omega) only [zUp_c, zUp_x]
            exact this
      · rw [zT_f q, if_pos rfl]
        have hv : (if S1 18 r = 0 then (0 : Int32) else 1) = S1 18 r := by
          rcases hb18 with y | y
          · rw [if_pos y, y]
          · rw [if_neg (by rw [y]; decide), y]
        rw [hv]
        refine ⟨_, e, rfl, ?_, zFm_u f1 (by omega), zWP_c hP1 (fun a _ _ => by rw [zUp_off (by omega), zUp_off (by omega)]), by omega⟩
        refine zMS_5 g1 (fun a _ _ => by rw [zUp_off (by omega), zUp_off (by omega)]) (fun i _ => by rw [zUp_c (by omega), zUp_c (by omega)]) (fun a ha2 => by rw [zUp_off (by omega)]) ⟨fun i hi2 => ?_, fun i hi2 => ?_⟩
        · have := h5.1 i hi2
          simp (disch := omega) only [zUp_c]
          exact this
        · have := h5.2 i hi2
          by_cases y : i = r
          · subst y
            rw [if_pos (by omega)] at this
            rw [if_pos (by omega), if_pos (by omega)]
            simp (disch := omega) only [zUp_c, zUp_s]
            exact ⟨this.1, trivial⟩
          · simp (disch := omega) only [zUp_c, zUp_x]
            exact this
  · rw [if_neg q7, if_neg q7]
    by_cases q : c
    · rw [zIf_t q, zT_t q]
      obtain ⟨M2, e2, x1, x2, x3, x4, x5⟩ := g_carry (E := E) (u := nI k) hsd g1 (t := n - 1) (by omega) hS48 hP1 he hS13 c111 c113 c114 ha hb q7 hkd
      exact ⟨M2, e2, x1, x2, zFm_t f1 x3, x4, x5⟩
    · rw [zIf_f q, zT_f q]
      refine ⟨M1, e, ?_, g1, f1, hP1, by omega⟩
      rw [f_X10_votes_B68, if_pos rfl]
