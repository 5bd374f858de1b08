/-- act 2, one asks for the floor -/
theorem g_do2 {S M : zMem} {sd k e n : Nat} {m : Int32} (hsd : sd < 2) (h : zMS S M sd k e) (hF : zWF S n) (hn : n < 24) : ∃ M', zCk (zIn (M 74 31) 24) (zLt (zUp M 109 (zIx (M 74 31)) m) (fun M14 => zLt (zUp M14 74 31 (M14 74 31 + 1)) (fun M16 => some (0, M16)))) = some (0, M') ∧ zMS (s_ask S m) M' sd k e ∧ zFm M M' := by
  have hx : zIx (S 1 4) = n := by rw [hF.1, zIx_n (by omega)]
  obtain ⟨_, ⟨m31, m32, m33, m37, _⟩, hQ, _⟩ := id h
  rw [hF.1] at m31
  refine ⟨zUp (zUp M 109 n m) 74 31 (nI (n + 1)), ?_, ?_, zFm_u (zFm_u zFm_r (by omega)) (by omega)⟩
  · rw [m31, zCk_t (zIn_n hn (by omega)), zLt_eq, zLt_eq, zIx_n (by omega), zUp_c (by omega), m31, nI_1]
  · refine zMS_F hsd h (fun c hc => s_ask_off _ _ _ hc) (fun c h1 h2 _ => by rw [zUp_off h1, zUp_off h2]) (fun i b1 _ _ _ => by rw [zUp_x b1, zUp_c (by omega)]) ?_ ?_
    · unfold s_ask
      rw [hx]
      simp (disch := omega) only [zUp_x, zUp_s, zUp_c]
      exact ⟨trivial, m32, m33, m37⟩
    · unfold s_ask
      rw [hx]
      refine ⟨fun i hi => ?_, fun i hi => ?_⟩
      · rw [zUp_s, zIx_n (by omega)] at hi
        simp (disch := omega) only [zUp_c]
        by_cases q : i = n
        · subst q
          rw [zUp_s, zUp_s]
        · rw [zUp_x q, zUp_x q, hQ.1 i (by omega)]
      · simp (disch := omega) only [zUp_c]
        exact hQ.2 i hi
/-- act 3, the next one is called -/
theorem g_do3 {E S M : zMem} {sd k e n nm : Nat} (hsd : sd < 2) (hE : zMv E M) (h : zMS S M sd k e) (hF : zWF S n) (h0 : 0 < n) (hm : S 4 8 = nI nm) (hm8 : nm ≤ 8) : ∃ M', zBd (f_X10_next 109 (M 74 31) 110 M) (fun r18 M19 => zCk (zIn r18 24) (zBd (f_X10_leaves (M19 109 (zIx r18)) M19) (fun _ M22 => zCk (zIn (M19 109 (zIx r18)) 24) (zCk (zIn (M19 109 (zIx r18)) 24) (zLt (zUp M22 110 (zIx (M19 109 (zIx r18))) ((M22 110 (zIx (M19 109 (zIx r18)))) + 1)) (fun M24 => zLt (zUp M24 74 32 (M19 109 (zIx r18))) (fun M26 => zLt (zUp M26 74 33 (M26 74 34)) (fun M27 => zLt (zUp M27 74 37 0) (fun M28 => if (M28 74 39) ≤ 0 then some (0, M28) else zCk (zIn ((M28 74 39) - 1) 12) (zLt (zUp M28 117 (zIx ((M28 74 39) - 1)) 1) (fun M29 => some (0, M29)))))))))))) = some (0, M') ∧ zMS (s_deb (s_call E S (S 0 12))) M' sd k e ∧ zFm M M' := by
  have h24 := hF.2.1
  have hx : zIx (S 1 4) = n := by rw [hF.1, zIx_n (by omega)]
  have hp : s_nx E S n < n := zNx_lt _ n h0
  obtain ⟨mm, hmm, em⟩ := zIn_of (hF.2.2.1 _ hp)
  obtain ⟨_, ⟨m31, m32, m33, m37, m34, m35, m36, m38, m39⟩, hQ, _, hM4, _⟩ := id h
  obtain ⟨M2, e2, a1, a2, a3⟩ := g_leaves hF m31 (fun i hi => hQ.1 i (by omega)) (nI mm)
  have hfi : zFi (S 2) (nI mm) n 0 = s_nx E S n := by
    have hle := zFi_le (S 2) (nI mm) n 0
    have a4 : ¬ s_nx E S n < zFi (S 2) (nI mm) n 0 := fun x => zFi_no (S 2) (nI mm) n 0 _ (by omega) x em
    have a5 := zFi_at (S 2) (nI mm) n 0 (by omega)
    rcases (by omega : zFi (S 2) (nI mm) n 0 < s_nx E S n ∨ zFi (S 2) (nI mm) n 0 = s_nx E S n) with y | y
    · exact absurd (a5.trans em.symm) (hF.2.2.2 _ _ y hp)
    · exact y
  have hlv : s_lv S (nI mm) = s_deq S (s_nx E S n) := by
    unfold s_lv
    rw [hx, hfi, if_pos hp]
  rw [hlv] at a2 a3
  have hS' : s_call E S (S 0 12) = zUp (zUp (zUp (zUp (s_deq S (s_nx E S n)) 1 5 (nI mm)) 1 6 (S 0 12)) 1 7 0) 3 mm (S 3 mm + 1) := by
    unfold s_call
    rw [hx, em, zIx_n (by omega)]
  have c110 : M2 110 mm = S 3 mm := by rw [a1 110 mm (by omega) (by omega), hQ.2 mm hmm]
  have c34 : M2 74 34 = S 0 12 := by rw [a1 74 34 (by omega) (by omega), m34]
  have c39 : M2 74 39 = nI nm := by rw [a1 74 39 (by omega) (by omega), m39, hm]
  have h3 : zMS (s_call E S (S 0 12)) (zUp (zUp (zUp (zUp M2 110 mm (S 3 mm + 1)) 74 32 (nI mm)) 74 33 (S 0 12)) 74 37 0) sd k e := by
    refine zMS_F hsd h (fun c hc => s_call_off _ _ _ _ hc) (fun c b1 b2 b3 => ?_) (fun i b1 b2 b3 b4 => ?_) ?_ ?_
    · rw [zUp_off b1, zUp_off b1, zUp_off b1, zUp_off b3]
      funext i
      exact a1 c i (by omega) b2
    · rw [zUp_x b4, zUp_x b3, zUp_x b2, zUp_c (by omega), a1 74 i (by omega) (by omega)]
    · rw [hS']
      simp (disch := omega) only [zUp_x, zUp_s, zUp_c]
      exact ⟨a2, trivial, trivial, trivial⟩
    · rw [hS']
      refine ⟨fun i hi => ?_, fun i hi => ?_⟩
      · simp (disch := omega) only [zUp_x, zUp_c] at hi ⊢
        exact a3 i hi
      · by_cases q : i = mm
        · subst q
          simp (disch := omega) only [zUp_c, zUp_s]
        · simp (disch := omega) only [zUp_c, zUp_x]
          rw [a1 110 i (by omega) (by omega), s_deq_3, hQ.2 i hi]
  have f3 : zFm M (zUp (zUp (zUp (zUp M2 110 mm (S 3 mm + 1)) 74 32 (nI mm)) 74 33 (S 0 12)) 74 37 0) := zFm_u (zFm_u (zFm_u (zFm_u ⟨fun c hc => by funext i; exact a1 c i (by omega) (by omega), fun i hi => a1 74 i (by omega) (by omega)⟩ (by omega)) (by omega)) (by omega)) (by omega)
  have hr : M 109 (s_nx E S n) = nI mm := by rw [hQ.1 _ (by omega), em]
  rw [m31, hF.1, g_next hE hQ hF h0, zBd_some, zCk_t (zIn_n (by omega) (by omega)), zIx_n (by omega), hr, e2, zBd_some, zCk_t (zIn_n hmm (by omega)), zCk_t (zIn_n hmm (by omega)), zIx_n (by omega), c110]
  simp only [zLt_eq]
  have c34' : zUp (zUp M2 110 mm (S 3 mm + 1)) 74 32 (nI mm) 74 34 = S 0 12 := by rw [zUp_x (by omega), zUp_c (by omega), c34]
  rw [c34']
  have hm4 : zIx (s_call E S (S 0 12) 4 8) = nm := by rw [s_call_off _ _ _ _ (by omega), hm, zIx_n (by omega)]
  generalize zUp (zUp (zUp (zUp M2 110 mm (S 3 mm + 1)) 74 32 (nI mm)) 74 33 (S 0 12)) 74 37 0 = M3 at *
  have d39 : M3 74 39 = nI nm := by rw [h3.2.1.2.2.2.2.2.2.2.2, s_call_off _ _ _ _ (by omega), hm]
  rw [d39]
  unfold s_deb
  rw [hm4]
  by_cases q : nm = 0
  · rw [if_pos q, if_pos (show nI nm ≤ 0 by rw [q]; decide)]
    exact ⟨M3, rfl, h3, f3⟩
  · rw [if_neg q, if_neg (nI_nle (by omega) (by omega)), zd_sub (by omega), zCk_t (zIn_n (by omega) (by omega)), zIx_n (by omega)]
    refine ⟨_, rfl, ?_, zFm_u f3 (by omega)⟩
    refine zMS_M hsd h3 (fun c hc => zUp_off (by omega)) (fun c _ hc => zUp_off (by omega)) (fun i _ => zUp_c (by omega)) ?_ ?_
    · rw [zUp_c (by omega), zUp_c (by omega), d39, s_call_off _ _ _ _ (by omega), hm]
    · intro i hi
      rw [zUp_c (by omega)] at hi
      have := h3.2.2.2.2.1 i hi
      by_cases q2 : i = nm - 1
      · subst q2
        simp (disch := omega) only [zUp_c, zUp_s]
        exact ⟨this.1, this.2.1, this.2.2.1, this.2.2.2.1, this.2.2.2.2.1, trivial, this.2.2.2.2.2.2⟩
      · simp (disch := omega) only [zUp_c, zUp_x]
        exact this
/-- act 4, time goes by -/
theorem g_do4 {S M : zMem} {sd k e kk : Nat} {a : Int32} (hsd : sd < 2) (h : zMS S M sd k e) (hkk : kk < 300) (h97 : M 97 kk = a) (ha : 1 ≤ a ∧ a ≤ 9999) (hh : (S 1 5 = -1 ∧ S 1 6 = 0 ∧ S 1 7 = 0) ∨ (zIn (S 1 5) 24 ∧ 0 < S 1 6 ∧ (S 1 7 = 0 ∨ S 1 7 = 1))) (hr : 0 ≤ S 0 13) : ∃ M', zCk (zIn (nI kk) 300) (zLt (zUp M 74 35 ((M 74 35) + (M 97 kk))) (fun M33 => if (M33 74 32) = (-1) then f_X10_does_B250 (nI kk) M33 else zCk (zIn (nI kk) 300) (zLt (zUp M33 74 33 ((M33 74 33) - (M33 97 kk))) (fun M39 => if 0 < (M39 74 33) then f_X10_does_B250 (nI kk) M39 else zBd (f_X10_free M39) (fun _ M41 => f_X10_does_B250 (nI kk) M41))))) = some (0, M') ∧ zMS (s_ticks S a) M' sd k e ∧ zFm M M' := by
  have hi : zIn (nI kk) 300 := zIn_n hkk (by omega)
  obtain ⟨_, ⟨m31, m32, m33, m37, m34, m35, m36, m38, m39⟩, hQ, h3, hM4, _⟩ := id h
  have e0 : (0 : Int32).toInt = 0 := by decide +kernel
  have e1 : (1 : Int32).toInt = 1 := by decide +kernel
  have e9 : (9999 : Int32).toInt = 9999 := by decide +kernel
  have a1 := Int32.le_iff_toInt_le.mp ha.1
  have a2 := Int32.le_iff_toInt_le.mp ha.2
  have hsub : ∀ x : Int32, 0 ≤ x → (x - a).toInt = x.toInt - a.toInt := by
    intro x hx
    have := Int32.le_iff_toInt_le.mp hx
    have h2 := x.toInt_lt
    rw [Int32.toInt_sub, Int.bmod_eq_of_le (by omega) (by omega)]
  -- the rest, once the floor is done
  have hB : ∀ S1 M1, zMS S1 M1 sd k e → zFm M M1 → M1 97 kk = a → M1 74 36 = S 0 13 → (∀ i, i ≠ 13 → zUp S1 0 13 (zMax 0 (S 0 13 - a)) 0 i = S1 0 i) → ∃ M', f_X10_does_B250 (nI kk) M1 = some (0, M') ∧ zMS (zUp S1 0 13 (zMax 0 (S 0 13 - a))) M' sd k e ∧ zFm M M' := by
    intro S1 M1 g1 f1 c97 c36 _
    obtain ⟨_, ⟨_, _, _, _, n34, n35, n36, n38, _⟩, _, n3, _⟩ := id g1
    have hfin : ∃ M', f_X10_does_B250 (nI kk) M1 = some (0, M') ∧ M' = zUp M1 74 36 (zMax 0 (S 0 13 - a)) := by
      rw [f_X10_does_B250, zCk_t hi, zCk_t hi, zIx_n (by omega), c97, c36]
      have hs := hsub (S 0 13) hr
      by_cases q : S 0 13 ≤ a
      · rw [if_pos q]
        have q1 := Int32.le_iff_toInt_le.mp q
        refine ⟨_, rfl, ?_⟩
        show zUp M1 74 36 0 = zUp M1 74 36 (if 0 < S 0 13 - a then S 0 13 - a else 0)
        rw [if_neg (fun y => by have := Int32.lt_iff_toInt_lt.mp y; omega)]
      · rw [if_neg q]
        have q1 := mt Int32.le_iff_toInt_le.mpr q
        refine ⟨_, rfl, ?_⟩
        show zUp M1 74 36 (S 0 13 - a) = zUp M1 74 36 (if 0 < S 0 13 - a then S 0 13 - a else 0)
        rw [if_pos (Int32.lt_iff_toInt_lt.mpr (by omega))]
    obtain ⟨M', e3, e4⟩ := hfin
    subst e4
    refine ⟨_, e3, ?_, zFm_u f1 (by omega)⟩
    refine zMS_0 hsd g1 (fun c hc => zUp_off hc) (fun c hc _ => zUp_off hc) (fun i _ _ b3 _ => zUp_x b3) ⟨?_, ?_, ?_, ?_⟩ ?_
    · rw [zUp_x (by omega), zUp_x (by omega), n34]
    · rw [zUp_x (by omega), zUp_x (by omega), n35]
    · rw [zUp_s, zUp_s]
    · rw [zUp_x (by omega), zUp_x (by omega), n38]
    · intro i hi2
      rw [zUp_c (by omega), zUp_x (by omega), n3 i hi2]
  have g0 : zMS (zUp S 0 14 (S 0 14 + a)) (zUp M 74 35 (S 0 14 + a)) sd k e := by
    refine zMS_0 hsd h (fun c hc => zUp_off hc) (fun c hc _ => zUp_off hc) (fun i _ b2 _ _ => zUp_x b2) ⟨?_, ?_, ?_, ?_⟩ ?_
    · rw [zUp_x (by omega), zUp_x (by omega), m34]
    · rw [zUp_s, zUp_s]
    · rw [zUp_x (by omega), zUp_x (by omega), m36]
    · rw [zUp_x (by omega), zUp_x (by omega), m38]
    · intro i hi2
      rw [zUp_c (by omega), zUp_x (by omega), h3 i hi2]
  have f0 : zFm M (zUp M 74 35 (S 0 14 + a)) := zFm_u zFm_r (by omega)
  rw [zCk_t hi, zLt_eq, zCk_t hi, zLt_eq, m35, h97]
  have c97 : zUp M 74 35 (S 0 14 + a) 97 kk = a := by rw [zUp_c (by omega), h97]
  have c32 : zUp M 74 35 (S 0 14 + a) 74 32 = S 1 5 := by rw [zUp_x (by omega), m32]
  have c33 : zUp M 74 35 (S 0 14 + a) 74 33 = S 1 6 := by rw [zUp_x (by omega), m33]
  have c36 : zUp M 74 35 (S 0 14 + a) 74 36 = S 0 13 := by rw [zUp_x (by omega), m36]
  rw [c32, c33, c97, zUp_s]
  unfold s_ticks
  have hsp : ∀ T, (zUp T 0 14 (T 0 14 + a)) 1 = T 1 := fun T => zUp_off (by omega)
  -- what the floor's time comes to
  have hfree : zMS (s_free (zUp S 0 14 (S 0 14 + a))) (zUp (zUp (zUp (zUp (zUp M 74 35 (S 0 14 + a)) 74 33 (S 1 6 - a)) 74 32 (-1)) 74 33 0) 74 37 0) sd k e := by
    refine zMS_F hsd g0 (fun c hc => s_free_off _ _ hc) (fun c b1 _ _ => by rw [zUp_off b1, zUp_off b1, zUp_off b1, zUp_off b1]) (fun i _ b2 b3 b4 => by rw [zUp_x b4, zUp_x b3, zUp_x b2, zUp_x b3]) ?_ ?_
    · unfold s_free
      simp (disch := omega) only [zUp_x, zUp_s, zUp_c]
      exact ⟨m31, trivial, trivial, trivial⟩
    · unfold s_free
      refine ⟨fun i hi2 => ?_, fun i hi2 => ?_⟩
      · simp (disch := omega) only [zUp_x, zUp_c] at hi2 ⊢
        exact hQ.1 i hi2
      · simp (disch := omega) only [zUp_c]
        exact hQ.2 i hi2
  unfold s_spend
  rw [hsp]
  rcases hh with ⟨h5, h6, h7⟩ | ⟨h5, h6, h7⟩
  · have hz : zMax 0 (S 1 6 - a) = 0 := by
      show (if 0 < S 1 6 - a then S 1 6 - a else 0) = 0
      have := hsub (S 1 6) (by rw [h6]; decide)
      rw [if_neg (fun y => by
        have := Int32.lt_iff_toInt_lt.mp y
        rw [h6] at *
        omega)]
    rw [if_pos h5, if_pos hz, hz]
    have hsame : s_free (zUp (zUp S 0 14 (S 0 14 + a)) 1 6 0) = zUp S 0 14 (S 0 14 + a) := by
      unfold s_free
      funext c i
      by_cases q : c = 1
      · subst q
        by_cases q5 : i = 5
        · subst q5
          simp (disch := omega) only [zUp_x, zUp_s, zUp_c]
          rw [h5]
        by_cases q6 : i = 6
        · subst q6
          simp (disch := omega) only [zUp_x, zUp_s, zUp_c]
          rw [h6]
        by_cases q7 : i = 7
        · subst q7
          simp (disch := omega) only [zUp_x, zUp_s, zUp_c]
          rw [h7]
        · simp (disch := omega) only [zUp_x, zUp_c]
      · simp (disch := omega) only [zUp_c]
    rw [hsame]
    exact hB _ _ g0 f0 c97 c36 (fun i hi2 => zUp_x hi2)
  · have hn1 : ¬ S 1 5 = -1 := fun y => by
      rw [y] at h5
      exact absurd h5.1 (by decide +kernel)
    rw [if_neg hn1]
    have hs := hsub (S 1 6) (Int32.le_of_lt h6)
    by_cases q : 0 < S 1 6 - a
    · have hz : zMax 0 (S 1 6 - a) = S 1 6 - a := if_pos q
      have hne : ¬ S 1 6 - a = 0 := fun y => by
        rw [y] at q
        exact absurd q (by decide)
      rw [if_pos q, hz, if_neg hne]
      refine hB _ _ ?_ (zFm_u f0 (by omega)) (by rw [zUp_c (by omega), c97]) (by rw [zUp_x (by omega), c36]) (fun i hi2 => zUp_x hi2)
      refine zMS_F hsd g0 (fun c hc => zUp_off (by omega)) (fun c b1 _ _ => zUp_off b1) (fun i _ _ b3 _ => zUp_x b3) ?_ ?_
      · simp (disch := omega) only [zUp_x, zUp_s, zUp_c]
        exact ⟨m31, m32, trivial, m37⟩
      · refine ⟨fun i hi2 => ?_, fun i hi2 => ?_⟩
        · simp (disch := omega) only [zUp_x, zUp_c] at hi2 ⊢
          exact hQ.1 i hi2
        · simp (disch := omega) only [zUp_c]
          exact hQ.2 i hi2
    · have hz : zMax 0 (S 1 6 - a) = 0 := if_neg q
      rw [if_neg q, hz, if_pos rfl, f_X10_free, zLt_eq, zLt_eq, zLt_eq, zBd_some]
      have hsame : s_free (zUp (zUp S 0 14 (S 0 14 + a)) 1 6 0) = s_free (zUp S 0 14 (S 0 14 + a)) := by
        unfold s_free
        funext c i
        by_cases q : c = 1
        · subst q
          by_cases q5 : i = 5
          · subst q5
            simp (disch := omega) only [zUp_x, zUp_s]
          by_cases q6 : i = 6
          · subst q6
            simp (disch := omega) only [zUp_x, zUp_s]
          by_cases q7 : i = 7
          · subst q7
            simp (disch := omega) only [zUp_s]
          · simp (disch := omega) only [zUp_x]
        · simp (disch := omega) only [zUp_c]
      rw [hsame]
      refine hB _ _ hfree (zFm_u (zFm_u (zFm_u (zFm_u f0 (by omega)) (by omega)) (by omega)) (by omega)) ?_ ?_ (fun i hi2 => zUp_x hi2)
      · simp (disch := omega) only [zUp_c]
        exact h97
      · simp (disch := omega) only [zUp_x]
        exact m36
