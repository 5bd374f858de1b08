theorem zWA_c2 {E E' S : zMem} {k nq nm e : Nat} (h4 : E' 4 = E 4) (hl : ∀ i, i < k → E' 16 i = E 16 i) (hW : zWA E S k nq nm e) : zWA E' S k nq nm e := by
  obtain ⟨⟨hF, ⟨hm, hm8, hmo⟩, hO, h9⟩, hP, hR, hrest⟩ := hW
  refine ⟨⟨hF, ⟨hm, hm8, fun i hi => by rw [h4]; exact hmo i hi⟩, hO, h9⟩, hP, ?_, hrest⟩
  rcases hR with ⟨d1, d2⟩ | ⟨j, d1, d2, d3, d4⟩
  · exact Or.inl ⟨d1, fun i hi => by rw [hl i hi]; exact d2 i hi⟩
  · exact Or.inr ⟨j, d1, d2, by rw [hl j d1]; exact d3, fun i hi1 hi2 => by rw [hl i hi2]; exact d4 i hi1 hi2⟩
theorem zd_in23 {u : Int32} : ((0 : Int32).toInt ≤ u.toInt ∧ u.toInt ≤ (23 : Int32).toInt) ↔ zIn u 24 := by
  have e0 : (0 : Int32).toInt = 0 := by decide +kernel
  have e1 : (23 : Int32).toInt = 23 := by decide +kernel
  rw [e0, e1]
  exact ⟨fun x => ⟨x.1, by omega⟩, fun x => ⟨x.1, by have := x.2; omega⟩⟩
theorem zd_in7 {u : Int32} : ((0 : Int32).toInt ≤ u.toInt ∧ u.toInt ≤ (7 : Int32).toInt) ↔ zIn u 8 := by
  have e0 : (0 : Int32).toInt = 0 := by decide +kernel
  have e1 : (7 : Int32).toInt = 7 := by decide +kernel
  rw [e0, e1]
  exact ⟨fun x => ⟨x.1, by omega⟩, fun x => ⟨x.1, by have := x.2; omega⟩⟩
theorem q_school (u v : Int32) : zCall (f_X9_school u v) (f_X10_school u v) := by
  rintro M hI
  obtain ⟨n, nq, nm, e, t, hL, hE, ⟨hC, hS, hW⟩, hT, hJ⟩ := id hI
  have hno : ∀ r, f_X9_school u v M = some (r, M) → f_X10_school u v M = some (r, M) → ∃ r M1 M2, f_X9_school u v M = some (r, M1) ∧ f_X10_school u v M1 = some (r, M2) ∧ zInv M2 := fun r h1 h2 => ⟨r, M, M, h1, h2, hI⟩
  by_cases q1 : zIn u 24
  · by_cases q2 : zIn v 8
    · by_cases q3 : n = 0
      · subst q3
        obtain ⟨j, hj, ej⟩ := zIn_of q1
        subst ej
        have c16 : zUp M 14 j v 74 16 = 0 := by rw [zUp_c (by omega), hL.2.1]; rfl
        refine ⟨1, zUp M 14 j v, zUp (zUp M 14 j v) 93 j v, ?_, ?_, ?_⟩
        · rw [f_X9_school, k_isMember, zBd_some, yB_t q1, if_neg (by decide), k_isSchool, zBd_some, yB_t q2, if_neg (by decide), hL.1, if_pos (by decide), zCk_t q1, zLt_eq, zIx_n (by omega)]
        · rw [f_X10_school, k_in, zBd_some, yB_t (zd_in23.mpr q1), if_neg (by decide), k_in, zBd_some, yB_t (zd_in7.mpr q2), if_neg (by decide), c16, if_pos (by decide), zCk_t q1, zLt_eq, zIx_n (by omega)]
        · have f : ∀ c, c ≠ 14 → c ≠ 93 → zUp (zUp M 14 j v) 93 j v c = M c := fun c h1 h2 => by rw [zUp_off h2, zUp_off h1]
          have hrun : s_run (zUp (zUp M 14 j v) 93 j v) 0 = s_run M 0 := by
            show s_init _ = s_init _
            unfold s_init
            rw [f 3 (by omega) (by omega)]
          have f14 : ∀ m, zUp (zUp M 14 j v) 93 j v 93 m = if m = j then v else M 93 m := fun m => by
            by_cases y : m = j
            · subst y; rw [zUp_s, if_pos rfl]
            · rw [zUp_x y, zUp_c (by omega), if_neg y]
          have f93 : ∀ m, zUp (zUp M 14 j v) 93 j v 14 m = if m = j then v else M 14 m := fun m => by
            by_cases y : m = j
            · subst y; rw [zUp_c (by omega), zUp_s, if_pos rfl]
            · rw [zUp_c (by omega), zUp_x y, if_neg y]
          refine ⟨0, nq, nm, e, t, ⟨by rw [f 15 (by omega) (by omega)]; exact hL.1, by rw [f 74 (by omega) (by omega)]; exact hL.2.1, by omega, fun i hi => by omega⟩, ⟨?_, ?_, ?_⟩, ⟨?_, ?_, ?_⟩, ?_, ?_⟩
          · unfold zWE
            rw [f 3 (by omega) (by omega), f 4 (by omega) (by omega), f 5 (by omega) (by omega), f 6 (by omega) (by omega), f 7 (by omega) (by omega)]
            exact hE.1
          · unfold zMv
            rw [f 3 (by omega) (by omega), f 4 (by omega) (by omega), f 5 (by omega) (by omega), f 6 (by omega) (by omega), f 7 (by omega) (by omega), f 78 (by omega) (by omega), f 81 (by omega) (by omega), f 84 (by omega) (by omega), f 87 (by omega) (by omega), f 89 (by omega) (by omega), f 90 (by omega) (by omega), f 91 (by omega) (by omega), f 92 (by omega) (by omega)]
            refine ⟨hE.2.1.1, hE.2.1.2.1, hE.2.1.2.2.1, hE.2.1.2.2.2.1, hE.2.1.2.2.2.2.1, fun m hm => ?_⟩
            rw [f14, f93, hE.2.1.2.2.2.2.2 m hm]
          · rw [f 4 (by omega) (by omega), f 5 (by omega) (by omega)]
            exact hE.2.2
          · rw [hrun]
            exact zCS_c hC (fun c _ _ => f c (by omega) (by omega))
          · rw [hrun]
            exact zMS_c (by omega) hS (fun c _ => f c (by omega) (by omega)) (fun i _ => by rw [f 74 (by omega) (by omega)])
          · rw [hrun]
            exact zWA_c2 (f 4 (by omega) (by omega)) (fun i hi => by omega) hW
          · refine ⟨by rw [f 1 (by omega) (by omega)]; exact hT.1, by rw [f 74 (by omega) (by omega)]; exact hT.2.1, hT.2.2.1, fun i hi => ?_⟩
            rw [f 75 (by omega) (by omega), f 2 (by omega) (by omega)]
            exact hT.2.2.2 i hi
          · refine ⟨fun i hi => ?_, fun i m hi hm => ?_⟩
            · rw [f 124 (by omega) (by omega), f 65 (by omega) (by omega)]
              exact hJ.1 i hi
            · rw [f (133 + i) (by omega) (by omega), f (126 + i) (by omega) (by omega), f (67 + i) (by omega) (by omega)]
              exact hJ.2 i m hi hm
      · have hn := hL.2.2.1
        refine hno 0 ?_ ?_
        · rw [f_X9_school, k_isMember, zBd_some, yB_t q1, if_neg (by decide), k_isSchool, zBd_some, yB_t q2, if_neg (by decide), hL.1, if_neg (nI_nle (by omega) (by omega))]
        · rw [f_X10_school, k_in, zBd_some, yB_t (zd_in23.mpr q1), if_neg (by decide), k_in, zBd_some, yB_t (zd_in7.mpr q2), if_neg (by decide), hL.2.1, if_neg (nI_nle (by omega) (by omega))]
    · refine hno 0 ?_ ?_
      · rw [f_X9_school, k_isMember, zBd_some, yB_t q1, if_neg (by decide), k_isSchool, zBd_some, yB_f q2, if_pos rfl]
      · rw [f_X10_school, k_in, zBd_some, yB_t (zd_in23.mpr q1), if_neg (by decide), k_in, zBd_some, yB_f (fun y => q2 (zd_in7.mp y)), if_pos rfl]
  · refine hno 0 ?_ ?_
    · rw [f_X9_school, k_isMember, zBd_some, yB_f q1, if_pos rfl]
    · rw [f_X10_school, k_in, zBd_some, yB_f (fun y => q1 (zd_in23.mp y)), if_pos rfl]
theorem zPf_rule {E S : zMem} {k nq nm e : Nat} {w m d a b : Int32} (hW : zWA E S k nq nm e) (hw : zIn w 10) (h : s_rule E S w m d a b = 0 ∨ (s_rule E S w m d a b = 6 ∧ s_oth E S w d (s_rule E S w m d a b))) : zPf k nq nm w m d a b := zPf_of hW.1.1 (zPg_of hW hw h) hw
/-- the act of both -/
theorem q_act (w m d a b : Int32) : zCall (f_X9_act w m d a b) (f_X10_act w m d a b) := by
  rintro M hI
  obtain ⟨n, nq, nm, e, t, hL, hE, ⟨hC, hS, hW⟩, hT, hJ⟩ := id hI
  have e0 : (0 : Int32).toInt = 0 := by decide +kernel
  have e9 : (9 : Int32).toInt = 9 := by decide +kernel
  have hn := hL.2.2.1
  have hin : ((0 : Int32).toInt ≤ w.toInt ∧ w.toInt ≤ (9 : Int32).toInt) ↔ zIn w 10 := by
    rw [e0, e9]
    exact ⟨fun x => ⟨x.1, by omega⟩, fun x => ⟨x.1, by have := x.2; omega⟩⟩
  by_cases q : zIn w 10
  · have c1 : ¬ w < 0 := fun y => by have := Int32.lt_iff_toInt_lt.mp y; have := q.1; omega
    have c2 : ¬ 9 < w := fun y => by have := Int32.lt_iff_toInt_lt.mp y; have := q.2; omega
    by_cases qn : n = 300
    · refine ⟨-1, M, M, ?_, ?_, hI⟩
      · rw [f_X9_act, if_neg c1, if_neg c2, hL.1, if_neg (by rw [qn]; decide)]
      · rw [f_X10_act, k_in, zBd_some, yB_t (hin.mpr q), if_neg (by decide), hL.2.1, if_pos (by rw [qn]; decide)]
    · have hn3 : n < 300 := by omega
      have hi : zIn (nI n) 300 := zIn_n hn3 (by omega)
      -- the log of the program
      have hadd : ∃ Ma, f_X2_add w m d a b M = some (0, Ma) ∧ Ma 15 5 = nI (n + 1) ∧ (∀ c, c < 15 ∨ 20 < c → Ma c = M c) ∧ (∀ c i, 16 ≤ c → c ≤ 20 → i ≠ n → Ma c i = M c i) ∧ zLg Ma n w m d a b := by
        refine ⟨zUp (zUp (zUp (zUp (zUp (zUp M 16 n w) 17 n m) 18 n d) 19 n a) 20 n b) 15 5 (nI (n + 1)), ?_, zUp_s, fun c hc => by simp (disch := omega) only [zUp_off], fun c i h1 h2 h3 => by simp (disch := omega) only [zUp_x, zUp_c], ?_⟩
        · rw [f_X2_add, hL.1, k_isActNumber, zBd_some, yB_t hi, if_neg (by decide)]
          simp (disch := omega) only [zBd_some, zLt_eq, zUp_s, zUp_c, zUp_i, zCk_t, hL.1, zd_in, zCk_T, zIx_n, nI_1]
        · refine ⟨?_, ?_, ?_, ?_, ?_⟩ <;> simp (disch := omega) only [zUp_c, zUp_s]
      obtain ⟨Ma, ea, a15, aoff, alog, alg⟩ := hadd
      have hsmA : zSm M Ma := ⟨aoff 3 (by omega), aoff 4 (by omega), aoff 5 (by omega), aoff 6 (by omega), aoff 7 (by omega), aoff 14 (by omega)⟩
      have hrunA : s_run Ma n = s_run M n := s_run_c hsmA n (fun c i h1 h2 h3 => alog c i h1 h2 (by omega))
      have hWA : zWA Ma (s_run M n) n nq nm e := zWA_c hsmA (fun i h3 => alog 16 i (by omega) (by omega) (by omega)) hW
      have hCA : zCS 21 (s_run M n) Ma := zCS_c hC (fun c _ _ => aoff c (by omega))
      obtain ⟨M1, ew, hC1, hf1⟩ := k_work0 (o := 21) (by omega) hn3 hWA.1 (fun y => zPf_rule hWA q (Or.inl y)) hCA ⟨rfl, rfl, rfl, rfl, rfl, rfl⟩ alg
      have f1 : ∀ c, c < 21 ∨ 41 ≤ c → M1 c = Ma c := fun c hc => hf1 c (by omega)
      have hrun1 : s_run M1 (n + 1) = s_step Ma (s_run M n) n w m d a b (s_rule Ma (s_run M n) w m d a b) := by
        have hsm1 : zSm Ma M1 := ⟨f1 3 (by omega), f1 4 (by omega), f1 5 (by omega), f1 6 (by omega), f1 7 (by omega), f1 14 (by omega)⟩
        rw [s_run_c hsm1 (n + 1) (fun c i h1 h2 _ => by rw [f1 c (by omega)]), s_run_s, hrunA]
        unfold s_st
        rw [alg.1, alg.2.1, alg.2.2.1, alg.2.2.2.1, alg.2.2.2.2]
      -- the log of the reference
      have hm1 : ∀ c, 74 ≤ c → M1 c = M c := fun c hc => by rw [f1 c (by omega), aoff c (by omega)]
      have hb : ∃ Mb, Mb 74 16 = nI (n + 1) ∧ (∀ c, c < 94 ∨ 98 < c → c ≠ 74 → Mb c = M1 c) ∧ (∀ i, i ≠ 16 → Mb 74 i = M1 74 i) ∧ (∀ c i, 94 ≤ c → c ≤ 98 → i ≠ n → Mb c i = M1 c i) ∧ zLm Mb n w m d a b ∧ f_X10_act w m d a b M1 = zBd (f_X10_works (nI n) Mb) (fun _ M15 => zCk (zIn ((M15 74 16) - 1) 300) (some (M15 100 (zIx ((M15 74 16) - 1)), M15))) := by
        refine ⟨zUp (zUp (zUp (zUp (zUp (zUp M1 94 n w) 95 n m) 96 n d) 97 n a) 98 n b) 74 16 (nI (n + 1)), zUp_s, fun c h1 h2 => by simp (disch := omega) only [zUp_off], fun i h1 => by simp (disch := omega) only [zUp_x, zUp_c], fun c i h1 h2 h3 => by simp (disch := omega) only [zUp_x, zUp_c], ⟨?_, ?_, ?_, ?_, ?_⟩, ?_⟩
        · simp (disch := omega) only [zUp_c, zUp_s]
        · simp (disch := omega) only [zUp_c, zUp_s]
        · simp (disch := omega) only [zUp_c, zUp_s]
        · simp (disch := omega) only [zUp_c, zUp_s]
        · simp (disch := omega) only [zUp_c, zUp_s]
        · have m16 : M1 74 16 = nI n := by rw [hm1 74 (by omega), hL.2.1]
          rw [f_X10_act, k_in, zBd_some, yB_t (hin.mpr q), if_neg (by decide), m16, if_neg (show ¬ nI n = 300 from fun y => qn ((nI_eq (b := 300) (by omega) (by omega)).mp y))]
          simp (disch := omega) only [zBd_some, zLt_eq, zUp_s, zUp_c, zUp_i, zCk_t, m16, zd_in, zCk_T, zIx_n, nI_1, zd_sub, Nat.add_sub_cancel]
      obtain ⟨Mb, b16, boff, b74, blog, blm, hact⟩ := hb
      have hEb : zMv Ma Mb := by
        have := hE.2.1
        unfold zMv at this ⊢
        rw [boff 78 (by omega) (by omega), boff 81 (by omega) (by omega), boff 84 (by omega) (by omega), boff 87 (by omega) (by omega), boff 89 (by omega) (by omega), boff 90 (by omega) (by omega), boff 91 (by omega) (by omega), boff 92 (by omega) (by omega), boff 93 (by omega) (by omega), hm1 78 (by omega), hm1 81 (by omega), hm1 84 (by omega), hm1 87 (by omega), hm1 89 (by omega), hm1 90 (by omega), hm1 91 (by omega), hm1 92 (by omega), hm1 93 (by omega), aoff 3 (by omega), aoff 4 (by omega), aoff 5 (by omega), aoff 6 (by omega), aoff 7 (by omega), aoff 14 (by omega)]
        exact this
      have hWEa : zWE Ma := by
        have := hE.1
        unfold zWE at this ⊢
        rw [aoff 3 (by omega), aoff 4 (by omega), aoff 5 (by omega), aoff 6 (by omega), aoff 7 (by omega)]
        exact this
      have hSb : zMS (s_run M n) Mb 0 n e := zMS_c (by omega) hS (fun c _ => by rw [boff c (by omega) (by omega), hm1 c (by omega)]) (fun i _ => by rw [b74 i (by omega), hm1 74 (by omega)])
      have hlogb : ∀ i, i < n → Mb 94 i = Ma 16 i := fun i hi2 => by rw [blog 94 i (by omega) (by omega) (by omega), hm1 94 (by omega), (hL.2.2.2 i hi2).1, alog 16 i (by omega) (by omega) (by omega)]
      obtain ⟨M2, nq2, nm2, e2, x1, x2, x3, x4⟩ := g_works0 (sd := 0) (by omega) hn3 hWEa hEb hSb blm hlogb alg.1 hWA q (fun y => by omega)
      have c100 : M2 100 n = s_run M1 (n + 1) 16 n := by
        rw [hrun1]
        exact (x2.2.2.2.2.2.1.1 n (by omega)).1
      have h9 : s_run M1 (n + 1) 0 9 = nI (n + 1) := by
        rw [hrun1]
        exact x3.1.2.2.2
      rw [← hrun1] at hC1 x2 x3
      refine ⟨s_run M1 (n + 1) 16 n, M1, M2, ?_, ?_, ?_⟩
      · rw [f_X9_act, if_neg c1, if_neg c2, hL.1, if_pos (show nI n < 300 from nI_lt (b := 300) hn3 (by omega)), ea, zBd_some, ew, zBd_some, f_X7_rulingOf, k_wk hC1, zBd_some, zT_t ((wk_in (by omega) h9).mpr (zIn_n (by omega) (by omega))), if_neg (by decide), zCk_t hi, zBd_some, zIx_n (by omega), zCS_a hC1 16 (by omega) (by omega) (by rw [h9, zIx_n (by omega)]; omega)]
      · rw [hact, x1, zBd_some, x4.2 16 (by omega), b16, nI_pred, zCk_t hi, zIx_n (by omega), c100]
      · have f2 : ∀ c, c < 74 → M2 c = M1 c := fun c hc => by rw [x4.1 c (by omega), boff c (by omega) (by omega)]
        have f2b : ∀ c, (74 < c ∧ c < 94) ∨ c = 99 ∨ (121 < c ∧ c < 141) → M2 c = M1 c := fun c hc => by rw [x4.1 c (by omega), boff c (by omega) (by omega)]
        have hsm2 : zSm M1 M2 := ⟨f2 3 (by omega), f2 4 (by omega), f2 5 (by omega), f2 6 (by omega), f2 7 (by omega), f2 14 (by omega)⟩
        have hrun2 : s_run M2 (n + 1) = s_run M1 (n + 1) := s_run_c hsm2 (n + 1) (fun c i h1 h2 _ => by rw [f2 c (by omega)])
        have hsm3 : zSm Ma M2 := ⟨by rw [f2 3 (by omega), f1 3 (by omega)], by rw [f2 4 (by omega), f1 4 (by omega)], by rw [f2 5 (by omega), f1 5 (by omega)], by rw [f2 6 (by omega), f1 6 (by omega)], by rw [f2 7 (by omega), f1 7 (by omega)], by rw [f2 14 (by omega), f1 14 (by omega)]⟩
        refine ⟨n + 1, nq2, nm2, e2, t, ⟨by rw [f2 15 (by omega), f1 15 (by omega)]; exact a15, by rw [x4.2 16 (by omega)]; exact b16, by omega, fun i hi2 => ?_⟩, zIE_c hE (fun c i hc => ?_), ⟨?_, ?_, ?_⟩, ?_, ?_⟩
        · have g : ∀ c, 16 ≤ c → c ≤ 20 → M2 c = Ma c := fun c h1 h2 => by rw [f2 c (by omega), f1 c (by omega)]
          rw [g 16 (by omega) (by omega), g 17 (by omega) (by omega), g 18 (by omega) (by omega), g 19 (by omega) (by omega), g 20 (by omega) (by omega), x4.1 94 (by omega), x4.1 95 (by omega), x4.1 96 (by omega), x4.1 97 (by omega), x4.1 98 (by omega)]
          by_cases y : i = n
          · subst y
            rw [blm.1, blm.2.1, blm.2.2.1, blm.2.2.2.1, blm.2.2.2.2, alg.1, alg.2.1, alg.2.2.1, alg.2.2.2.1, alg.2.2.2.2]
            exact ⟨rfl, rfl, rfl, rfl, rfl, q⟩
          · have := hL.2.2.2 i (by omega)
            rw [blog 94 i (by omega) (by omega) y, blog 95 i (by omega) (by omega) y, blog 96 i (by omega) (by omega) y, blog 97 i (by omega) (by omega) y, blog 98 i (by omega) (by omega) y, hm1 94 (by omega), hm1 95 (by omega), hm1 96 (by omega), hm1 97 (by omega), hm1 98 (by omega), alog 16 i (by omega) (by omega) y, alog 17 i (by omega) (by omega) y, alog 18 i (by omega) (by omega) y, alog 19 i (by omega) (by omega) y, alog 20 i (by omega) (by omega) y]
            exact this
        · rcases Nat.lt_or_ge c 74 with y | y
          · rw [f2 c y, f1 c (by omega), aoff c (by omega)]
          · rw [f2b c (by omega), hm1 c (by omega)]
        · rw [hrun2]
          exact zCS_c hC1 (fun c _ _ => f2 c (by omega))
        · rw [hrun2]
          exact x2
        · rw [hrun2]
          exact zWA_c hsm3 (fun i _ => by rw [f2 16 (by omega), f1 16 (by omega)]) x3
        · refine ⟨by rw [f2 1 (by omega), f1 1 (by omega), aoff 1 (by omega)]; exact hT.1, by rw [x4.2 2 (by omega), b74 2 (by omega), hm1 74 (by omega)]; exact hT.2.1, hT.2.2.1, fun i hi2 => ?_⟩
          rw [f2b 75 (by omega), hm1 75 (by omega), f2 2 (by omega), f1 2 (by omega), aoff 2 (by omega)]
          exact hT.2.2.2 i hi2
        · refine ⟨fun j hj => ?_, fun j m hj hm => ?_⟩
          · rw [f2b 124 (by omega), hm1 124 (by omega), f2 65 (by omega), f1 65 (by omega), aoff 65 (by omega)]
            exact hJ.1 j hj
          · rw [f2b (133 + j) (by omega), hm1 (133 + j) (by omega), f2b (126 + j) (by omega), hm1 (126 + j) (by omega), f2 (67 + j) (by omega), f1 (67 + j) (by omega), aoff (67 + j) (by omega)]
            exact hJ.2 j m hj hm
  · refine ⟨-1, M, M, ?_, ?_, hI⟩
    · rw [f_X9_act]
      by_cases c1 : w < 0
      · rw [if_pos c1]
      · have y1 := mt Int32.lt_iff_toInt_lt.mpr c1
        rw [if_neg c1, if_pos]
        refine Int32.lt_iff_toInt_lt.mpr ?_
        rcases Int.lt_or_le w.toInt 10 with y | y
        · exact absurd ⟨by omega, by omega⟩ q
        · omega
    · rw [f_X10_act, k_in, zBd_some, yB_f (fun y => q (hin.mp y)), if_pos rfl]
