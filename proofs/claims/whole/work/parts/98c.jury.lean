/-! ===== judges ===== -/
theorem q_score (j s m p : Int32) : zCall (f_X9_score j s m p) (f_X10_score j s m p) := by
  rintro M hI
  obtain ⟨n, nq, nm, e, t, hL, hE, hS, hT, hJ⟩ := id hI
  have e0 : (0 : Int32).toInt = 0 := by decide +kernel
  have e5 : (5 : Int32).toInt = 5 := by decide +kernel
  have e100 : (100 : Int32).toInt = 100 := by decide +kernel
  have h5 : ((0 : Int32).toInt ≤ j.toInt ∧ j.toInt ≤ (5 : Int32).toInt) ↔ zIn j 6 := by
    rw [e0, e5]
    exact ⟨fun x => ⟨x.1, by omega⟩, fun x => ⟨x.1, by have := x.2; omega⟩⟩
  have h100 : ((0 : Int32).toInt ≤ p.toInt ∧ p.toInt ≤ (100 : Int32).toInt) ↔ zIn p 101 := by
    rw [e0, e100]
    exact ⟨fun x => ⟨x.1, by omega⟩, fun x => ⟨x.1, by have := x.2; omega⟩⟩
  have hif6 : ∀ a b : zTr, (if j < 0 then a else if 6 ≤ j then a else b) = if zIn j 6 then b else a := fun a b => by
    by_cases c1 : j < 0
    · have y := Int32.lt_iff_toInt_lt.mp c1
      rw [if_pos c1, if_neg (fun z => by have := z.1; omega)]
    · have y := mt Int32.lt_iff_toInt_lt.mpr c1
      rw [if_neg c1]
      by_cases c2 : 6 ≤ j
      · have e6 : (6 : Int32).toInt = 6 := by decide +kernel
        have z := Int32.le_iff_toInt_le.mp c2
        rw [if_pos c2, if_neg (fun z => by have := z.2; omega)]
      · have e6 : (6 : Int32).toInt = 6 := by decide +kernel
        have z := mt Int32.le_iff_toInt_le.mpr c2
        rw [if_neg c2, if_pos ⟨by omega, by omega⟩]
  have hif100 : ∀ a b : zTr, (if p < 0 then a else if p ≤ 100 then b else a) = if zIn p 101 then b else a := fun a b => by
    by_cases c1 : p < 0
    · have y := Int32.lt_iff_toInt_lt.mp c1
      rw [if_pos c1, if_neg (fun z => by have := z.1; omega)]
    · have y := mt Int32.lt_iff_toInt_lt.mpr c1
      rw [if_neg c1]
      by_cases c2 : p ≤ 100
      · have z := Int32.le_iff_toInt_le.mp c2
        rw [if_pos c2, if_pos ⟨by omega, by omega⟩]
      · have z := mt Int32.le_iff_toInt_le.mpr c2
        rw [if_neg c2, if_neg (fun w => by have := w.2; omega)]
  rw [f_X9_score, f_X1_take, hif6]
  have hm0 : ∀ M, f_X10_score j s m p M = if yB (zIn j 6) = 0 then some (0, M) else if yB (zIn s 8) = 0 then some (0, M) else if yB (zIn m 24) = 0 then some (0, M) else if yB (zIn p 101) = 0 then some (0, M) else zCk (zIn j 6) (if (M 124 (zIx j)) = (-1) then f_X10_score_B62 j s m p M else zCk (zIn j 6) (if (M 124 (zIx j)) = s then f_X10_score_B62 j s m p M else some (0, M))) := by
    intro M
    rw [f_X10_score, k_in, zBd_some, k_in, zBd_some, k_in, zBd_some, k_in, zBd_some, yB_congr h5, yB_congr zd_in7, yB_congr zd_in23, yB_congr h100]
  by_cases q1 : zIn j 6
  · rw [if_pos q1, k_isSchool, zBd_some]
    by_cases q2 : zIn s 8
    · rw [yB_t q2, if_neg (show ¬ (1 : Int32) = 0 by decide), k_isMember, zBd_some]
      by_cases q3 : zIn m 24
      · rw [yB_t q3, if_neg (show ¬ (1 : Int32) = 0 by decide), hif100]
        by_cases q4 : zIn p 101
        · rw [if_pos q4, zCk_t q1, zCk_t q1]
          obtain ⟨J, hJ6, eJ⟩ := zIn_of q1
          obtain ⟨mm, hmm, em⟩ := zIn_of q3
          subst eJ
          subst em
          have hm1 : ∀ M, f_X10_score (nI J) s (nI mm) p M = if (M 124 J) = (-1) then f_X10_score_B62 (nI J) s (nI mm) p M else (if (M 124 J) = s then f_X10_score_B62 (nI J) s (nI mm) p M else some (0, M)) := fun M => by
            rw [hm0 M, yB_t q1, yB_t q2, yB_t q3, yB_t q4, if_neg (by decide), if_neg (by decide), if_neg (by decide), if_neg (by decide), zCk_t q1, zCk_t q1, zIx_n (by omega)]
          rw [zIx_n (by omega)]
          by_cases qs : M 65 J = -1 ∨ M 65 J = s
          · have hcls : (if M 65 J = -1 then f_X1_take_B62 (nI J) s (nI mm) p M else if M 65 J = s then f_X1_take_B62 (nI J) s (nI mm) p M else some (0, M)) = some (1, zUp (zUp M 65 J s) (67 + J) mm p) := by
              have hb : f_X1_take_B62 (nI J) s (nI mm) p M = some (1, zUp (zUp M 65 J s) (67 + J) mm p) := by
                rw [f_X1_take_B62, zCk_t q1, zLt_eq, zCk_t q1, zCk_t q3, zLt_eq, zIx_n (by omega), zIx_n (by omega)]
              rw [hb]
              rcases qs with y | y
              · rw [if_pos y]
              · by_cases z : M 65 J = -1
                · rw [if_pos z]
                · rw [if_neg z, if_pos y]
            rw [hcls, zBd_some]
            have c124 : zUp (zUp M 65 J s) (67 + J) mm p 124 J = M 65 J := by rw [zUp_c (by omega), zUp_c (by omega), hJ.1 J hJ6]
            refine ⟨1, _, zUp (zUp (zUp (zUp (zUp M 65 J s) (67 + J) mm p) 124 J s) (126 + J) mm p) (133 + J) mm 1, rfl, ?_, ?_⟩
            · have hb : f_X10_score_B62 (nI J) s (nI mm) p (zUp (zUp M 65 J s) (67 + J) mm p) = some (1, zUp (zUp (zUp (zUp (zUp M 65 J s) (67 + J) mm p) 124 J s) (126 + J) mm p) (133 + J) mm 1) := by
                rw [f_X10_score_B62, zCk_t q1, zLt_eq, zCk_t q1, zCk_t q3, zLt_eq, zCk_t q1, zCk_t q3, zLt_eq, zIx_n (by omega), zIx_n (by omega)]
              rw [hm1, c124, hb]
              rcases qs with y | y
              · rw [if_pos y]
              · by_cases z : M 65 J = -1
                · rw [if_pos z]
                · rw [if_neg z, if_pos y]
            · have f : ∀ c, c ≠ 65 → c ≠ 67 + J → c ≠ 124 → c ≠ 126 + J → c ≠ 133 + J → zUp (zUp (zUp (zUp (zUp M 65 J s) (67 + J) mm p) 124 J s) (126 + J) mm p) (133 + J) mm 1 c = M c := fun c a1 a2 a3 a4 a5 => by rw [zUp_off a5, zUp_off a4, zUp_off a3, zUp_off a2, zUp_off a1]
              have hJ2 : zIJ (zUp (zUp (zUp (zUp (zUp M 65 J s) (67 + J) mm p) 124 J s) (126 + J) mm p) (133 + J) mm 1) := by
                refine ⟨fun i hi => ?_, fun i x hi hx => ?_⟩
                · by_cases y : i = J
                  · subst y
                    simp (disch := omega) only [zUp_c, zUp_s]
                  · simp (disch := omega) only [zUp_c, zUp_x]
                    exact hJ.1 i hi
                · by_cases y : i = J
                  · subst y
                    by_cases z : x = mm
                    · subst z
                      right
                      simp (disch := omega) only [zUp_c, zUp_s]
                      exact ⟨trivial, trivial, q4⟩
                    · simp (disch := omega) only [zUp_c, zUp_x]
                      exact hJ.2 i x hi hx
                  · simp (disch := omega) only [zUp_c]
                    exact hJ.2 i x hi hx
              generalize zUp (zUp (zUp (zUp (zUp M 65 J s) (67 + J) mm p) 124 J s) (126 + J) mm p) (133 + J) mm 1 = M2 at *
              obtain ⟨nn, hL2, hE2, hS2⟩ : ∃ nn, zIL M nn ∧ zIE M ∧ zIS M nn nq nm e := ⟨n, hL, hE, hS⟩
              have f74 : M2 74 = M 74 := f 74 (by omega) (by omega) (by omega) (by omega) (by omega)
              have ff : ∀ c, c < 65 ∨ (73 ≤ c ∧ c < 124) ∨ 139 ≤ c → M2 c = M c := fun c hc => f c (by omega) (by omega) (by omega) (by omega) (by omega)
              have hsm : zSm M M2 := ⟨ff 3 (by omega), ff 4 (by omega), ff 5 (by omega), ff 6 (by omega), ff 7 (by omega), ff 14 (by omega)⟩
              have hrun : s_run M2 n = s_run M n := s_run_c hsm n (fun c i h1 h2 _ => by rw [ff c (by omega)])
              refine ⟨n, nq, nm, e, t, ⟨by rw [ff 15 (by omega)]; exact hL.1, by rw [f74]; exact hL.2.1, hL.2.2.1, fun i hi => ?_⟩, zIE_c hE (fun c i hc => by rw [ff c (by omega)]), ⟨?_, ?_, ?_⟩, ?_, hJ2⟩
              · rw [ff 94 (by omega), ff 95 (by omega), ff 96 (by omega), ff 97 (by omega), ff 98 (by omega), ff 16 (by omega), ff 17 (by omega), ff 18 (by omega), ff 19 (by omega), ff 20 (by omega)]
                exact hL.2.2.2 i hi
              · rw [hrun]
                exact zCS_c hS.1 (fun c _ _ => ff c (by omega))
              · rw [hrun]
                exact zMS_c (by omega) hS.2.1 (fun c _ => ff c (by omega)) (fun i _ => by rw [f74])
              · rw [hrun]
                exact zWA_c hsm (fun i _ => by rw [ff 16 (by omega)]) hS.2.2
              · refine ⟨by rw [ff 1 (by omega)]; exact hT.1, by rw [f74]; exact hT.2.1, hT.2.2.1, fun i hi => ?_⟩
                rw [ff 75 (by omega), ff 2 (by omega)]
                exact hT.2.2.2 i hi
          · have y1 : ¬ M 65 J = -1 := fun z => qs (Or.inl z)
            have y2 : ¬ M 65 J = s := fun z => qs (Or.inr z)
            rw [if_neg y1, if_neg y2, zBd_some]
            exact ⟨0, M, M, rfl, by rw [hm1, hJ.1 J hJ6, if_neg y1, if_neg y2], hI⟩
        · rw [if_neg q4, zBd_some]
          exact ⟨0, M, M, rfl, by rw [hm0, yB_t q1, yB_t q2, yB_t q3, yB_f q4, if_neg (by decide), if_neg (by decide), if_neg (by decide), if_pos rfl], hI⟩
      · rw [yB_f q3, if_pos rfl, zBd_some]
        exact ⟨0, M, M, rfl, by rw [hm0, yB_t q1, yB_t q2, yB_f q3, if_neg (by decide), if_neg (by decide), if_pos rfl], hI⟩
    · rw [yB_f q2, if_pos rfl, zBd_some]
      exact ⟨0, M, M, rfl, by rw [hm0, yB_t q1, yB_f q2, if_neg (by decide), if_pos rfl], hI⟩
  · rw [if_neg q1, zBd_some]
    exact ⟨0, M, M, rfl, by rw [hm0, yB_f q1, if_pos rfl], hI⟩
