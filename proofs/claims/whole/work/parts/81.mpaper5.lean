theorem s_pl_14 {S : zMem} {n : Nat} {v : Int32} (k i : Nat) : s_pl (zUp S 14 n v) k i = s_pl S k i := s_pl_cong k i (fun j _ _ => ⟨zUp_c (by omega), by rw [zUp_c (by omega)]⟩)
theorem s_bf_14 {S : zMem} {n : Nat} {v u c : Int32} : ∀ k i, s_bf (zUp S 14 n v) u c k i = s_bf S u c k i
  | 0, _ => rfl
  | k + 1, i => by
    have h13 : zUp S 14 n v 13 = S 13 := zUp_off (by omega)
    have h15 : zUp S 14 n v 15 = S 15 := zUp_off (by omega)
    rw [s_bf, s_bf, s_bf_14 k (i + 1), h13, h15]
theorem g_txt {S M : zMem} {e n i0 : Nat} {v : Int32} (hw : zWP S e) (h : zMP S M e) (hn : n < e) (ht : S 15 n = 0) (hi0 : i0 < e) (ei : S 13 i0 = nI n) (hv : 0 ≤ v) : zWP (zUp S 14 n v) e ∧ zMP (zUp S 14 n v) (zUp M 120 (s_pl S i0 0).length v) e ∧ zFp M (zUp M 120 (s_pl S i0 0).length v) := by
  obtain ⟨hO, h5, h40, h30, h31, hc⟩ := hw
  obtain ⟨⟨m48, m49, m50, mA⟩, hG⟩ := h
  have h12 : zUp S 14 n v 12 = S 12 := zUp_off (by omega)
  have h13 : zUp S 14 n v 13 = S 13 := zUp_off (by omega)
  have h15 : zUp S 14 n v 15 = S 15 := zUp_off (by omega)
  have hcut := s_pl_cut hO hi0 ei hn ht
  have hni := s_pl_notin hO hi0 ei hn
  refine ⟨⟨?_, ?_, ?_, ?_, ?_, ?_⟩, ⟨⟨?_, ?_, ?_, ?_⟩, ?_⟩, ⟨fun c b1 b2 b3 b4 b5 => zUp_off b3, fun i _ _ _ => zUp_c (by omega)⟩⟩
  · unfold zWO
    rw [h12, h13]
    exact hO
  · rw [h12, s_pl_14, h5]
  · rw [s_pl_14]; exact h40
  · rw [h12]; exact h30
  · rw [h12]; exact h31
  · intro x hx
    rw [h15]
    refine ⟨(hc x hx).1, ?_⟩
    by_cases q : x = n
    · subst q; rw [zUp_s]; exact hv
    · rw [zUp_x q]; exact (hc x hx).2
  · rw [zUp_c (by omega), h12, m48]
  · rw [zUp_c (by omega), s_pl_14, m49]
  · rw [zUp_c (by omega), h12, m50]
  · intro i hi
    rw [s_pl_14] at hi ⊢
    have hm := mA i hi
    rw [zUp_c (by omega)]
    refine ⟨hm.1, ?_⟩
    by_cases q : i = (s_pl S i0 0).length
    · have hidx : (s_pl S e 0).getD i 0 = n := by
        rw [hcut, q, zL_app2 (Nat.le_refl _), Nat.sub_self]
        rfl
      rw [hidx, zUp_s, q, zUp_s]
    · have hidx : (s_pl S e 0).getD i 0 ≠ n := by
        rw [hcut] at hi ⊢
        rcases Nat.lt_or_ge i (s_pl S i0 0).length with q2 | q2
        · rw [zL_app1 q2]
          exact fun y => hni.1 (by rw [← y]; exact zL_mem q2)
        · simp only [List.length_append, List.length_cons] at hi
          rw [zL_app2 q2, zL_cons (by omega)]
          exact fun y => hni.2 (by rw [← y]; exact zL_mem (by omega))
      rw [zUp_x q, zUp_x hidx]
      exact hm.2
  · intro m hm hg
    rw [h15] at hg
    obtain ⟨A, b1, b2, b3, b4, b5⟩ := hG m hm hg
    refine ⟨A, b1, by rw [zUp_c (by omega), b2], fun i hi => by rw [zUp_c (by omega), b3 i hi], by rw [h15]; exact b4, ?_⟩
    rw [h15, s_bf_14]
    exact b5
/-- the paper amended, by both -/
theorem g_amend {S M : zMem} {e A : Nat} {b : Int32} (hw : zWP S e) (h : zMP S M e) (he : e < 320) (hA : A < 1000) (hb : 0 ≤ b) : ∃ M' e', f_X10_amends (nI A) b M = some (0, M') ∧ zWP (s_amend S A b) e' ∧ zMP (s_amend S A b) M' e' ∧ zFp M M' ∧ e' ≤ e + 1 := by
  have hw0 := hw
  have h0 := h
  obtain ⟨hO, h5, h40, h30, h31, hc⟩ := hw
  obtain ⟨⟨m48, m49, m50, mA⟩, hG⟩ := h
  have hx := zO_x hO.1 hO.2.1
  have hd := zd_div A hA
  have hlt : ∀ x, x ∈ s_pl S e 0 → x < 2 ^ 31 := fun x hx => by
    have := ((s_pl_in hO).mp hx).1
    omega
  rw [f_X10_amends, hd.2, hd.1, g_placeOf hw0 h0.1, zBd_some, m48, m50, m49]
  unfold s_amend
  rw [hx]
  have hsame : ∃ M' e', some ((0 : Int32), M) = some (0, M') ∧ zWP S e' ∧ zMP S M' e' ∧ zFp M M' ∧ e' ≤ e + 1 := ⟨M, e, rfl, hw0, h0, zFp_r, by omega⟩
  by_cases q3 : S 12 3 = 0
  · have e0 := h30 q3
    rw [if_pos q3]
    have hS : (if A % 4 = 0 then s_add S (A / 4) b else if ¬ (A / 4 < e ∧ S 15 (A / 4) = 0) then S else if A % 4 = 1 then s_rem S (A / 4) else if A % 4 = 2 then zUp S 14 (A / 4) b else (fun (S1 : zMem) => if zIn (zBh (s_pl S e 0) (nI (A / 4))) e ∧ S1 15 (zIx (zBh (s_pl S e 0) (nI (A / 4)))) = 0 then s_rem S1 (zIx (zBh (s_pl S e 0) (nI (A / 4)))) else S1) (zUp S 14 (A / 4) (zMax (S 14 (A / 4)) (s_txt S (zBh (s_pl S e 0) (nI (A / 4))))))) = S := by
      by_cases c0 : A % 4 = 0
      · rw [if_pos c0]
        unfold s_add
        rw [hx, if_neg (by omega)]
      · rw [if_neg c0, if_pos (by omega)]
    rw [hS]
    exact hsame
  rw [if_neg q3, hO.1]
  have h31' : S 12 3 = 1 := h31.elim (fun y => absurd y q3) id
  by_cases q4 : A / 4 < e
  · rw [if_pos (nI_lt q4 (by omega))]
    obtain ⟨i0, hi0, ei⟩ := zWO_onto hO q4
    by_cases c0 : A % 4 = 0
    · rw [if_pos c0, if_pos (show nI (A % 4) = 0 by rw [c0]; rfl)]
      by_cases c1 : 40 ≤ (s_pl S e 0).length
      · rw [if_pos (show (40 : Int32) ≤ nI (s_pl S e 0).length from nI_le (a := 40) c1 (by omega))]
        unfold s_add
        rw [hx, h5, if_neg (fun y => nI_nlt (b := 40) c1 (by omega) y.2)]
        exact hsame
      · rw [if_neg (show ¬ (40 : Int32) ≤ nI (s_pl S e 0).length from nI_ge (b := 40) (by omega) (by omega))]
        have hadd : s_add S (A / 4) b = s_ins S (s_spot S (nI (A / 4)) (if S 15 (A / 4) = 0 then nI e else S 15 (A / 4)) e 0 0) b := by
          unfold s_add
          rw [hx, h5, hO.1, if_pos ⟨q4, nI_lt (b := 40) (by omega) (by omega)⟩]
        rw [hadd]
        have hsl := s_spot_le S (nI (A / 4)) (if S 15 (A / 4) = 0 then nI e else S 15 (A / 4)) e 0 0 (by omega)
        obtain ⟨M', e1, a1, a2⟩ := g_ins hw0 h0 (s := s_spot S (nI (A / 4)) (if S 15 (A / 4) = 0 then nI e else S 15 (A / 4)) e 0 0) (by omega) he (by omega) b
        have a0 := zWP_ins hw0 (s := s_spot S (nI (A / 4)) (if S 15 (A / 4) = 0 then nI e else S 15 (A / 4)) e 0 0) (by omega) he (by omega) h31' hb
        refine ⟨M', e + 1, ?_, a0, a1, a2, by omega⟩
        by_cases qt : S 15 (A / 4) = 0
        · rw [if_pos qt] at e1
          obtain ⟨j, _, j2, j3, j4⟩ := s_spot_there hO q4 qt e 0 0 (by omega) ⟨i0, by omega, hi0, ei⟩
          have hat := s_pl_at hO j2 q4 j3 qt
          have hjl := s_pl_len S j 0
          rw [hat.1, if_neg (show ¬ nI (s_pl S j 0).length = -1 by rw [zd_e1 (by omega)]; exact fun y => y), nI_1, f_X10_amends_B61]
          rw [j4, hat.2] at e1
          rw [e1, zBd_some]
        · rw [if_neg qt] at e1
          have hout : zPo (s_pl S e 0) (nI (A / 4)) 0 = -1 := (zPo_1 0 (by omega)).mpr (fun x hx2 y => by
            have hx3 := (s_pl_in hO).mp hx2
            have := (nI_eq (by omega) (by omega)).mp y
            rw [this] at hx3
            exact qt hx3.2)
          rw [if_pos hout, g_bg hw0 h0 q4 qt, zBd_some, f_X10_amends_B61, e1, zBd_some]
    · rw [if_neg c0, if_neg (show ¬ nI (A % 4) = 0 from nI_ne0 (by omega) (by omega))]
      by_cases qt : S 15 (A / 4) = 0
      · have hat := s_pl_at hO hi0 q4 ei qt
        have hjl := s_pl_len S i0 0
        have hcut := s_pl_cut hO hi0 ei q4 qt
        have hni := s_pl_notin hO hi0 ei q4
        have hlen : (s_pl S e 0).length = (s_pl S i0 0).length + 1 + (s_pl S (e - i0 - 1) (i0 + 1)).length := by
          rw [hcut]
          simp
          omega
        rw [if_neg (show ¬ ¬ (A / 4 < e ∧ S 15 (A / 4) = 0) from fun y => y ⟨q4, qt⟩), hat.1, if_neg (show ¬ nI (s_pl S i0 0).length = -1 by rw [zd_e1 (by omega)]; exact fun y => y)]
        by_cases c1 : A % 4 = 1
        · rw [if_pos c1, if_pos (show nI (A % 4) = 1 by rw [c1]; rfl)]
          obtain ⟨w1, M', e1, a1, a2⟩ := g_rem hw0 h0 (by omega) q4 qt hi0 ei
          exact ⟨M', e, by rw [e1, zBd_some], w1, a1, a2, by omega⟩
        · rw [if_neg c1, if_neg (show ¬ nI (A % 4) = 1 from fun y => c1 ((nI_eq (b := 1) (by omega) (by omega)).mp y))]
          by_cases c2 : A % 4 = 2
          · rw [if_pos c2, if_pos (show nI (A % 4) = 2 by rw [c2]; rfl), zCk_t (zIn_n (by omega) (by omega)), zLt_eq, zIx_n (by omega)]
            obtain ⟨w1, a1, a2⟩ := g_txt hw0 h0 q4 qt hi0 ei hb
            exact ⟨_, e, rfl, w1, a1, a2, by omega⟩
          · rw [if_neg c2, if_neg (show ¬ nI (A % 4) = 2 from fun y => c2 ((nI_eq (b := 2) (by omega) (by omega)).mp y)), nI_1]
            have hbh : zBh (s_pl S e 0) (nI (A / 4)) = zHd (s_pl S (e - i0 - 1) (i0 + 1)) := by
              rw [hcut, zBh_app (by omega) _ _ hni.1 (fun x hx2 => by
                have := s_pl_lt hO (by omega) hx2
                omega)]
            rw [hbh]
            cases hL : s_pl S (e - i0 - 1) (i0 + 1) with
            | nil =>
              rw [hL] at hlen
              simp only [List.length_nil] at hlen
              rw [if_pos (nI_le (by omega) (by omega))]
              have ht1 : s_txt S (zHd []) = -1 := by
                unfold s_txt
                rw [if_neg]
                intro y
                exact absurd y.1.1 (by decide +kernel)
              have h14 := (hc (A / 4) q4).2
              have hmx : zMax (S 14 (A / 4)) (-1) = S 14 (A / 4) := by
                show (if S 14 (A / 4) < -1 then _ else _) = _
                rw [if_neg]
                intro y
                have y1 := Int32.lt_iff_toInt_lt.mp y
                have y2 := Int32.le_iff_toInt_le.mp h14
                have e0 : (0 : Int32).toInt = 0 := by decide +kernel
                have e1 : (-1 : Int32).toInt = -1 := by decide +kernel
                omega
              rw [ht1, hmx, zUp_self]
              show ∃ M' e', _ ∧ zWP (if zIn (-1) e ∧ _ then _ else _) e' ∧ _
              rw [if_neg (fun y => absurd y.1.1 (by decide +kernel))]
              exact hsame
            | cons y L =>
              rw [hL] at hlen hcut
              simp only [List.length_cons] at hlen
              have hymem : y ∈ s_pl S (e - i0 - 1) (i0 + 1) := by rw [hL]; simp
              obtain ⟨j, j1, j2, j3, j4⟩ := (s_pl_mem S y _ _).mp hymem
              have hje : j < e := by omega
              have hye : y < e := by rw [← j3]; exact zIx_lt (hO.2.2.1 j hje)
              have ej : S 13 j = nI y := by
                obtain ⟨o, ho, eo⟩ := zIn_of (hO.2.2.1 j hje)
                rw [eo, zIx_n (by omega)] at j3
                rw [eo, j3]
              have hyn : y ≠ A / 4 := fun z => hni.2 (by rw [← z]; exact hymem)
              have hatj := s_pl_at hO hje hye ej j4
              have hposj : (s_pl S j 0).length = (s_pl S i0 0).length + 1 := by
                have e2 : s_pl S e 0 = (s_pl S i0 0 ++ [A / 4]) ++ y :: L := by rw [hcut]; simp
                have hyi : y ∉ s_pl S i0 0 ++ [A / 4] := by
                  intro z
                  rcases List.mem_append.mp z with z | z
                  · rw [s_pl_mem] at z
                    obtain ⟨j5, _, k2, k3, _⟩ := z
                    have := zWO_one hO (i := j5) (j := j) (by omega) hje (k3.trans j3.symm)
                    omega
                  · simp at z
                    exact hyn z
                have e3 := zPo_app (n := y) (by omega) L (s_pl S i0 0 ++ [A / 4]) 0 hyi (fun x hx2 => by
                  refine hlt x ?_
                  rw [e2]
                  exact List.mem_append.mpr (Or.inl hx2))
                rw [← e2, hatj.1] at e3
                have := (nI_eq (by have := s_pl_len S j 0; omega) (by simp; omega)).mp e3
                simp at this
                omega
              have hmi := (mA (s_pl S i0 0).length (by omega)).2
              have hidx : (s_pl S e 0).getD (s_pl S i0 0).length 0 = A / 4 := by
                rw [hcut, zL_app2 (Nat.le_refl _), Nat.sub_self]
                rfl
              have hmj := (mA ((s_pl S i0 0).length + 1) (by omega)).2
              have hidy : (s_pl S e 0).getD ((s_pl S i0 0).length + 1) 0 = y := by
                rw [hcut, zL_app2 (by omega), zL_cons (by omega), show (s_pl S i0 0).length + 1 - (s_pl S i0 0).length - 1 = 0 by omega]
                rfl
              rw [hidx] at hmi
              rw [hidy] at hmj
              rw [if_neg (nI_ge (by omega) (by omega)), zCk_t (zIn_n (by omega) (by omega)), zCk_t (zIn_n (by omega) (by omega)), zCk_t (zIn_n (by omega) (by omega)), zCk_t (zIn_n (by omega) (by omega)), zIx_n (by omega), zIx_n (by omega), hmi, hmj]
              have ht1 : s_txt S (zHd (y :: L)) = S 14 y := by
                unfold s_txt
                rw [hx]
                show (if zIn (nI y) e ∧ S 15 (zIx (nI y)) = 0 then S 14 (zIx (nI y)) else -1) = _
                rw [zIx_n (by omega), if_pos ⟨zIn_n hye (by omega), j4⟩]
              rw [ht1, show zHd (y :: L) = nI y from rfl]
              show ∃ M' e', _ ∧ zWP (if zIn (nI y) e ∧ _ then _ else _) e' ∧ zMP (if zIn (nI y) e ∧ _ then _ else _) M' e' ∧ _
              have hz : zIn (nI y) e ∧ zUp S 14 (A / 4) (zMax (S 14 (A / 4)) (S 14 y)) 15 (zIx (nI y)) = 0 := ⟨zIn_n hye (by omega), by rw [zUp_c (by omega), zIx_n (by omega)]; exact j4⟩
              rw [if_pos hz, show zIx (nI y) = y from zIx_n (by omega)]
              have hmx : 0 ≤ zMax (S 14 (A / 4)) (S 14 y) := by
                show 0 ≤ (if S 14 (A / 4) < S 14 y then S 14 y else S 14 (A / 4))
                by_cases z : S 14 (A / 4) < S 14 y
                · rw [if_pos z]; exact (hc y hye).2
                · rw [if_neg z]; exact (hc _ q4).2
              obtain ⟨w1, a1, a2⟩ := g_txt hw0 h0 q4 qt hi0 ei hmx
              obtain ⟨w2, M', e1, b1, b2⟩ := g_rem (n := y) (i0 := j) w1 a1 (by omega) hye (by rw [zUp_c (by omega)]; exact j4) hje (by rw [zUp_c (by omega)]; exact ej)
              rw [s_pl_14, hposj] at e1
              refine ⟨M', e, ?_, w2, b1, zFp_t a2 b2, by omega⟩
              have hB : ∀ v, v = zMax (S 14 (A / 4)) (S 14 y) → f_X10_amends_B162 (nI A) b (nI (s_pl S i0 0).length) v (nI (s_pl S i0 0).length) M = some (0, M') := by
                intro v hv
                subst hv
                rw [f_X10_amends_B162, zCk_t (zIn_n (by omega) (by omega)), zLt_eq, zIx_n (by omega), nI_1, e1, zBd_some]
              by_cases z : S 14 (A / 4) ≤ S 14 y
              · rw [if_pos z]
                refine hB _ ?_
                show S 14 y = (if S 14 (A / 4) < S 14 y then S 14 y else S 14 (A / 4))
                by_cases z2 : S 14 (A / 4) < S 14 y
                · rw [if_pos z2]
                · rw [if_neg z2]
                  exact Int32.le_antisymm (Int32.not_lt.mp z2) z
              · rw [if_neg z]
                refine hB _ ?_
                show S 14 (A / 4) = (if S 14 (A / 4) < S 14 y then S 14 y else S 14 (A / 4))
                rw [if_neg (fun z2 => z (Int32.le_of_lt z2))]
      · have hout : zPo (s_pl S e 0) (nI (A / 4)) 0 = -1 := (zPo_1 0 (by omega)).mpr (fun x hx2 y => by
          have hx3 := (s_pl_in hO).mp hx2
          have := (nI_eq (by omega) (by omega)).mp y
          rw [this] at hx3
          exact qt hx3.2)
        rw [if_pos (show ¬ (A / 4 < e ∧ S 15 (A / 4) = 0) from fun y => qt y.2), if_pos hout]
        exact hsame
  · rw [if_neg (by rw [nI_ltI (by omega) (by omega)]; exact q4)]
    have hS : (if A % 4 = 0 then s_add S (A / 4) b else if ¬ (A / 4 < e ∧ S 15 (A / 4) = 0) then S else if A % 4 = 1 then s_rem S (A / 4) else if A % 4 = 2 then zUp S 14 (A / 4) b else (fun (S1 : zMem) => if zIn (zBh (s_pl S e 0) (nI (A / 4))) e ∧ S1 15 (zIx (zBh (s_pl S e 0) (nI (A / 4)))) = 0 then s_rem S1 (zIx (zBh (s_pl S e 0) (nI (A / 4)))) else S1) (zUp S 14 (A / 4) (zMax (S 14 (A / 4)) (s_txt S (zBh (s_pl S e 0) (nI (A / 4))))))) = S := by
      by_cases c0 : A % 4 = 0
      · rw [if_pos c0]
        unfold s_add
        rw [hx, if_neg (by omega)]
      · rw [if_neg c0, if_pos (by omega)]
    rw [hS]
    exact hsame
