/-- of the reference's cells, only those of the paper are changed -/
def zFp (M M' : zMem) : Prop := (∀ c, c ≠ 74 → c ≠ 119 → c ≠ 120 → c ≠ 121 → c < 141 → M' c = M c) ∧ (∀ i, i ≠ 48 → i ≠ 49 → i ≠ 50 → M' 74 i = M 74 i)
theorem zFp_r {M : zMem} : zFp M M := ⟨fun _ _ _ _ _ _ => rfl, fun _ _ _ _ => rfl⟩
theorem zFp_t {M M1 M2 : zMem} (h1 : zFp M M1) (h2 : zFp M1 M2) : zFp M M2 := ⟨fun c a b d e f => (h2.1 c a b d e f).trans (h1.1 c a b d e f), fun i a b d => (h2.2 i a b d).trans (h1.2 i a b d)⟩
theorem s_ins_13 {S : zMem} {e s : Nat} (hn : S 12 4 = nI e) (t : Int32) (j : Nat) : s_ins S s t 13 j = if j < s then S 13 j else if j = s then nI e else S 13 (j - 1) := by
  unfold s_ins
  rw [zUp_c (by omega), zUp_c (by omega), zUp_c (by omega), zUp_c (by omega), yPc_s, hn]
theorem s_ins_15 {S : zMem} {e s : Nat} (hx : zIx (S 12 4) = e) (t : Int32) (x : Nat) : s_ins S s t 15 x = if x = e then 0 else S 15 x := by
  unfold s_ins
  rw [hx, zUp_c (by omega), zUp_c (by omega)]
  by_cases q : x = e
  · subst q
    rw [zUp_s, if_pos rfl]
  · rw [zUp_x q, zUp_c (by omega), yPc_c (by omega), if_neg q]
theorem s_ins_14 {S : zMem} {e s : Nat} (hx : zIx (S 12 4) = e) (t : Int32) (x : Nat) : s_ins S s t 14 x = if x = e then t else S 14 x := by
  unfold s_ins
  rw [hx, zUp_c (by omega), zUp_c (by omega), zUp_c (by omega)]
  by_cases q : x = e
  · subst q
    rw [zUp_s, if_pos rfl]
  · rw [zUp_x q, yPc_c (by omega), if_neg q]
theorem s_ins_3 (S : zMem) (s : Nat) (t : Int32) : s_ins S s t 12 3 = S 12 3 := by
  unfold s_ins
  rw [zUp_x (by omega), zUp_x (by omega), zUp_c (by omega), zUp_c (by omega), yPc_c (by omega)]
theorem s_ins_5 (S : zMem) (s : Nat) (t : Int32) : s_ins S s t 12 5 = S 12 5 + 1 := by
  unfold s_ins
  rw [zUp_s]
theorem zWO_ins {S : zMem} {e s : Nat} (hw : zWO S e) (hs : s ≤ e) (he : e < 320) (t : Int32) : zWO (s_ins S s t) (e + 1) := by
  have hx := zO_x hw.1 hw.2.1
  obtain ⟨hn, h320, h1, h2⟩ := hw
  have h13 := s_ins_13 (s := s) hn t
  refine ⟨by rw [s_ins_4, hx], by omega, ?_, ?_⟩
  · intro i hi
    rw [h13 i]
    by_cases q1 : i < s
    · rw [if_pos q1]
      have := h1 i (by omega)
      exact ⟨this.1, by have := this.2; omega⟩
    · rw [if_neg q1]
      by_cases q2 : i = s
      · rw [if_pos q2]
        exact zIn_n (by omega) (by omega)
      · rw [if_neg q2]
        have := h1 (i - 1) (by omega)
        exact ⟨this.1, by have := this.2; omega⟩
  · have hne : ∀ i, i < e → S 13 i ≠ nI e := by
      intro i hi y
      obtain ⟨o, ho, eo⟩ := zIn_of (h1 i hi)
      rw [eo] at y
      have := (nI_eq (by omega) (by omega)).mp y
      omega
    intro i j hij hj
    rw [h13 i, h13 j]
    by_cases qi : i < s
    · rw [if_pos qi]
      by_cases qj : j < s
      · rw [if_pos qj]; exact h2 i j hij (by omega)
      · rw [if_neg qj]
        by_cases qj2 : j = s
        · rw [if_pos qj2]; exact hne i (by omega)
        · rw [if_neg qj2]; exact h2 i (j - 1) (by omega) (by omega)
    · rw [if_neg qi, if_neg (by omega : ¬ j < s), if_neg (by omega : ¬ j = s)]
      by_cases qi2 : i = s
      · rw [if_pos qi2]
        exact fun y => hne (j - 1) (by omega) y.symm
      · rw [if_neg qi2]; exact h2 (i - 1) (j - 1) (by omega) (by omega)
theorem zWP_ins {S : zMem} {e s : Nat} (hw : zWP S e) (hs : s ≤ e) (he : e < 320) (h40 : (s_pl S e 0).length < 40) (h3 : S 12 3 = 1) {t : Int32} (ht : 0 ≤ t) : zWP (s_ins S s t) (e + 1) := by
  obtain ⟨hO, h5, _, _, _, hc⟩ := hw
  have hx := zO_x hO.1 hO.2.1
  have hl : (s_pl (s_ins S s t) (e + 1) 0).length = (s_pl S e 0).length + 1 := by
    rw [s_pl_ins hO hs he]
    have := s_pl_split S s (e - s) 0
    rw [show s + (e - s) = e by omega, Nat.zero_add] at this
    rw [this]
    simp
    omega
  refine ⟨zWO_ins hO hs he t, by rw [s_ins_5, h5, hl, nI_1], by omega, fun y => ?_, by rw [s_ins_3, h3]; exact Or.inr rfl, fun n hn => ?_⟩
  · rw [s_ins_3, h3] at y
    exact absurd y (by decide)
  · rw [s_ins_15 hx, s_ins_14 hx]
    by_cases q : n = e
    · rw [if_pos q, if_pos q]
      exact ⟨Or.inl rfl, ht⟩
    · rw [if_neg q, if_neg q]
      have := hc n (by omega)
      refine ⟨this.1.elim Or.inl (fun ⟨c, h1, h2, h4⟩ => Or.inr ⟨c, h1, by omega, h4⟩), this.2⟩
theorem g_ins {S M : zMem} {e s : Nat} (hw : zWP S e) (h : zMP S M e) (hs : s ≤ e) (he : e < 320) (h40 : (s_pl S e 0).length < 40) (t : Int32) : ∃ M', f_X10_adds (nI (s_pl S s 0).length) t M = some (0, M') ∧ zMP (s_ins S s t) M' (e + 1) ∧ zFp M M' := by
  obtain ⟨hO, h5, _, _, _, hc⟩ := hw
  obtain ⟨⟨m48, m49, m50, mA⟩, hG⟩ := h
  have hx := zO_x hO.1 hO.2.1
  have hsp : s_pl S e 0 = s_pl S s 0 ++ s_pl S (e - s) s := by
    have := s_pl_split S s (e - s) 0
    rw [show s + (e - s) = e by omega, Nat.zero_add] at this
    exact this
  have hlt : ∀ x, x ∈ s_pl S e 0 → x < e := fun x hx => ((s_pl_in hO).mp hx).1
  have hins := s_pl_ins hO hs he t
  have hlen : (s_pl S s 0).length ≤ (s_pl S e 0).length := by rw [hsp]; simp
  obtain ⟨M', e1, a1, a2, a3, a4, a5, a6⟩ := g_adds hlen (by omega) m49 t
  have hl : (s_pl (s_ins S s t) (e + 1) 0).length = (s_pl S e 0).length + 1 := by
    rw [hins, hsp]
    simp
    omega
  refine ⟨M', e1, ⟨⟨?_, ?_, ?_, ?_⟩, ?_⟩, ⟨fun c b1 b2 b3 _ _ => a1 c b2 b3 b1, fun i _ b2 b3 => a2 i b2 b3⟩⟩
  · rw [a2 48 (by omega) (by omega), m48, s_ins_3]
  · rw [a3, hl]
  · rw [a4, m50, hO.1, s_ins_4, hx, nI_1]
  · intro i hi
    rw [hl] at hi
    rw [a5 i (by omega), a6 i (by omega), hins, s_ins_14 hx]
    by_cases q1 : i < (s_pl S s 0).length
    · have hm := mA i (by omega)
      have hmem := hlt _ (zL_mem (l := s_pl S e 0) (i := i) (by omega))
      rw [hsp, zL_app1 q1] at hm hmem
      rw [if_pos q1, if_pos q1, zL_app1 q1, if_neg (by omega)]
      exact hm
    · rw [if_neg q1, if_neg q1, zL_app2 (by omega)]
      by_cases q2 : i = (s_pl S s 0).length
      · rw [if_pos q2, if_pos q2, q2, Nat.sub_self]
        simp only [List.getD_cons_zero]
        rw [m50, hO.1]
        exact ⟨rfl, rfl⟩
      · have hm := mA (i - 1) (by omega)
        have hmem := hlt _ (zL_mem (l := s_pl S e 0) (i := i - 1) (by omega))
        rw [hsp, zL_app2 (by omega)] at hm hmem
        rw [if_neg q2, if_neg q2, zL_cons (by omega), show i - (s_pl S s 0).length - 1 = i - 1 - (s_pl S s 0).length by omega, if_neg (by omega)]
        exact hm
  · intro n hn hg
    rw [s_ins_15 hx] at hg
    by_cases q : n = e
    · rw [if_pos q] at hg
      exact absurd rfl hg
    · rw [if_neg q] at hg
      obtain ⟨A, b1, b2, b3, b4, b5⟩ := hG n (by omega) hg
      obtain ⟨c, hc1, hc2, hc3⟩ : ∃ c, 1 ≤ c ∧ c ≤ e ∧ S 15 n = nI c := (hc n (by omega)).1.elim (fun y => absurd y hg) id
      refine ⟨A, b1, by rw [a1 121 (by omega) (by omega) (by omega), b2], fun i hi => by rw [a1 (141 + n) (by omega) (by omega) (by omega), b3 i hi], ?_, ?_⟩
      · rw [s_ins_15 hx, if_neg q]
        exact b4
      · rw [s_ins_15 hx, if_neg q]
        have e2 := s_bf_ins (S := S) (S' := s_ins S s t) (u := nI n) (c := S 15 n) (v := nI e) (s := s) (e := e) (by
          rw [Ne, nI_eq (by omega) (by omega)]
          omega) (by
          rw [hc3, nI_ltI (by omega) (by omega)]
          omega) (s_ins_13 hO.1 t) (fun j hj => by
          have := zIx_lt (hO.2.2.1 j hj)
          rw [s_ins_15 hx, if_neg (by omega)]) hs s 0 (by omega)
        rw [Nat.sub_zero] at e2
        rw [e2, ← b5]
        refine List.filter_congr (fun x hx2 => ?_)
        have := b4 x hx2
        rw [hc3, zIx_n (by omega)] at this
        rw [s_ins_15 hx, if_neg (by omega)]
theorem s_rem_13 (S : zMem) (n j : Nat) : s_rem S n 13 j = S 13 j := by
  unfold s_rem
  rw [zUp_c (by omega), zUp_c (by omega)]
theorem s_rem_15 (S : zMem) (n x : Nat) : s_rem S n 15 x = if x = n then S 12 4 else S 15 x := by
  unfold s_rem
  rw [zUp_c (by omega)]
  by_cases q : x = n
  · subst q
    rw [zUp_s, if_pos rfl]
  · rw [zUp_x q, if_neg q]
theorem s_rem_14 (S : zMem) (n x : Nat) : s_rem S n 14 x = S 14 x := by
  unfold s_rem
  rw [zUp_c (by omega), zUp_c (by omega)]
theorem s_rem_12 (S : zMem) (n i : Nat) : s_rem S n 12 i = if i = 5 then S 12 5 - 1 else S 12 i := by
  unfold s_rem
  by_cases q : i = 5
  · subst q
    rw [zUp_s, if_pos rfl]
  · rw [zUp_x q, zUp_c (by omega), if_neg q]
theorem g_rem {S M : zMem} {e n i0 : Nat} (hw : zWP S e) (h : zMP S M e) (he : e < 400) (hn : n < e) (ht : S 15 n = 0) (hi0 : i0 < e) (ei : S 13 i0 = nI n) : zWP (s_rem S n) e ∧ ∃ M', f_X10_goes (nI (s_pl S i0 0).length) M = some (0, M') ∧ zMP (s_rem S n) M' e ∧ zFp M M' := by
  obtain ⟨hO, h5, h40, h30, h31, hc⟩ := hw
  obtain ⟨⟨m48, m49, m50, mA⟩, hG⟩ := h
  have h320 := hO.2.1
  have hx := zO_x hO.1 hO.2.1
  have hcut := s_pl_cut hO hi0 ei hn ht
  have hrem := s_pl_rem hO hi0 ei hn
  have hni := s_pl_notin hO hi0 ei hn
  have hl : (s_pl S e 0).length = (s_pl S i0 0).length + 1 + (s_pl S (e - i0 - 1) (i0 + 1)).length := by
    rw [hcut]
    simp
    omega
  have hl2 : (s_pl (s_rem S n) e 0).length = (s_pl S e 0).length - 1 := by
    rw [hrem, hl, List.length_append]
    omega
  have hO2 : zWO (s_rem S n) e := by
    refine ⟨by rw [s_rem_12, if_neg (by omega)]; exact hO.1, h320, ?_, ?_⟩
    · intro i hi
      rw [s_rem_13]
      exact hO.2.2.1 i hi
    · intro i j hij hj
      rw [s_rem_13, s_rem_13]
      exact hO.2.2.2 i j hij hj
  have hidx : (s_pl S e 0).getD (s_pl S i0 0).length 0 = n := by
    rw [hcut, zL_app2 (Nat.le_refl _), Nat.sub_self]
    rfl
  refine ⟨⟨hO2, ?_, by omega, ?_, ?_, ?_⟩, ?_⟩
  · rw [s_rem_12, if_pos rfl, h5, hl2, zd_sub (by omega)]
  · rw [s_rem_12, if_neg (by omega)]
    exact h30
  · rw [s_rem_12, if_neg (by omega)]
    exact h31
  · intro x hx2
    rw [s_rem_15, s_rem_14]
    by_cases q : x = n
    · rw [if_pos q]
      exact ⟨Or.inr ⟨e, by omega, Nat.le_refl _, hO.1⟩, (hc x hx2).2⟩
    · rw [if_neg q]
      exact hc x hx2
  · obtain ⟨M', e1, a1, a2, a3, a4, a5, a6, a7⟩ := g_goes (p := (s_pl S i0 0).length) (n := (s_pl S e 0).length) (x := n) (by omega) (by omega) m49 (by omega) (by rw [(mA _ (by omega)).1, hidx])
    refine ⟨M', e1, ⟨⟨?_, ?_, ?_, ?_⟩, ?_⟩, ⟨fun c b1 b2 b3 b4 b5 => a1 c b2 b3 b1 b4 (by omega), fun i _ b2 _ => a2 i b2⟩⟩
    · rw [a2 48 (by omega), m48, s_rem_12, if_neg (by omega)]
    · rw [a3, hl2]
    · rw [a2 50 (by omega), m50, s_rem_12, if_neg (by omega)]
    · intro i hi
      rw [hl2] at hi
      rw [a6 i (by omega), a7 i (by omega), hrem, s_rem_14]
      by_cases q1 : i < (s_pl S i0 0).length
      · have hm := mA i (by omega)
        rw [hcut, zL_app1 q1] at hm
        rw [if_pos q1, if_pos q1, zL_app1 q1]
        exact hm
      · have hm := mA (i + 1) (by omega)
        rw [hcut, zL_app2 (by omega), zL_cons (by omega), show i + 1 - (s_pl S i0 0).length - 1 = i - (s_pl S i0 0).length by omega] at hm
        rw [if_neg q1, if_neg q1, zL_app2 (by omega)]
        exact hm
    · intro m hm hg
      rw [s_rem_15] at hg
      by_cases q : m = n
      · subst q
        refine ⟨s_pl S i0 0, by omega, by rw [a4, if_pos rfl], ?_, ?_, ?_⟩
        · intro i hi
          have hm2 := mA i (by omega)
          rw [hcut, zL_app1 hi] at hm2
          rw [a5 i hi]
          exact hm2.1
        · intro x hx2
          rw [s_rem_15, if_pos rfl, hx]
          exact s_pl_lt hO (by omega) hx2
        · rw [s_rem_15, if_pos rfl]
          have e2 := s_bf_all (S' := s_rem S m) (u := nI m) (c := S 12 4) (i0 := i0) (e := e) (by rw [s_rem_13, ei]) hi0 (fun j hj y => by
            rw [s_rem_13] at y
            exact hO.2.2.2 j i0 hj hi0 (y.trans ei.symm)) (fun j hj => by
            rw [s_rem_13, hO.1]
            obtain ⟨o, ho, eo⟩ := zIn_of (hO.2.2.1 j (by omega))
            rw [eo]
            exact nI_lt ho (by omega)) i0 0 (by omega)
          rw [Nat.sub_zero] at e2
          rw [e2]
          have e3 : s_pl (s_rem S m) i0 0 = s_pl S i0 0 := s_pl_cong i0 0 (fun j _ h2 => ⟨s_rem_13 _ _ _, by
            rw [s_rem_15, if_neg (fun y => by
              have := zWO_one hO (i := j) (j := i0) (by omega) hi0 (y.trans (by rw [ei, zIx_n (by omega)]))
              omega)]⟩)
          rw [e3]
          refine List.filter_eq_self.mpr (fun x hx2 => ?_)
          have hx3 := (s_pl_mem S x i0 0).mp hx2
          obtain ⟨j, _, _, _, h4⟩ := hx3
          have hne : x ≠ m := fun y => hni.1 (by rw [← y]; exact hx2)
          rw [s_rem_15, if_neg hne]
          simpa using h4
      · rw [if_neg q] at hg
        obtain ⟨A, b1, b2, b3, b4, b5⟩ := hG m hm hg
        refine ⟨A, b1, by rw [a4, if_neg q, b2], fun i hi => by rw [a1 (141 + m) (by omega) (by omega) (by omega) (by omega) (by omega), b3 i hi], by rw [s_rem_15, if_neg q]; exact b4, ?_⟩
        rw [s_rem_15, if_neg q, s_bf_rem (S := S) (S' := s_rem S n) (y := n) (e := e) (fun j => s_rem_13 _ _ _) (fun x hx2 => by rw [s_rem_15, if_neg hx2]) (by
          rw [s_rem_15, if_pos rfl, hO.1]
          exact nI_ne0 (by omega) (by omega)) e 0 (by omega), ← b5, List.filter_filter]
        refine List.filter_congr (fun x hx2 => ?_)
        rw [s_rem_15]
        by_cases q2 : x = n
        · rw [if_pos q2, hO.1]
          have : ¬ nI e = 0 := nI_ne0 (by omega) (by omega)
          simp [q2, this]
        · rw [if_neg q2]
          simp [q2]
