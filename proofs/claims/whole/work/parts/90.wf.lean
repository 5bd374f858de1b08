/-! what must hold goes on holding -/
def zHo (S : zMem) : Prop := (S 1 5 = -1 ∧ S 1 6 = 0 ∧ S 1 7 = 0) ∨ (zIn (S 1 5) 24 ∧ 0 < S 1 6 ∧ (S 1 7 = 0 ∨ S 1 7 = 1))
def zMo (E S : zMem) (k nm : Nat) : Prop := S 4 8 = nI nm ∧ nm ≤ 8 ∧ (∀ i, i < nm → zIn (S 5 i) 8 ∧ 0 < E 4 (zIx (S 5 i)) ∧ zIn (S 7 i) 1000 ∧ zIn (S 8 i) 1000 ∧ (S 10 i = 0 ∨ S 10 i = 1) ∧ (S 11 i = 0 ∨ S 11 i = 1) ∧ (S 9 i = -1 ∨ zIn (S 9 i) k))
def zWB (E S : zMem) (k nq nm : Nat) : Prop := zWF S nq ∧ zMo E S k nm ∧ S 0 9 = nI k ∧ yRf E S k ∧ z24 (S 0 11) ∧ zHo S ∧ 0 < S 0 12 ∧ 0 ≤ S 0 13 ∧ (S 0 15 = 0 ∨ S 0 15 = 1) ∧ (∀ i, i < k → (S 18 i = 0 ∨ S 18 i = 1) ∧ (S 19 i = 0 ∨ S 19 i = 1))
theorem zWA_of {E S : zMem} {k nq nm e : Nat} (h : zWB E S k nq nm) (hP : zWP S e) (he : e ≤ 20 + k) : zWA E S k nq nm e := by
  obtain ⟨a, b, c, d, f, g, h1, h2, h3, h4⟩ := h
  exact ⟨⟨a, b, ⟨hP.1, he, hP.2.2.2.2.1⟩, c⟩, hP, d, f, g, h1, h2, h3, h4⟩
theorem zWB_of {E S : zMem} {k nq nm e : Nat} (h : zWA E S k nq nm e) : zWB E S k nq nm ∧ zWP S e ∧ e ≤ 20 + k := by
  obtain ⟨⟨a, b, ⟨_, he, _⟩, c⟩, hP, d, f, g, h1, h2, h3, h4⟩ := h
  exact ⟨⟨a, b, c, d, f, g, h1, h2, h3, h4⟩, hP, he⟩
theorem zWF_c {S S' : zMem} {n : Nat} (h : zWF S n) (h1 : S' 1 4 = S 1 4) (h2 : S' 2 = S 2) : zWF S' n := by
  unfold zWF
  rw [h1, h2]
  exact h
theorem yRf_c {E S S' : zMem} {k : Nat} (h : yRf E S k) (h0 : S' 0 10 = S 0 10) (h16 : S' 16 = S 16) : yRf E S' k := by
  unfold yRf
  rw [h0, h16]
  exact h
theorem zWB_F {E S S' : zMem} {k nq nq' nm : Nat} (h : zWB E S k nq nm) (hS : ∀ c, c < 1 ∨ 4 ≤ c → S' c = S c) (hF : zWF S' nq') (hH : zHo S') : zWB E S' k nq' nm := by
  obtain ⟨_, b, c, d, f, _, h1, h2, h3, h4⟩ := h
  refine ⟨hF, ?_, by rw [hS 0 (by omega)]; exact c, yRf_c d (by rw [hS 0 (by omega)]) (hS 16 (by omega)), by rw [hS 0 (by omega)]; exact f, hH, by rw [hS 0 (by omega)]; exact h1, by rw [hS 0 (by omega)]; exact h2, by rw [hS 0 (by omega)]; exact h3, by rw [hS 18 (by omega), hS 19 (by omega)]; exact h4⟩
  unfold zMo
  rw [hS 4 (by omega), hS 5 (by omega), hS 7 (by omega), hS 8 (by omega), hS 9 (by omega), hS 10 (by omega), hS 11 (by omega)]
  exact b
theorem zHo_c {S S' : zMem} (h : zHo S) (h1 : ∀ i, i ≠ 4 → S' 1 i = S 1 i) : zHo S' := by
  unfold zHo
  rw [h1 5 (by omega), h1 6 (by omega), h1 7 (by omega)]
  exact h
theorem zWB_M {E S S' : zMem} {k nq nm nm' : Nat} (h : zWB E S k nq nm) (hS : ∀ c, c < 4 ∨ 12 ≤ c → S' c = S c) (hM : zMo E S' k nm') : zWB E S' k nq nm' := by
  obtain ⟨a, _, c, d, f, g, h1, h2, h3, h4⟩ := h
  exact ⟨zWF_c a (by rw [hS 1 (by omega)]) (hS 2 (by omega)), hM, by rw [hS 0 (by omega)]; exact c, yRf_c d (by rw [hS 0 (by omega)]) (hS 16 (by omega)), by rw [hS 0 (by omega)]; exact f, zHo_c g (fun i _ => by rw [hS 1 (by omega)]), by rw [hS 0 (by omega)]; exact h1, by rw [hS 0 (by omega)]; exact h2, by rw [hS 0 (by omega)]; exact h3, by rw [hS 18 (by omega), hS 19 (by omega)]; exact h4⟩
theorem zMo_c {E S S' : zMem} {k nm : Nat} (h : zMo E S k nm) (hS : ∀ c, 4 ≤ c → c < 12 → S' c = S c) : zMo E S' k nm := by
  unfold zMo
  rw [hS 4 (by omega) (by omega), hS 5 (by omega) (by omega), hS 7 (by omega) (by omega), hS 8 (by omega) (by omega), hS 9 (by omega) (by omega), hS 10 (by omega) (by omega), hS 11 (by omega) (by omega)]
  exact h
theorem zWB_P {E S S' : zMem} {k nq nm : Nat} (h : zWB E S k nq nm) (hS : ∀ c, c < 12 ∨ 16 ≤ c → S' c = S c) : zWB E S' k nq nm := by
  obtain ⟨a, b, c, d, f, g, h1, h2, h3, h4⟩ := h
  exact ⟨zWF_c a (by rw [hS 1 (by omega)]) (hS 2 (by omega)), zMo_c b (fun c _ _ => hS c (by omega)), by rw [hS 0 (by omega)]; exact c, yRf_c d (by rw [hS 0 (by omega)]) (hS 16 (by omega)), by rw [hS 0 (by omega)]; exact f, zHo_c g (fun i _ => by rw [hS 1 (by omega)]), by rw [hS 0 (by omega)]; exact h1, by rw [hS 0 (by omega)]; exact h2, by rw [hS 0 (by omega)]; exact h3, by rw [hS 18 (by omega), hS 19 (by omega)]; exact h4⟩
theorem zWB_0 {E S S' : zMem} {k nq nm : Nat} (h : zWB E S k nq nm) (hS : ∀ c, c ≠ 0 → S' c = S c) (h9 : S' 0 9 = S 0 9) (h10 : S' 0 10 = S 0 10) (h11 : z24 (S' 0 11)) (h12 : 0 < S' 0 12) (h13 : 0 ≤ S' 0 13) (h15 : S' 0 15 = 0 ∨ S' 0 15 = 1) : zWB E S' k nq nm := by
  obtain ⟨a, b, c, d, f, g, h1, h2, h3, h4⟩ := h
  exact ⟨zWF_c a (by rw [hS 1 (by omega)]) (hS 2 (by omega)), zMo_c b (fun c _ _ => hS c (by omega)), by rw [h9]; exact c, yRf_c d h10 (hS 16 (by omega)), h11, zHo_c g (fun i _ => by rw [hS 1 (by omega)]), h12, h13, h15, by rw [hS 18 (by omega), hS 19 (by omega)]; exact h4⟩
theorem zWB_5 {E S S' : zMem} {k nq nm : Nat} (h : zWB E S k nq nm) (hS : ∀ c, c < 17 ∨ 20 ≤ c → S' c = S c) (hb : ∀ i, i < k → (S' 18 i = 0 ∨ S' 18 i = 1) ∧ (S' 19 i = 0 ∨ S' 19 i = 1)) : zWB E S' k nq nm := by
  obtain ⟨a, b, c, d, f, g, h1, h2, h3, h4⟩ := h
  exact ⟨zWF_c a (by rw [hS 1 (by omega)]) (hS 2 (by omega)), zMo_c b (fun c _ _ => hS c (by omega)), by rw [hS 0 (by omega)]; exact c, yRf_c d (by rw [hS 0 (by omega)]) (hS 16 (by omega)), by rw [hS 0 (by omega)]; exact f, zHo_c g (fun i _ => by rw [hS 1 (by omega)]), by rw [hS 0 (by omega)]; exact h1, by rw [hS 0 (by omega)]; exact h2, by rw [hS 0 (by omega)]; exact h3, hb⟩
/-- the act noted, and what was refused last -/
theorem zWB_w1 {E S : zMem} {k nq nm : Nat} (h : zWB E S k nq nm) (hk : k < 300) {w r : Int32} (hw : E 16 k = w) : zWB E (zIf (r = 6 ∧ (w = 6 ∨ w = 5)) (zUp (s_w1 S k r) 0 10 (nI k)) (s_w1 S k r)) (k + 1) nq nm := by
  obtain ⟨a, b, c, d, f, g, h1, h2, h3, h4⟩ := h
  have h16 : ∀ j, j ≠ k → s_w1 S k r 16 j = S 16 j := fun j hj => by
    unfold s_w1
    simp (disch := omega) only [zUp_c, zUp_x]
  have h16k : s_w1 S k r 16 k = r := by
    unfold s_w1
    simp (disch := omega) only [zUp_c, zUp_s]
  have h18 : ∀ j, s_w1 S k r 18 j = if j = k then 0 else S 18 j := fun j => by
    unfold s_w1
    by_cases q : j = k
    · subst q
      rw [if_pos rfl]
      simp (disch := omega) only [zUp_c, zUp_s]
    · rw [if_neg q]
      simp (disch := omega) only [zUp_c, zUp_x]
  have h19 : ∀ j, s_w1 S k r 19 j = if j = k then 0 else S 19 j := fun j => by
    unfold s_w1
    by_cases q : j = k
    · subst q
      rw [if_pos rfl]
      simp (disch := omega) only [zUp_c, zUp_s]
    · rw [if_neg q]
      simp (disch := omega) only [zUp_c, zUp_x]
  have hbase : ∀ S' : zMem, (∀ c, c ≠ 0 → S' c = s_w1 S k r c) → (∀ i, i ≠ 10 → S' 0 i = s_w1 S k r 0 i) → yRf E S' (k + 1) → zWB E S' (k + 1) nq nm := by
    intro S' hc h0 hR
    refine ⟨zWF_c a (by rw [hc 1 (by omega), s_w1_off _ _ _ 1 (by omega) (by omega)]) (by rw [hc 2 (by omega), s_w1_off _ _ _ 2 (by omega) (by omega)]), ?_, by rw [h0 9 (by omega), s_w1_9], hR, by rw [h0 11 (by omega), s_w1_0 _ _ _ _ (by omega)]; exact f, zHo_c g (fun i _ => by rw [hc 1 (by omega), s_w1_off _ _ _ 1 (by omega) (by omega)]), by rw [h0 12 (by omega), s_w1_0 _ _ _ _ (by omega)]; exact h1, by rw [h0 13 (by omega), s_w1_0 _ _ _ _ (by omega)]; exact h2, by rw [h0 15 (by omega), s_w1_0 _ _ _ _ (by omega)]; exact h3, fun i hi => ?_⟩
    · have := zMo_c (S' := S') b (fun c _ _ => by rw [hc c (by omega), s_w1_off _ _ _ c (by omega) (by omega)])
      refine ⟨this.1, this.2.1, fun i hi => ?_⟩
      obtain ⟨x1, x2, x3, x4, x5, x6, x7⟩ := this.2.2 i hi
      exact ⟨x1, x2, x3, x4, x5, x6, x7.elim Or.inl (fun y => Or.inr ⟨y.1, by have := y.2; omega⟩)⟩
    · rw [hc 18 (by omega), hc 19 (by omega), h18, h19]
      by_cases q : i = k
      · rw [if_pos q, if_pos q]
        exact ⟨Or.inl rfl, Or.inl rfl⟩
      · rw [if_neg q, if_neg q]
        exact h4 i (by omega)
  by_cases q : r = 6 ∧ (w = 6 ∨ w = 5)
  · rw [zIf_t q]
    refine hbase _ (fun c hc => zUp_off hc) (fun i hi => zUp_x hi) ?_
    refine Or.inr ⟨k, by omega, zUp_s, ?_, fun j hj1 hj2 => by omega⟩
    rw [zUp_c (by omega), h16k, hw]
    exact q
  · rw [zIf_f q]
    refine hbase _ (fun c _ => rfl) (fun i _ => rfl) ?_
    have h10 : s_w1 S k r 0 10 = S 0 10 := s_w1_0 _ _ _ _ (by omega)
    rcases d with ⟨d1, d2⟩ | ⟨j, d1, d2, d3, d4⟩
    · refine Or.inl ⟨by rw [h10]; exact d1, fun j hj => ?_⟩
      by_cases e : j = k
      · rw [e, h16k, hw]
        exact q
      · rw [h16 j e]
        exact d2 j (by omega)
    · refine Or.inr ⟨j, by omega, by rw [h10]; exact d2, by rw [h16 j (by omega)]; exact d3, fun i hi1 hi2 => ?_⟩
      by_cases e : i = k
      · rw [e, h16k, hw]
        exact q
      · rw [h16 i e]
        exact d4 i hi1 (by omega)
theorem zWF_deq {S : zMem} {n p : Nat} (h : zWF S n) (hp : p < n) : zWF (s_deq S p) (n - 1) := by
  obtain ⟨h1, h2, h3, h4⟩ := h
  have hx : zIx (S 1 4) = n := by rw [h1, zIx_n (by omega)]
  refine ⟨by rw [s_deq_4, hx], by omega, fun i hi => ?_, fun i j hij hj => ?_⟩
  · rw [s_deq_2]
    by_cases q : i < p
    · rw [if_pos q]; exact h3 i (by omega)
    · rw [if_neg q]; exact h3 (i + 1) (by omega)
  · rw [s_deq_2, s_deq_2]
    by_cases q : i < p
    · rw [if_pos q]
      by_cases q2 : j < p
      · rw [if_pos q2]; exact h4 i j hij (by omega)
      · rw [if_neg q2]; exact h4 i (j + 1) (by omega) (by omega)
    · rw [if_neg q, if_neg (by omega)]
      exact h4 (i + 1) (j + 1) (by omega) (by omega)
theorem zWF_lv {S : zMem} {n : Nat} (h : zWF S n) (u : Int32) : ∃ n', zWF (s_lv S u) n' := by
  have hx : zIx (S 1 4) = n := by rw [h.1, zIx_n (by have := h.2.1; omega)]
  unfold s_lv
  rw [hx]
  by_cases q : zFi (S 2) u n 0 < n
  · rw [if_pos q]
    exact ⟨_, zWF_deq h q⟩
  · rw [if_neg q]
    exact ⟨_, h⟩
theorem zHo_free (S : zMem) : zHo (s_free S) := by
  unfold zHo s_free
  left
  simp (disch := omega) only [zUp_x, zUp_s]
  exact ⟨trivial, trivial, trivial⟩
theorem z24_set {t : Int32} (h : z24 t) {m : Nat} (hm : m < 24) : z24 (t ||| (1 <<< (nI m &&& 31))) := by
  intro i hi
  rcases Nat.lt_or_ge i 32 with q | q
  · rw [b_set t hm q, h i hi, decide_eq_false (by omega)]
    rfl
  · exact b_big q
theorem z24_clr {t : Int32} (h : z24 t) {m : Nat} (hm : m < 24) : z24 (t &&& ((1 <<< (nI m &&& 31)) ^^^ (-1))) := by
  intro i hi
  rcases Nat.lt_or_ge i 32 with q | q
  · rw [b_clr t hm q, h i hi]
    rfl
  · exact b_big q
theorem zMax_0 (x : Int32) : 0 ≤ zMax 0 x := by
  show 0 ≤ (if 0 < x then x else 0)
  by_cases q : 0 < x
  · rw [if_pos q]; exact Int32.le_of_lt q
  · rw [if_neg q]; decide
theorem zWB_carry {E S : zMem} {k nq nm : Nat} {kd a b : Int32} (h : zWB E S k nq nm) (ha : zIn a 1000) : ∃ nm', zWB E (s_carry S kd a b) k nq nm' := by
  obtain ⟨hF, hMo, c9, hR, h24, hHo, h12, h13, h15, hbs⟩ := id h
  have hx : zIx (S 4 8) = nm := by rw [hMo.1, zIx_n (by have := hMo.2.1; omega)]
  obtain ⟨A, hA, eA⟩ := zIn_of ha
  have hz : ∀ S1, zWB E S1 k nq nm → zWB E (zUp S1 4 8 0) k nq 0 := fun S1 g => zWB_M g (fun c hc => zUp_off (by omega)) ⟨zUp_s, by omega, fun i hi => by omega⟩
  unfold s_carry
  by_cases q0 : kd = 0
  · rw [if_pos q0]
    exact ⟨nm, zWB_P h (fun c hc => s_lay_off _ _ _ _ hc)⟩
  rw [if_neg q0]
  by_cases q1 : kd = 1
  · rw [if_pos q1]
    exact ⟨nm, zWB_P h (fun c hc => s_amend_off _ _ _ _ hc)⟩
  rw [if_neg q1]
  by_cases q2 : kd = 2
  · rw [if_pos q2]
    refine ⟨nm, zWB_M h (fun c hc => s_endDeb_off _ _ (by omega)) ⟨by rw [s_endDeb_off _ _ (by omega)]; exact hMo.1, hMo.2.1, fun i hi => ?_⟩⟩
    obtain ⟨x1, x2, x3, x4, x5, x6, x7⟩ := hMo.2.2 i hi
    simp (disch := omega) only [s_endDeb_off]
    refine ⟨x1, x2, x3, x4, x5, ?_, x7⟩
    unfold s_endDeb
    rw [yPc_s, hx, if_pos hi]
    exact Or.inr rfl
  rw [if_neg q2]
  by_cases q3 : kd = 3
  · rw [if_pos q3]
    by_cases c : a ≤ 0
    · rw [if_pos c]
      exact ⟨nm, h⟩
    · rw [if_neg c]
      exact ⟨nm, zWB_0 h (fun c hc => zUp_off hc) (zUp_x (by omega)) (zUp_x (by omega)) (by rw [zUp_x (by omega)]; exact h24) (by rw [zUp_s]; exact Int32.not_le.mp c) (by rw [zUp_x (by omega)]; exact h13) (by rw [zUp_x (by omega)]; exact h15)⟩
  rw [if_neg q3]
  by_cases q4 : kd = 4
  · rw [if_pos q4]
    exact ⟨0, hz _ (zWB_P h (fun c hc => s_away_off _ _ (by omega)))⟩
  rw [if_neg q4]
  by_cases q5 : kd = 5
  · rw [if_pos q5]
    exact ⟨nm, zWB_0 h (fun c hc => zUp_off hc) (zUp_x (by omega)) (zUp_x (by omega)) (by rw [zUp_x (by omega)]; exact h24) (by rw [zUp_x (by omega)]; exact h12) (by rw [zUp_s, eA]; exact nI_pos' (by omega)) (by rw [zUp_x (by omega)]; exact h15)⟩
  rw [if_neg q5]
  by_cases q6 : kd = 6
  · rw [if_pos q6]
    exact ⟨0, hz _ (zWB_0 h (fun c hc => zUp_off hc) (zUp_x (by omega)) (zUp_x (by omega)) (by rw [zUp_x (by omega)]; exact h24) (by rw [zUp_x (by omega)]; exact h12) (by rw [zUp_x (by omega)]; exact h13) (by rw [zUp_s]; exact Or.inr rfl))⟩
  · rw [if_neg q6]
    exact ⟨nm, h⟩
theorem zWB_votes {E S : zMem} {k kk nq nm : Nat} (h : zWB E S k nq nm) (h0 : 0 < nm) (c : Prop) : ∃ nm', zWB E (s_votes E S kk c) k nq nm' := by
  have hMo := h.2.1
  have hx : zIx (S 4 8) = nm := by rw [hMo.1, zIx_n (by have := hMo.2.1; omega)]
  have ht := hMo.2.2 (nm - 1) (by omega)
  have g0 : zWB E (zUp S 4 8 (nI (nm - 1))) k nq (nm - 1) := zWB_M h (fun c hc => zUp_off (by omega)) ⟨zUp_s, by have := hMo.2.1; omega, fun i hi => by
    have := hMo.2.2 i (by omega)
    simp (disch := omega) only [zUp_c]
    exact this⟩
  have g1 : zWB E (zUp (zUp S 4 8 (nI (nm - 1))) 17 kk (zT c)) k nq (nm - 1) := zWB_5 g0 (fun c hc => zUp_off (by omega)) (fun i hi => by
    have := g0.2.2.2.2.2.2.2.2.2 i hi
    rw [zUp_c (by omega), zUp_c (by omega)]
    exact this)
  unfold s_votes
  rw [hx]
  show ∃ nm', zWB E (if S 5 (nm - 1) = 7 then _ else _) k nq nm'
  generalize zUp (zUp S 4 8 (nI (nm - 1))) 17 kk (zT c) = S1 at *
  by_cases q7 : S 5 (nm - 1) = 7
  · rw [if_pos q7]
    unfold s_settle
    by_cases q : s_wk S1 (S 9 (nm - 1))
    · rw [zIf_t q]
      refine ⟨nm - 1, zWB_5 g1 (fun c hc => by rw [zUp_off (by omega), zUp_off (by omega)]) (fun i hi => ?_)⟩
      have hbb := g1.2.2.2.2.2.2.2.2.2 i hi
      by_cases y : i = zIx (S 9 (nm - 1))
      · rw [← y]
        simp (disch := omega) only [zUp_c, zUp_s]
        refine ⟨?_, Or.inr trivial⟩
        by_cases z : S1 18 i = 0
        · rw [if_pos z]; exact zT_01 c
        · rw [if_neg z]; exact Or.inr rfl
      · simp (disch := omega) only [zUp_c, zUp_x]
        exact hbb
    · rw [zIf_f q]
      exact ⟨nm - 1, g1⟩
  · rw [if_neg q7]
    by_cases q : c
    · rw [zIf_t q]
      exact zWB_carry g1 ht.2.2.1
    · rw [zIf_f q]
      exact ⟨nm - 1, g1⟩
/-- an act done: what must hold goes on holding (but for the paper) -/
theorem zWB_do {E S : zMem} {k kk nq nm : Nat} {w m d a b : Int32} (hk : k ≤ 300) (hWE : zWE E) (h : zWB E S k nq nm) (hp : zPg E S nq nm w m d a b) (hw : zIn w 10) : ∃ nq' nm', zWB E (s_do E S kk w m d a b) k nq' nm' := by
  obtain ⟨g1, g2, g3, g4, g5, g6, g7, g8, g9⟩ := hp
  have hx : zIx (S 4 8) = nm := by rw [h.2.1.1, zIx_n (by have := h.2.1.2.1; omega)]
  have hm8 := h.2.1.2.1
  have hmo := h.2.1.2.2
  have hxq : zIx (S 1 4) = nq := by rw [h.1.1, zIx_n (by have := h.1.2.1; omega)]
  obtain ⟨hF, hMo, c9, hR, h24, hHo, h12, h13, h15, hbs⟩ := id h
  unfold s_do
  by_cases q0 : w = 0
  · rw [if_pos q0]
    obtain ⟨j, hj, ej⟩ := zIn_of (g1 (Or.inl q0))
    rw [ej]
    exact ⟨nq, nm, zWB_0 h (fun c hc => zUp_off hc) (zUp_x (by omega)) (zUp_x (by omega)) (by rw [zUp_s]; exact z24_set h24 hj) (by rw [zUp_x (by omega)]; exact h12) (by rw [zUp_x (by omega)]; exact h13) (by rw [zUp_x (by omega)]; exact h15)⟩
  rw [if_neg q0]
  by_cases q1 : w = 1
  · rw [if_pos q1]
    obtain ⟨j, hj, ej⟩ := zIn_of (g1 (Or.inr (Or.inl q1)))
    rw [ej]
    have hA : zWB E (zUp S 0 11 (S 0 11 &&& ((1 <<< (nI j &&& 31)) ^^^ (-1)))) k nq nm := zWB_0 h (fun c hc => zUp_off hc) (zUp_x (by omega)) (zUp_x (by omega)) (by rw [zUp_s]; exact z24_clr h24 hj) (by rw [zUp_x (by omega)]; exact h12) (by rw [zUp_x (by omega)]; exact h13) (by rw [zUp_x (by omega)]; exact h15)
    generalize zUp S 0 11 (S 0 11 &&& ((1 <<< (nI j &&& 31)) ^^^ (-1))) = S1 at *
    obtain ⟨n', hn'⟩ := zWF_lv hA.1 (nI j)
    unfold s_drop
    by_cases q : S1 1 5 = nI j
    · rw [if_pos q]
      refine ⟨n', nm, zWB_F hA (fun c hc => by rw [s_free_off _ _ hc, s_lv_off _ _ _ hc]) (zWF_c hn' ?_ ?_) (zHo_free _)⟩
      · unfold s_free
        simp (disch := omega) only [zUp_x]
      · unfold s_free
        rw [zUp_off (by omega), zUp_off (by omega), zUp_off (by omega)]
    · rw [if_neg q]
      exact ⟨n', nm, zWB_F hA (fun c hc => s_lv_off _ _ _ hc) hn' (zHo_c hA.2.2.2.2.2.1 (fun i hi => s_lv_1 _ _ _ hi))⟩
  rw [if_neg q1]
  by_cases q2 : w = 2
  · rw [if_pos q2]
    have hm24 := g1 (Or.inr (Or.inr (Or.inl q2)))
    have hno := g2 q2
    have hroom := zWF_room hF hm24 hno
    have hle := zFi_le (S 2) m nq 0
    refine ⟨nq + 1, nm, zWB_F h (fun c hc => s_ask_off _ _ _ hc) ⟨?_, by omega, fun i hi => ?_, fun i j hij hj => ?_⟩ (zHo_c hHo (fun i hi => ?_))⟩
    · unfold s_ask
      rw [hxq, zUp_s]
    · unfold s_ask
      rw [hxq, zUp_c (by omega)]
      by_cases q : i = nq
      · rw [q, zUp_s]; exact hm24
      · rw [zUp_x q]; exact hF.2.2.1 i (by omega)
    · unfold s_ask
      rw [hxq]
      simp (disch := omega) only [zUp_c]
      rw [zUp_x (show i ≠ nq by omega)]
      by_cases q : j = nq
      · rw [q, zUp_s]
        exact zFi_no (S 2) m nq 0 i (by omega) (by omega)
      · rw [zUp_x q]
        exact hF.2.2.2 i j hij (by omega)
    · unfold s_ask
      rw [zUp_x hi, zUp_c (by omega)]
  rw [if_neg q2]
  by_cases q3 : w = 3
  · rw [if_pos q3]
    have hpn : s_nx E S nq < nq := zNx_lt _ nq (g3 q3)
    obtain ⟨j, hj, ej⟩ := zIn_of (hF.2.2.1 _ hpn)
    have hS' : s_call E S (S 0 12) = zUp (zUp (zUp (zUp (s_deq S (s_nx E S nq)) 1 5 (nI j)) 1 6 (S 0 12)) 1 7 0) 3 j (S 3 j + 1) := by
      unfold s_call
      rw [hxq, ej, zIx_n (by omega)]
    have hA : zWB E (s_call E S (S 0 12)) k (nq - 1) nm := by
      refine zWB_F h (fun c hc => s_call_off _ _ _ _ hc) (zWF_c (zWF_deq hF hpn) ?_ ?_) ?_
      · rw [hS']
        simp (disch := omega) only [zUp_x, zUp_c]
      · rw [hS', zUp_off (by omega), zUp_off (by omega), zUp_off (by omega), zUp_off (by omega)]
      · rw [hS']
        right
        simp (disch := omega) only [zUp_x, zUp_c, zUp_s]
        exact ⟨zIn_n hj (by omega), h12, Or.inl trivial⟩
    unfold s_deb
    rw [s_call_off _ _ _ _ (by omega), hx]
    by_cases q : nm = 0
    · rw [if_pos q]
      exact ⟨_, _, hA⟩
    · rw [if_neg q]
      refine ⟨_, nm, zWB_M hA (fun c hc => zUp_off (by omega)) ⟨by rw [zUp_c (by omega)]; exact hA.2.1.1, hm8, fun i hi => ?_⟩⟩
      obtain ⟨x1, x2, x3, x4, x5, x6, x7⟩ := hA.2.1.2.2 i hi
      simp (disch := omega) only [zUp_c]
      refine ⟨x1, x2, x3, x4, x5, ?_, x7⟩
      by_cases q9 : i = nm - 1
      · rw [q9, zUp_s]; exact Or.inr rfl
      · rw [zUp_x q9]; exact x6
  rw [if_neg q3]
  by_cases q4 : w = 4
  · rw [if_pos q4]
    have hA : zWB E (zUp S 0 14 (S 0 14 + a)) k nq nm := zWB_0 h (fun c hc => zUp_off hc) (zUp_x (by omega)) (zUp_x (by omega)) (by rw [zUp_x (by omega)]; exact h24) (by rw [zUp_x (by omega)]; exact h12) (by rw [zUp_x (by omega)]; exact h13) (by rw [zUp_x (by omega)]; exact h15)
    have hBk : zWB E (s_spend (zUp S 0 14 (S 0 14 + a)) a) k nq nm := by
      unfold s_spend
      by_cases q : zMax 0 (zUp S 0 14 (S 0 14 + a) 1 6 - a) = 0
      · rw [if_pos q]
        refine zWB_F hA (fun c hc => by rw [s_free_off _ _ hc, zUp_off (by omega)]) (zWF_c hA.1 ?_ ?_) (zHo_free _)
        · unfold s_free
          simp (disch := omega) only [zUp_x]
        · unfold s_free
          rw [zUp_off (by omega), zUp_off (by omega), zUp_off (by omega), zUp_off (by omega)]
      · rw [if_neg q]
        refine zWB_F hA (fun c hc => zUp_off (by omega)) (zWF_c hA.1 (zUp_x (by omega)) (zUp_off (by omega))) ?_
        rw [zUp_c (by omega)] at q ⊢
        have hpos : 0 < zMax 0 (S 1 6 - a) := (zd_pos (zMax_0 _)).elim (fun y => absurd y q) id
        unfold zHo
        simp (disch := omega) only [zUp_x, zUp_s, zUp_c]
        rcases hHo with ⟨x1, x2, x3⟩ | ⟨x1, x2, x3⟩
        · exfalso
          refine q ?_
          show (if 0 < S 1 6 - a then S 1 6 - a else 0) = 0
          rw [x2, if_neg]
          intro y
          have e0 : (0 : Int32).toInt = 0 := by decide +kernel
          have e1 : (1 : Int32).toInt = 1 := by decide +kernel
          have e9 : (9999 : Int32).toInt = 9999 := by decide +kernel
          have y1 := Int32.lt_iff_toInt_lt.mp y
          have a1 := Int32.le_iff_toInt_le.mp (g4 q4).1
          have a2 := Int32.le_iff_toInt_le.mp (g4 q4).2
          rw [Int32.toInt_sub, Int.bmod_eq_of_le (by omega) (by omega)] at y1
          omega
        · exact Or.inr ⟨x1, hpos, x3⟩
    unfold s_ticks
    exact ⟨nq, nm, zWB_0 hBk (fun c hc => zUp_off hc) (zUp_x (by omega)) (zUp_x (by omega)) (by rw [zUp_x (by omega)]; exact hBk.2.2.2.2.1) (by rw [zUp_x (by omega)]; exact hBk.2.2.2.2.2.2.1) (by rw [zUp_s]; exact zMax_0 _) (by rw [zUp_x (by omega)]; exact hBk.2.2.2.2.2.2.2.2.1)⟩
  rw [if_neg q4]
  by_cases q5 : w = 5
  · rw [if_pos q5]
    have hm24 := g1 (Or.inr (Or.inr (Or.inr q5)))
    refine ⟨nq, nm, zWB_F h (fun c hc => s_yield_off _ _ _ hc) (zWF_c hF ?_ ?_) ?_⟩
    · unfold s_yield
      rw [zUp_x (by omega), zUp_x (by omega)]
    · unfold s_yield
      rw [zUp_off (by omega), zUp_off (by omega)]
    · right
      unfold s_yield
      simp (disch := omega) only [zUp_x, zUp_s]
      rcases hHo with ⟨x1, _⟩ | ⟨_, x2, _⟩
      · exact absurd x1 (g5 q5)
      · exact ⟨hm24, x2, Or.inr trivial⟩
  rw [if_neg q5]
  by_cases q6 : w = 6
  · rw [if_pos q6]
    obtain ⟨p1, p2, p3, p4, p5, p6⟩ := g6 q6
    obtain ⟨D, hD, eD⟩ := zIn_of p3
    rw [eD, zIx_n (by omega)] at p4
    rw [eD, zIx_n (by omega)]
    refine ⟨nq, nm + 1, zWB_M h (fun c hc => s_push_off _ _ _ _ _ _ _ _ hc) ⟨?_, by omega, fun i hi => ?_⟩⟩
    · unfold s_push
      rw [hx, zUp_s]
    · unfold s_push
      rw [hx]
      by_cases q : i = nm
      · subst q
        simp (disch := omega) only [zUp_c, zUp_s, zIx_n]
        refine ⟨zIn_n hD (by omega), p4, p5, p6, yB_01, yB_01, ?_⟩
        rcases hR with ⟨r1, _⟩ | ⟨j, r1, r2, _⟩
        · exact Or.inl r1
        · rw [r2]
          exact Or.inr (zIn_n r1 (by omega))
      · simp (disch := omega) only [zUp_c, zUp_x]
        exact hmo i (by omega)
  rw [if_neg q6]
  by_cases q7 : w = 7
  · rw [if_pos q7]
    unfold s_sec
    rw [hx, if_neg (by have := g7 q7; omega)]
    refine ⟨nq, nm, zWB_M h (fun c hc => zUp_off (by omega)) ⟨by rw [zUp_c (by omega)]; exact hMo.1, hm8, fun i hi => ?_⟩⟩
    obtain ⟨x1, x2, x3, x4, x5, x6, x7⟩ := hmo i hi
    simp (disch := omega) only [zUp_c]
    refine ⟨x1, x2, x3, x4, ?_, x6, x7⟩
    by_cases q9 : i = nm - 1
    · rw [q9, zUp_s]; exact Or.inr rfl
    · rw [zUp_x q9]; exact x5
  rw [if_neg q7]
  have h0 : 0 < nm := by
    obtain ⟨W, hW, eW⟩ := zIn_of hw
    rcases (by omega : W = 0 ∨ W = 1 ∨ W = 2 ∨ W = 3 ∨ W = 4 ∨ W = 5 ∨ W = 6 ∨ W = 7 ∨ W = 8 ∨ W = 9) with x | x | x | x | x | x | x | x | x | x
    · exact absurd (by rw [eW, x]; rfl) q0
    · exact absurd (by rw [eW, x]; rfl) q1
    · exact absurd (by rw [eW, x]; rfl) q2
    · exact absurd (by rw [eW, x]; rfl) q3
    · exact absurd (by rw [eW, x]; rfl) q4
    · exact absurd (by rw [eW, x]; rfl) q5
    · exact absurd (by rw [eW, x]; rfl) q6
    · exact absurd (by rw [eW, x]; rfl) q7
    · exact (g8 (Or.inl (by rw [eW, x]; rfl))).1
    · exact (g8 (Or.inr (by rw [eW, x]; rfl))).1
  unfold s_decide
  obtain ⟨nm', hh⟩ := zWB_votes (kk := kk) h h0 (if w = 9 then a = 1 else s_carr E (S 5 (zIx (S 4 8) - 1)) a b)
  exact ⟨nq, nm', hh⟩
