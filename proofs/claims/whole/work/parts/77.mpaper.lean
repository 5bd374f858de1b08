theorem fb_holes : ∀ (m n : Nat) (f : Nat → Nat), (∀ i, i < n → f i < m) → (∀ i j, i < j → j < n → f i ≠ f j) → n ≤ m := by
  intro m
  induction m with
  | zero =>
    intro n f h1 _
    rcases Nat.eq_zero_or_pos n with h | h
    · omega
    · exact absurd (h1 0 h) (Nat.not_lt_zero _)
  | succ m ih =>
    intro n f h1 h2
    by_cases hx : ∃ i, i < n ∧ f i = m
    · obtain ⟨a, ha, hfa⟩ := hx
      have hg := ih (n - 1) (fun i => if i < a then f i else f (i + 1)) (by
        intro i hi
        by_cases q : i < a
        · simp only [if_pos q]
          have b1 := h1 i (by omega)
          have b2 := h2 i a q ha
          omega
        · simp only [if_neg q]
          have b1 := h1 (i + 1) (by omega)
          have b2 := h2 a (i + 1) (by omega) (by omega)
          omega) (by
        intro i j hij hj
        by_cases q : i < a
        · by_cases r : j < a
          · simp only [if_pos q, if_pos r]
            exact h2 i j hij (by omega)
          · simp only [if_pos q, if_neg r]
            exact h2 i (j + 1) (by omega) (by omega)
        · have r : ¬ j < a := by omega
          simp only [if_neg q, if_neg r]
          exact h2 (i + 1) (j + 1) (by omega) (by omega))
      omega
    · have hg := ih n f (fun i hi => by
        have b1 := h1 i hi
        have b2 : f i ≠ m := fun e => hx ⟨i, hi, e⟩
        omega) h2
      omega
/-- two of them in one place -/
theorem fb_twice {m n : Nat} {f : Nat → Nat} (h : ∀ i, i < n → f i < m) (hm : m < n) : ∃ i j, i < j ∧ j < n ∧ f i = f j := by
  refine Classical.byContradiction fun hx => ?_
  have := fb_holes m n f h (fun i j hij hj e => hx ⟨i, j, hij, hj, e⟩)
  omega
/-- as many as places, none twice: each place is taken -/
theorem fb_onto {n : Nat} {f : Nat → Nat} (h : ∀ i, i < n → f i < n) (h2 : ∀ i j, i < j → j < n → f i ≠ f j) {y : Nat} (hy : y < n) : ∃ i, i < n ∧ f i = y := by
  refine Classical.byContradiction fun hx => ?_
  have hne : ∀ i, i < n → f i ≠ y := fun i hi e => hx ⟨i, hi, e⟩
  have := fb_holes (n - 1) n (fun i => if f i < y then f i else f i - 1) (by
    intro i hi
    have b1 := h i hi
    have b2 := hne i hi
    by_cases q : f i < y
    · simp only [if_pos q]; omega
    · simp only [if_neg q]; omega) (by
    intro i j hij hj
    have b1 := hne i (by omega)
    have b2 := hne j hj
    have b3 := h2 i j hij hj
    by_cases q : f i < y
    · by_cases r : f j < y
      · simp only [if_pos q, if_pos r]; exact b3
      · simp only [if_pos q, if_neg r]; omega
    · by_cases r : f j < y
      · simp only [if_neg q, if_pos r]; omega
      · simp only [if_neg q, if_neg r]; omega)
  omega
/-! the list of clauses that are there -/
theorem s_pl_split (S : zMem) : ∀ a b i, s_pl S (a + b) i = s_pl S a i ++ s_pl S b (i + a)
  | 0, b, i => by rw [Nat.zero_add, s_pl_nil]; rfl
  | a + 1, b, i => by
    have e : a + 1 + b = (a + b) + 1 := by omega
    rw [e, s_pl, s_pl, s_pl_split S a b (i + 1), show i + 1 + a = i + (a + 1) by omega]
    by_cases q : S 15 (zIx (S 13 i)) = 0
    · rw [if_pos q, if_pos q]
      rfl
    · rw [if_neg q, if_neg q]
theorem s_pl_mem (S : zMem) (x : Nat) : ∀ k i, x ∈ s_pl S k i ↔ ∃ j, i ≤ j ∧ j < i + k ∧ zIx (S 13 j) = x ∧ S 15 x = 0
  | 0, i => by
    rw [s_pl_nil]
    constructor
    · intro h; cases h
    · rintro ⟨j, h1, h2, _⟩; omega
  | k + 1, i => by
    rw [s_pl]
    by_cases q : S 15 (zIx (S 13 i)) = 0
    · rw [if_pos q, List.mem_cons, s_pl_mem S x k (i + 1)]
      constructor
      · rintro (h | ⟨j, h1, h2, h3⟩)
        · subst h
          exact ⟨i, by omega, by omega, rfl, q⟩
        · exact ⟨j, by omega, by omega, h3⟩
      · rintro ⟨j, h1, h2, h3, h4⟩
        by_cases e : j = i
        · left
          rw [← e, h3]
        · right
          exact ⟨j, by omega, by omega, h3, h4⟩
    · rw [if_neg q, s_pl_mem S x k (i + 1)]
      constructor
      · rintro ⟨j, h1, h2, h3⟩
        exact ⟨j, by omega, by omega, h3⟩
      · rintro ⟨j, h1, h2, h3, h4⟩
        refine ⟨j, ?_, by omega, h3, h4⟩
        by_cases e : j = i
        · rw [e] at h3
          rw [h3] at q
          exact absurd h4 q
        · omega
theorem s_pl_len (S : zMem) : ∀ k i, (s_pl S k i).length ≤ k
  | 0, i => by rw [s_pl_nil]; simp
  | k + 1, i => by
    have := s_pl_len S k (i + 1)
    rw [s_pl]
    by_cases q : S 15 (zIx (S 13 i)) = 0
    · rw [if_pos q, List.length_cons]; omega
    · rw [if_neg q]; omega
theorem s_pl_cong {S S' : zMem} : ∀ k i, (∀ j, i ≤ j → j < i + k → S' 13 j = S 13 j ∧ (S' 15 (zIx (S 13 j)) = 0 ↔ S 15 (zIx (S 13 j)) = 0)) → s_pl S' k i = s_pl S k i
  | 0, _, _ => rfl
  | k + 1, i, h => by
    have h0 := h i (by omega) (by omega)
    rw [s_pl, s_pl, h0.1, s_pl_cong k (i + 1) (fun j h1 h2 => h j (by omega) (by omega))]
    by_cases q : S 15 (zIx (S 13 i)) = 0
    · rw [if_pos q, if_pos (h0.2.mpr q)]
    · rw [if_neg q, if_neg (fun x => q (h0.2.mp x))]
theorem s_pl_shift {S S' : zMem} : ∀ k i, (∀ j, i ≤ j → j < i + k → S' 13 (j + 1) = S 13 j ∧ (S' 15 (zIx (S 13 j)) = 0 ↔ S 15 (zIx (S 13 j)) = 0)) → s_pl S' k (i + 1) = s_pl S k i
  | 0, _, _ => rfl
  | k + 1, i, h => by
    have h0 := h i (by omega) (by omega)
    rw [s_pl, s_pl, h0.1, s_pl_shift k (i + 1) (fun j h1 h2 => h j (by omega) (by omega))]
    by_cases q : S 15 (zIx (S 13 i)) = 0
    · rw [if_pos q, if_pos (h0.2.mpr q)]
    · rw [if_neg q, if_neg (fun x => q (h0.2.mp x))]
/-- every number has its place in the order -/
theorem zWO_onto {S : zMem} {e n : Nat} (hw : zWO S e) (hn : n < e) : ∃ i, i < e ∧ S 13 i = nI n := by
  obtain ⟨_, he, h1, h2⟩ := hw
  obtain ⟨i, hi, e1⟩ := fb_onto (n := e) (f := fun i => zIx (S 13 i)) (fun i hi => zIx_lt (h1 i hi)) (fun i j hij hj e3 => by
    obtain ⟨a, ha, ea⟩ := zIn_of (h1 i (by omega))
    obtain ⟨b, hb, eb⟩ := zIn_of (h1 j hj)
    refine h2 i j hij hj ?_
    rw [ea, eb, zIx_n (by omega), zIx_n (by omega)] at e3
    rw [ea, eb, e3]) hn
  obtain ⟨a, ha, ea⟩ := zIn_of (h1 i hi)
  refine ⟨i, hi, ?_⟩
  rw [ea, zIx_n (by omega)] at e1
  rw [ea, e1]
theorem zWO_one {S : zMem} {e i j : Nat} (hw : zWO S e) (hi : i < e) (hj : j < e) (h : zIx (S 13 i) = zIx (S 13 j)) : i = j := by
  obtain ⟨_, he, h1, h2⟩ := hw
  obtain ⟨a, ha, ea⟩ := zIn_of (h1 i hi)
  obtain ⟨b, hb, eb⟩ := zIn_of (h1 j hj)
  rw [ea, eb, zIx_n (by omega), zIx_n (by omega)] at h
  rcases Nat.lt_trichotomy i j with q | q | q
  · exact absurd (by rw [ea, eb, h]) (h2 i j q hj)
  · exact q
  · exact absurd (by rw [ea, eb, h]) (h2 j i q hi)
theorem s_pl_in {S : zMem} {e x : Nat} (hw : zWO S e) : x ∈ s_pl S e 0 ↔ x < e ∧ S 15 x = 0 := by
  rw [s_pl_mem]
  constructor
  · rintro ⟨j, _, h2, h3, h4⟩
    refine ⟨?_, h4⟩
    rw [← h3]
    exact zIx_lt (hw.2.2.1 j (by omega))
  · rintro ⟨h1, h2⟩
    obtain ⟨i, hi, ei⟩ := zWO_onto hw h1
    exact ⟨i, by omega, by omega, by rw [ei, zIx_n (by have := hw.2.1; omega)], h2⟩
/-- what is there, cut at one that is there -/
theorem s_pl_cut {S : zMem} {e n i : Nat} (hw : zWO S e) (hi : i < e) (ei : S 13 i = nI n) (hn : n < e) (ht : S 15 n = 0) : s_pl S e 0 = s_pl S i 0 ++ n :: s_pl S (e - i - 1) (i + 1) := by
  have e1 : e = i + ((e - i - 1) + 1) := by omega
  have e2 : zIx (S 13 i) = n := by rw [ei, zIx_n (by have := hw.2.1; omega)]
  have h : s_pl S (i + ((e - i - 1) + 1)) 0 = s_pl S i 0 ++ n :: s_pl S (e - i - 1) (i + 1) := by
    rw [s_pl_split S i (e - i - 1 + 1) 0, Nat.zero_add, s_pl, e2, if_pos ht]
  rw [← e1] at h
  exact h
theorem s_pl_notin {S : zMem} {e n i : Nat} (hw : zWO S e) (hi : i < e) (ei : S 13 i = nI n) (hn : n < e) : n ∉ s_pl S i 0 ∧ n ∉ s_pl S (e - i - 1) (i + 1) := by
  have e2 : zIx (S 13 i) = n := by rw [ei, zIx_n (by have := hw.2.1; omega)]
  constructor
  · rw [s_pl_mem]
    rintro ⟨j, _, h2, h3, _⟩
    have := zWO_one hw (i := j) (j := i) (by omega) hi (h3.trans e2.symm)
    omega
  · rw [s_pl_mem]
    rintro ⟨j, h1, h2, h3, _⟩
    have := zWO_one hw (i := j) (j := i) (by omega) hi (h3.trans e2.symm)
    omega
theorem zPo_app {n : Nat} (hn : n < 2 ^ 31) (l2 : List Nat) : ∀ (l1 : List Nat) (c : Nat), n ∉ l1 → (∀ x, x ∈ l1 → x < 2 ^ 31) → zPo (l1 ++ n :: l2) (nI n) c = nI (c + l1.length)
  | [], c, _, _ => by
    show zPo (n :: l2) (nI n) c = _
    rw [zPo, if_pos rfl]
    rfl
  | x :: t, c, h, hb => by
    show zPo (x :: (t ++ n :: l2)) (nI n) c = _
    have hx := hb x (by simp)
    rw [zPo, if_neg (by
      rw [nI_eq hx hn]
      intro e
      exact h (by simp [e])), zPo_app hn l2 t (c + 1) (fun y => h (by simp [y])) (fun y hy => hb y (by simp [hy])), List.length_cons, show c + 1 + t.length = c + (t.length + 1) by omega]
theorem zBh_app {n : Nat} (hn : n < 2 ^ 31) (l2 : List Nat) : ∀ (l1 : List Nat), n ∉ l1 → (∀ x, x ∈ l1 → x < 2 ^ 31) → zBh (l1 ++ n :: l2) (nI n) = zHd l2
  | [], _, _ => by
    show zBh (n :: l2) (nI n) = _
    rw [zBh, if_pos rfl]
  | x :: t, h, hb => by
    show zBh (x :: (t ++ n :: l2)) (nI n) = _
    have hx := hb x (by simp)
    rw [zBh, if_neg (by
      rw [nI_eq hx hn]
      intro e
      exact h (by simp [e])), zBh_app hn l2 t (fun y => h (by simp [y])) (fun y hy => hb y (by simp [hy]))]
theorem s_pl_lt {S : zMem} {e x k i : Nat} (hw : zWO S e) (hk : i + k ≤ e) (h : x ∈ s_pl S k i) : x < e := by
  rw [s_pl_mem] at h
  obtain ⟨j, _, h2, h3, _⟩ := h
  rw [← h3]
  exact zIx_lt (hw.2.2.1 j (by omega))
/-- the new one set in -/
theorem s_pl_ins {S : zMem} {e s : Nat} (hw : zWO S e) (hs : s ≤ e) (he : e < 320) (t : Int32) : s_pl (s_ins S s t) (e + 1) 0 = s_pl S s 0 ++ e :: s_pl S (e - s) s := by
  have hx := zO_x hw.1 hw.2.1
  have h13 : ∀ j, s_ins S s t 13 j = if j < s then S 13 j else if j = s then nI e else S 13 (j - 1) := by
    intro j
    unfold s_ins
    rw [zUp_c (by omega), zUp_c (by omega), zUp_c (by omega), zUp_c (by omega), yPc_s, hw.1]
  have h15 : ∀ x, x ≠ e → s_ins S s t 15 x = S 15 x := by
    intro x hxe
    unfold s_ins
    rw [hx, zUp_c (by omega), zUp_c (by omega), zUp_x hxe, zUp_c (by omega), yPc_c (by omega)]
  have h15e : s_ins S s t 15 e = 0 := by
    unfold s_ins
    rw [hx, zUp_c (by omega), zUp_c (by omega), zUp_s]
  have e1 : e + 1 = s + ((e - s) + 1) := by omega
  have h13s : s_ins S s t 13 s = nI e := by rw [h13 s, if_neg (by omega), if_pos rfl]
  rw [e1, s_pl_split, Nat.zero_add, s_pl, h13s, zIx_n (by omega), if_pos h15e]
  congr 1
  · refine s_pl_cong s 0 (fun j _ h2 => ?_)
    have := zIx_lt (hw.2.2.1 j (by omega))
    rw [h13 j, if_pos (by omega), h15 _ (by omega)]
    exact ⟨rfl, Iff.rfl⟩
  · congr 1
    refine s_pl_shift (e - s) s (fun j h1 h2 => ?_)
    have := zIx_lt (hw.2.2.1 j (by omega))
    rw [h13 (j + 1), if_neg (by omega), if_neg (by omega), Nat.add_sub_cancel, h15 _ (by omega)]
    exact ⟨rfl, Iff.rfl⟩
/-- one gone -/
theorem s_pl_rem {S : zMem} {e n i : Nat} (hw : zWO S e) (hi : i < e) (ei : S 13 i = nI n) (hn : n < e) : s_pl (s_rem S n) e 0 = s_pl S i 0 ++ s_pl S (e - i - 1) (i + 1) := by
  have hx := zO_x hw.1 hw.2.1
  have h320 := hw.2.1
  have h13 : ∀ j, s_rem S n 13 j = S 13 j := by
    intro j
    unfold s_rem
    rw [zUp_c (by omega), zUp_c (by omega)]
  have h15 : ∀ x, x ≠ n → s_rem S n 15 x = S 15 x := by
    intro x hxe
    unfold s_rem
    rw [zUp_c (by omega), zUp_x hxe]
  have h15n : s_rem S n 15 n = nI e := by
    unfold s_rem
    rw [zUp_c (by omega), zUp_s, hw.1]
  have e2 : zIx (S 13 i) = n := by rw [ei, zIx_n (by omega)]
  have e1 : e = i + ((e - i - 1) + 1) := by omega
  have h : s_pl (s_rem S n) (i + ((e - i - 1) + 1)) 0 = s_pl S i 0 ++ s_pl S (e - i - 1) (i + 1) := by
    rw [s_pl_split, Nat.zero_add, s_pl, h13 i, e2, h15n, if_neg (nI_ne0 (by omega) (by omega))]
    congr 1
    · refine s_pl_cong i 0 (fun j _ h2 => ?_)
      rw [h13 j, h15 _ (fun y => by
        have := zWO_one hw (i := j) (j := i) (by omega) hi (y.trans e2.symm)
        omega)]
      exact ⟨rfl, Iff.rfl⟩
    · refine s_pl_cong (e - i - 1) (i + 1) (fun j h1 h2 => ?_)
      rw [h13 j, h15 _ (fun y => by
        have := zWO_one hw (i := j) (j := i) (by omega) hi (y.trans e2.symm)
        omega)]
      exact ⟨rfl, Iff.rfl⟩
  rw [← e1] at h
  exact h
