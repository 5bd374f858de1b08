def zMP (S M : zMem) (e : Nat) : Prop := zMPn S M e ∧ zMG S M e
theorem zL_app1 {l1 l2 : List Nat} {i : Nat} (h : i < l1.length) : (l1 ++ l2).getD i 0 = l1.getD i 0 := by
  rw [List.getD_eq_getElem?_getD, List.getD_eq_getElem?_getD, List.getElem?_append_left h]
theorem zL_app2 {l1 l2 : List Nat} {i : Nat} (h : l1.length ≤ i) : (l1 ++ l2).getD i 0 = l2.getD (i - l1.length) 0 := by
  rw [List.getD_eq_getElem?_getD, List.getD_eq_getElem?_getD, List.getElem?_append_right h]
theorem zL_mem {l : List Nat} {i : Nat} (h : i < l.length) : l.getD i 0 ∈ l := by
  rw [List.getD_eq_getElem?_getD, List.getElem?_eq_getElem h]
  exact List.getElem_mem h
theorem zL_cons {x : Nat} {l : List Nat} {i : Nat} (h : 0 < i) : (x :: l).getD i 0 = l.getD (i - 1) 0 := by
  obtain ⟨j, rfl⟩ : ∃ j, i = j + 1 := ⟨i - 1, by omega⟩
  simp
/-- those ahead: the loop from behind -/
theorem g_bgL {S M : zMem} {e n : Nat} (hw : zWP S e) (h : zMPn S M e) (hn : n < e) (A : List Nat) (hA : A.length ≤ 60) (hm : ∀ i, i < A.length → M (141 + n) i = nI (A.getD i 0)) (hlt : ∀ x, x ∈ A → x < e) : ∀ m N, m ≤ A.length → m < N → ((A.take m).filter (fun x => decide (S 15 x = 0)) = [] → f_X10_behindGone_L9 (nI n) N (nI m - 1) M = some (0, M)) ∧ (∀ l q, (A.take m).filter (fun x => decide (S 15 x = 0)) = l ++ [q] → f_X10_behindGone_L9 (nI n) N (nI m - 1) M = some (zPo (s_pl S e 0) (nI q) 0 + 1, M)) := by
  have h320 := hw.1.2.1
  have h40 := hw.2.2.1
  intro m
  induction m with
  | zero =>
    intro N hm0 hN
    obtain ⟨N, rfl⟩ : ∃ N', N = N' + 1 := ⟨N - 1, by omega⟩
    refine ⟨fun _ => ?_, fun l q h => by simp at h⟩
    rw [f_X10_behindGone_L9, if_pos (by decide)]
  | succ m ih =>
    intro N hm0 hN
    obtain ⟨N, rfl⟩ : ∃ N', N = N' + 1 := ⟨N - 1, by omega⟩
    have hi := ih N (by omega) (by omega)
    have ha := hlt _ (zL_mem (l := A) (i := m) (by omega))
    have ht : A.take (m + 1) = A.take m ++ [A.getD m 0] := by
      rw [List.take_succ, List.getD_eq_getElem?_getD, List.getElem?_eq_getElem (by omega)]
      rfl
    have hg : f_X10_behindGone_L9 (nI n) (N + 1) (nI (m + 1) - 1) M = if zPo (s_pl S e 0) (nI (A.getD m 0)) 0 = -1 then f_X10_behindGone_L9 (nI n) N (nI m - 1) M else some (zPo (s_pl S e 0) (nI (A.getD m 0)) 0 + 1, M) := by
      rw [nI_pred, f_X10_behindGone_L9]
      simp (disch := omega) only [zd_lt0, zd_in, zIx_n, zCk_T, if_false, ite_false]
      rw [hm m (by omega), g_placeOf hw h, zBd_some, ← Int32.sub_eq_add_neg]
    rw [hg, ht, List.filter_append]
    by_cases q : S 15 (A.getD m 0) = 0
    · have hf : List.filter (fun x => decide (S 15 x = 0)) [A.getD m 0] = [A.getD m 0] := by rw [List.filter_cons_of_pos (by rw [decide_eq_true q])]; rfl
      have hin : A.getD m 0 ∈ s_pl S e 0 := (s_pl_in hw.1).mpr ⟨ha, q⟩
      obtain ⟨p, hp, e1, _, _⟩ := zPo_2 (n := A.getD m 0) (by omega) (s_pl S e 0) 0 hin (fun x hx => by
        have := ((s_pl_in hw.1).mp hx).1
        omega)
      rw [hf, e1, Nat.zero_add, if_neg (by rw [zd_e1 (by omega)]; exact fun y => y)]
      refine ⟨fun h => by simp at h, fun l q2 h2 => ?_⟩
      have := (List.append_inj' h2 rfl).2
      simp only [List.cons.injEq, and_true] at this
      rw [← this, e1, Nat.zero_add]
    · have hf : List.filter (fun x => decide (S 15 x = 0)) [A.getD m 0] = [] := by rw [List.filter_cons_of_neg (by rw [decide_eq_false q]; decide)]; rfl
      have hout : zPo (s_pl S e 0) (nI (A.getD m 0)) 0 = -1 := (zPo_1 0 (by omega)).mpr (fun x hx y => by
        have hx2 := (s_pl_in hw.1).mp hx
        have := (nI_eq (by omega) (by omega)).mp y
        rw [this] at hx2
        exact q hx2.2)
      rw [hf, List.append_nil, if_pos hout]
      exact hi
theorem s_pl_at {S : zMem} {e q j : Nat} (hw : zWO S e) (hj : j < e) (hqe : q < e) (ej : S 13 j = nI q) (hq : S 15 q = 0) : zPo (s_pl S e 0) (nI q) 0 = nI (s_pl S j 0).length ∧ (s_pl S (j + 1) 0).length = (s_pl S j 0).length + 1 := by
  have h320 := hw.2.1
  have hni := s_pl_notin hw hj ej hqe
  rw [s_pl_cut hw hj ej hqe hq]
  refine ⟨?_, ?_⟩
  · rw [zPo_app (by omega) _ _ 0 hni.1 (fun x hx => by
      have := s_pl_lt hw (by omega) hx
      omega), Nat.zero_add]
  · rw [s_pl_split S j 1 0, List.length_append, Nat.zero_add]
    have : s_pl S 1 j = [q] := by
      rw [s_pl, s_pl_nil, ej, zIx_n (by omega), if_pos hq]
    rw [this]
    rfl
theorem zL_last (l : List Nat) : l = [] ∨ ∃ l2 q, l = l2 ++ [q] := by
  rcases List.eq_nil_or_concat l with h | ⟨l2, q, h⟩
  · exact Or.inl h
  · exact Or.inr ⟨l2, q, by rw [h]; simp⟩
theorem g_bg {S M : zMem} {e n : Nat} (hw : zWP S e) (h : zMP S M e) (hn : n < e) (hg : S 15 n ≠ 0) : f_X10_behindGone (nI n) M = some (nI (s_pl S (s_spot S (nI n) (S 15 n) e 0 0) 0).length, M) := by
  have h320 := hw.1.2.1
  obtain ⟨A, hA, h121, hm, hlt, hB⟩ := h.2 n hn hg
  have hce : zIx (S 15 n) ≤ e := by
    rcases (hw.2.2.2.2.2 n hn).1 with x | ⟨c, h1, h2, h3⟩
    · exact absurd x hg
    · rw [h3, zIx_n (by omega)]; exact h2
  have hL := g_bgL hw h.1 hn A hA hm (fun x hx => by have := hlt x hx; omega) A.length zFu (Nat.le_refl _) (by unfold zFu; omega)
  rw [List.take_length] at hL
  have hs := s_spot_bf hw.1 hn hg (S 15 n) e 0 0 (by omega)
  rw [f_X10_behindGone, zCk_t (zIn_n (by omega) (by omega)), zIx_n (by omega), h121]
  rcases zL_last (s_bf S (nI n) (S 15 n) e 0) with h0 | ⟨l, q, h0⟩
  · rw [hL.1 (by rw [hB, h0]), hs.1 h0, s_pl_nil]
    rfl
  · obtain ⟨j, _, h2, h3, h4, h5, h6⟩ := hs.2 l q h0
    have hat := s_pl_at hw.1 h2 h3 h4 h5
    rw [hL.2 l q (by rw [hB, h0]), h6, hat.1, hat.2, nI_1]
/-- those ahead, after one more is set in -/
theorem s_bf_shift {S S' : zMem} {u c : Int32} : ∀ k i, (∀ j, i ≤ j → j < i + k → S' 13 (j + 1) = S 13 j ∧ (S' 15 (zIx (S 13 j)) = 0 ↔ S 15 (zIx (S 13 j)) = 0)) → s_bf S' u c k (i + 1) = s_bf S u c k i
  | 0, _, _ => rfl
  | k + 1, i, h => by
    have h0 := h i (by omega) (by omega)
    have ih := s_bf_shift (u := u) (c := c) k (i + 1) (fun j h1 h2 => h j (by omega) (by omega))
    unfold s_bf
    rw [h0.1, ih]
    by_cases q1 : S 13 i = u
    · rw [if_pos q1, if_pos q1]
    · rw [if_neg q1, if_neg q1]
      by_cases q : S 15 (zIx (S 13 i)) = 0 ∧ S 13 i < c
      · rw [if_pos q, if_pos ⟨h0.2.mpr q.1, q.2⟩]
      · rw [if_neg q, if_neg (fun x => q ⟨h0.2.mp x.1, x.2⟩)]
theorem s_bf_ins {S S' : zMem} {u c v : Int32} {s e : Nat} (hv : v ≠ u) (hc : ¬ v < c) (h13 : ∀ j, S' 13 j = if j < s then S 13 j else if j = s then v else S 13 (j - 1)) (h15 : ∀ j, j < e → (S' 15 (zIx (S 13 j)) = 0 ↔ S 15 (zIx (S 13 j)) = 0)) (hs : s ≤ e) : ∀ k i, i + k = s → s_bf S' u c (e - i + 1) i = s_bf S u c (e - i) i
  | 0, i, h => by
    obtain rfl : i = s := by omega
    have hh := h13 i
    rw [if_neg (by omega), if_pos rfl] at hh
    rw [s_bf, hh, if_neg hv, if_neg (fun x => hc x.2)]
    refine s_bf_shift (e - i) i (fun j h1 h2 => ?_)
    have := h13 (j + 1)
    rw [if_neg (by omega), if_neg (by omega), Nat.add_sub_cancel] at this
    exact ⟨this, h15 j (by omega)⟩
  | k + 1, i, h => by
    have ih := s_bf_ins hv hc h13 h15 hs k (i + 1) (by omega)
    have hh := h13 i
    rw [if_pos (by omega)] at hh
    have e1 : e - i = (e - (i + 1)) + 1 := by omega
    rw [e1]
    rw [s_bf, hh, ih]
    rw [s_bf]
    by_cases q1 : S 13 i = u
    · rw [if_pos q1, if_pos q1]
    · rw [if_neg q1, if_neg q1]
      by_cases q : S 15 (zIx (S 13 i)) = 0 ∧ S 13 i < c
      · rw [if_pos q, if_pos ⟨(h15 i (by omega)).mpr q.1, q.2⟩]
      · rw [if_neg q, if_neg (fun x => q ⟨(h15 i (by omega)).mp x.1, x.2⟩)]
/-- those ahead, after one is gone -/
theorem s_bf_rem {S S' : zMem} {u c : Int32} {y e : Nat} (h13 : ∀ j, S' 13 j = S 13 j) (h15 : ∀ x, x ≠ y → S' 15 x = S 15 x) (hy : S' 15 y ≠ 0) : ∀ k i, i + k = e → s_bf S' u c k i = (s_bf S u c k i).filter (fun x => decide (x ≠ y))
  | 0, _, _ => rfl
  | k + 1, i, h => by
    have ih := s_bf_rem (u := u) (c := c) h13 h15 hy k (i + 1) (by omega : i + 1 + k = e)
    rw [s_bf, h13, ih, s_bf]
    by_cases q1 : S 13 i = u
    · rw [if_pos q1, if_pos q1]
      rfl
    · rw [if_neg q1, if_neg q1]
      by_cases qy : zIx (S 13 i) = y
      · rw [qy, if_neg (fun x => hy x.1)]
        by_cases q : S 15 y = 0 ∧ S 13 i < c
        · rw [if_pos q, List.filter_cons_of_neg (by simp)]
        · rw [if_neg q]
      · rw [h15 _ qy]
        by_cases q : S 15 (zIx (S 13 i)) = 0 ∧ S 13 i < c
        · rw [if_pos q, if_pos q, List.filter_cons_of_pos (by simpa using qy)]
        · rw [if_neg q, if_neg q]
/-- those ahead of one that goes now: all that stand before it -/
theorem s_bf_all {S' : zMem} {u c : Int32} {i0 e : Nat} (hu : S' 13 i0 = u) (hi0 : i0 < e) (hne : ∀ j, j < i0 → S' 13 j ≠ u) (hlt : ∀ j, j < i0 → S' 13 j < c) : ∀ k i, i + k = i0 → s_bf S' u c (e - i) i = s_pl S' k i
  | 0, i, h => by
    obtain rfl : i = i0 := by omega
    have e1 : e - i = (e - i - 1) + 1 := by omega
    rw [e1, s_bf, if_pos hu]
    rfl
  | k + 1, i, h => by
    have ih := s_bf_all hu hi0 hne hlt k (i + 1) (by omega)
    have e1 : e - i = (e - (i + 1)) + 1 := by omega
    rw [e1, s_bf, if_neg (hne i (by omega)), s_pl, ih]
    by_cases q : S' 15 (zIx (S' 13 i)) = 0
    · rw [if_pos q, if_pos ⟨q, hlt i (by omega)⟩]
    · rw [if_neg q, if_neg (fun x => q x.1)]
