/-! ===== what holds between the calls ===== -/
def zIJ (M : zMem) : Prop := (∀ j, j < 6 → M 124 j = M 65 j) ∧ (∀ j m, j < 6 → m < 24 → (M (133 + j) m = 0 ∧ M (67 + j) m = -1) ∨ (M (133 + j) m = 1 ∧ M (126 + j) m = M (67 + j) m ∧ zIn (M (67 + j) m) 101))
def zIT (M : zMem) (t : Nat) : Prop := M 1 1 = nI t ∧ M 74 2 = nI t ∧ t ≤ 600 ∧ (∀ i, i < t → M 75 i = M 2 i ∧ -128 ≤ (M 2 i).toInt ∧ (M 2 i).toInt ≤ 127)
def zIE (M : zMem) : Prop := zWE M ∧ zMv M M ∧ (∀ d, d < 8 → M 4 d = 0 → M 5 d = -1)
def zIL (M : zMem) (n : Nat) : Prop := M 15 5 = nI n ∧ M 74 16 = nI n ∧ n ≤ 300 ∧ zLM M M n
def zIS (M : zMem) (n nq nm e : Nat) : Prop := zCS 21 (s_run M n) M ∧ zMS (s_run M n) M 0 n e ∧ zWA M (s_run M n) n nq nm e
def zInv (M : zMem) : Prop := ∃ n nq nm e t, zIL M n ∧ zIE M ∧ zIS M n nq nm e ∧ zIT M t ∧ zIJ M
theorem zMS_c {S M M' : zMem} {sd k e : Nat} (hsd : sd < 2) (h : zMS S M sd k e) (hM : ∀ c, (100 ≤ c ∧ c ≤ 121) ∨ 141 ≤ c → M' c = M c) (h74 : ∀ i, i = 25 ∨ (31 ≤ i ∧ i ≤ 39) ∨ (48 ≤ i ∧ i ≤ 50) → M' 74 i = M 74 i) : zMS S M' sd k e := by
  obtain ⟨m25, ⟨m31, m32, m33, m37, m34, m35, m36, m38, m39⟩, hQ, h3, h4, h5, hP⟩ := h
  refine ⟨by rw [h74 25 (by omega), m25], ⟨?_, ?_, ?_, ?_, ?_, ?_, ?_, ?_, ?_⟩, zMQ_c hQ (fun c _ _ => rfl) (fun c _ => hM c (by omega)), ?_, zM4_c h4 (fun c _ _ => rfl) (fun c _ _ => hM c (by omega)), zM5_c h5 (fun c _ _ => rfl) (fun c _ => hM c (by omega)) hsd, zMP_c hP (fun c _ _ => rfl) (fun c _ => hM c (by omega)) (fun i _ _ => h74 i (by omega))⟩
  · rw [h74 31 (by omega)]; exact m31
  · rw [h74 32 (by omega)]; exact m32
  · rw [h74 33 (by omega)]; exact m33
  · rw [h74 37 (by omega)]; exact m37
  · rw [h74 34 (by omega)]; exact m34
  · rw [h74 35 (by omega)]; exact m35
  · rw [h74 36 (by omega)]; exact m36
  · rw [h74 38 (by omega)]; exact m38
  · rw [h74 39 (by omega)]; exact m39
  · intro i hi
    rw [hM 108 (by omega)]
    exact h3 i hi
theorem zCS_c {o : Nat} {S M M' : zMem} (h : zCS o S M) (hM : ∀ c, o ≤ c → c < o + 20 → M' c = M c) : zCS o S M' := by
  refine zCS_w ?_ ?_ (zCF_fr h.2.1 (fun j hj => hM _ (by omega) (by omega)) (fun c _ _ => rfl)) (zCM_fr h.2.2.1 (fun j hj => hM _ (by omega) (by omega)) (fun c _ _ => rfl)) (zCP_fr h.2.2.2.1 (fun j hj => hM _ (by omega) (by omega)) (fun c _ _ => rfl))
  · intro i h1 h2
    rw [hM o (by omega) (by omega)]
    exact zCS_0 h h1 h2
  · intro j i h1 h2 h3
    rw [hM _ (by omega) (by omega)]
    exact zCS_a h j h1 h2 h3
/-- what the calls read of one another -/
def zKp (c i : Nat) : Prop := (3 ≤ c ∧ c ≤ 7) ∨ (14 ≤ c ∧ c ≤ 40) ∨ (65 ≤ c ∧ c ≤ 72) ∨ c = 78 ∨ c = 81 ∨ c = 84 ∨ c = 87 ∨ (93 ≤ c ∧ c ≤ 121) ∨ (124 ≤ c ∧ c ≤ 138) ∨ 141 ≤ c ∨ (c = 74 ∧ 6 ≤ i) ∨ (89 ≤ c ∧ c ≤ 92 ∧ i = 0)
theorem zIE_c {M M' : zMem} (h : zIE M) (hk : ∀ c i, ((3 ≤ c ∧ c ≤ 7) ∨ c = 14 ∨ c = 78 ∨ c = 81 ∨ c = 84 ∨ c = 87 ∨ c = 93 ∨ (89 ≤ c ∧ c ≤ 92 ∧ i = 0)) → M' c i = M c i) : zIE M' := by
  have f : ∀ c, ((3 ≤ c ∧ c ≤ 7) ∨ c = 14 ∨ c = 78 ∨ c = 81 ∨ c = 84 ∨ c = 87 ∨ c = 93) → M' c = M c := fun c hc => by
    funext i
    exact hk c i (by omega)
  obtain ⟨h1, h2, h3⟩ := h
  refine ⟨?_, ?_, ?_⟩
  · unfold zWE
    rw [f 3 (by omega), f 4 (by omega), f 5 (by omega), f 6 (by omega), f 7 (by omega)]
    exact h1
  · unfold zMv
    rw [f 3 (by omega), f 4 (by omega), f 5 (by omega), f 6 (by omega), f 7 (by omega), f 14 (by omega), f 78 (by omega), f 81 (by omega), f 84 (by omega), f 87 (by omega), f 93 (by omega), hk 89 0 (by omega), hk 90 0 (by omega), hk 91 0 (by omega), hk 92 0 (by omega)]
    exact h2
  · rw [f 4 (by omega), f 5 (by omega)]
    exact h3
theorem zInv_c {M M' : zMem} {n nq nm e t : Nat} (hL : zIL M n) (hE : zIE M) (hS : zIS M n nq nm e) (hJ : zIJ M) (hk : ∀ c i, zKp c i → M' c i = M c i) (hT : zIT M' t) : zInv M' := by
  have f : ∀ c, (3 ≤ c ∧ c ≤ 7) ∨ (14 ≤ c ∧ c ≤ 40) ∨ (65 ≤ c ∧ c ≤ 72) ∨ c = 78 ∨ c = 81 ∨ c = 84 ∨ c = 87 ∨ (93 ≤ c ∧ c ≤ 121) ∨ (124 ≤ c ∧ c ≤ 138) ∨ 141 ≤ c → M' c = M c := fun c hc => by
    funext i
    exact hk c i (by unfold zKp; omega)
  have f74 : ∀ i, 6 ≤ i → M' 74 i = M 74 i := fun i hi => hk 74 i (by unfold zKp; omega)
  have hsm : zSm M M' := ⟨f 3 (by omega), f 4 (by omega), f 5 (by omega), f 6 (by omega), f 7 (by omega), f 14 (by omega)⟩
  have hrun : s_run M' n = s_run M n := s_run_c hsm n (fun c i h1 h2 _ => by rw [f c (by omega)])
  refine ⟨n, nq, nm, e, t, ⟨by rw [f 15 (by omega)]; exact hL.1, by rw [f74 16 (by omega)]; exact hL.2.1, hL.2.2.1, ?_⟩, zIE_c hE (fun c i hc => hk c i (by unfold zKp; omega)), ⟨?_, ?_, ?_⟩, hT, ?_⟩
  · intro i hi
    rw [f 94 (by omega), f 95 (by omega), f 96 (by omega), f 97 (by omega), f 98 (by omega), f 16 (by omega), f 17 (by omega), f 18 (by omega), f 19 (by omega), f 20 (by omega)]
    exact hL.2.2.2 i hi
  · rw [hrun]
    exact zCS_c hS.1 (fun c _ _ => f c (by omega))
  · rw [hrun]
    exact zMS_c (by omega) hS.2.1 (fun c _ => f c (by omega)) (fun i _ => f74 i (by omega))
  · rw [hrun]
    exact zWA_c hsm (fun i _ => by rw [f 16 (by omega)]) hS.2.2
  · refine ⟨fun j hj => ?_, fun j m hj hm => ?_⟩
    · rw [f 124 (by omega), f 65 (by omega)]
      exact hJ.1 j hj
    · rw [f (133 + j) (by omega), f (126 + j) (by omega), f (67 + j) (by omega)]
      exact hJ.2 j m hj hm
/-- a call: both answer alike, and what must hold goes on holding -/
def zCall (f g : zMem → zTr) : Prop := ∀ M, zInv M → ∃ r M1 M2, f M = some (r, M1) ∧ g M1 = some (r, M2) ∧ zInv M2
/-! queries that change nothing -/
theorem in_n {u : Int32} {n : Nat} (hn : n < 2 ^ 31) : ((0 : Int32).toInt ≤ u.toInt ∧ u.toInt ≤ (nI n - 1).toInt) ↔ zIn u n := by
  have e0 : (0 : Int32).toInt = 0 := by decide +kernel
  rw [e0]
  cases n with
  | zero =>
    have e1 : (nI 0 - 1).toInt = -1 := by decide +kernel
    rw [e1]
    constructor
    · intro h; omega
    · intro h
      have := h.1
      have := h.2
      omega
  | succ n =>
    rw [nI_pred, nI_toInt (by omega)]
    constructor
    · intro h; exact ⟨h.1, by omega⟩
    · intro h; exact ⟨h.1, by have := h.2; omega⟩
theorem wk_in {S : zMem} {u : Int32} {n : Nat} (hn : n ≤ 300) (h9 : S 0 9 = nI n) : s_wk S u ↔ zIn u n := by
  unfold s_wk
  rw [h9]
  constructor
  · rintro ⟨h1, h2⟩
    obtain ⟨j, hj, ej⟩ := zIn_of h1
    rw [ej] at h2 ⊢
    exact zIn_n ((nI_ltI (by omega) (by omega)).mp h2) (by omega)
  · intro h
    obtain ⟨j, hj, ej⟩ := zIn_of h
    rw [ej]
    exact ⟨zIn_n (by omega) (by omega), nI_lt hj (by omega)⟩
theorem q_ruling (u : Int32) : zCall (f_X9_ruling u) (f_X10_ruling u) := by
  rintro M hI
  obtain ⟨n, nq, nm, e, t, hL, hE, ⟨hC, hS, hW⟩, hT, hJ⟩ := id hI
  have h9 := hW.1.2.2.2
  have hn := hL.2.2.1
  have hx : zIx (s_run M n 0 9) = n := by rw [h9, zIx_n (by omega)]
  rw [f_X9_ruling, f_X7_rulingOf, k_wk hC, zBd_some, zT_congr (wk_in hn h9)]
  by_cases q : zIn u n
  · obtain ⟨j, hj, ej⟩ := zIn_of q
    have q3 : zIn u 300 := ⟨q.1, by have := q.2; omega⟩
    refine ⟨s_run M n 16 j, M, M, ?_, ?_, hI⟩
    · rw [zT_t q, if_neg (by decide), zCk_t q3, zBd_some, ej, zIx_n (by omega), zCS_a hC 16 (by omega) (by omega) (by omega)]
    · rw [f_X10_ruling, hL.2.1, k_in, zBd_some, yB_t ((in_n (by omega)).mpr q), if_neg (by decide), zCk_t q3, ej, zIx_n (by omega), (hS.2.2.2.2.2.1.1 j hj).1]
  · refine ⟨-1, M, M, ?_, ?_, hI⟩
    · rw [zT_f q, if_pos rfl, zBd_some]
    · rw [f_X10_ruling, hL.2.1, k_in, zBd_some, yB_f (fun y => q ((in_n (by omega)).mp y)), if_pos rfl]
theorem q_passed (u : Int32) : zCall (f_X9_passed u) (f_X10_passed u) := by
  rintro M hI
  obtain ⟨n, nq, nm, e, t, hL, hE, ⟨hC, hS, hW⟩, hT, hJ⟩ := id hI
  have h9 := hW.1.2.2.2
  have hn := hL.2.2.1
  have hx : zIx (s_run M n 0 9) = n := by rw [h9, zIx_n (by omega)]
  rw [f_X9_passed, f_X7_passedOf, k_wk hC, zBd_some, zT_congr (wk_in hn h9)]
  by_cases q : zIn u n
  · obtain ⟨j, hj, ej⟩ := zIn_of q
    have q3 : zIn u 300 := ⟨q.1, by have := q.2; omega⟩
    refine ⟨s_run M n 17 j, M, M, ?_, ?_, hI⟩
    · rw [zT_t q, if_neg (by decide), zCk_t q3, zBd_some, ej, zIx_n (by omega), zCS_a hC 17 (by omega) (by omega) (by omega)]
    · rw [f_X10_passed, hL.2.1, k_in, zBd_some, yB_t ((in_n (by omega)).mpr q), if_neg (by decide), zCk_t q3, ej, zIx_n (by omega), (hS.2.2.2.2.2.1.1 j hj).2]
  · refine ⟨-1, M, M, ?_, ?_, hI⟩
    · rw [zT_f q, if_pos rfl, zBd_some]
    · rw [f_X10_passed, hL.2.1, k_in, zBd_some, yB_f (fun y => q ((in_n (by omega)).mp y)), if_pos rfl]
theorem q_overturned (u : Int32) : zCall (f_X9_overturned u) (f_X10_overturned u) := by
  rintro M hI
  obtain ⟨n, nq, nm, e, t, hL, hE, ⟨hC, hS, hW⟩, hT, hJ⟩ := id hI
  have h9 := hW.1.2.2.2
  have hn := hL.2.2.1
  have hx : zIx (s_run M n 0 9) = n := by rw [h9, zIx_n (by omega)]
  rw [f_X9_overturned, f_X7_overturnedOf, k_wk hC, zBd_some, zT_congr (wk_in hn h9)]
  by_cases q : zIn u n
  · obtain ⟨j, hj, ej⟩ := zIn_of q
    have q3 : zIn u 300 := ⟨q.1, by have := q.2; omega⟩
    have h5 := (hS.2.2.2.2.2.1.2 j (by omega)).1
    rw [if_pos hj] at h5
    rw [zT_t q, if_neg (by decide), zCk_t q3, ej, zIx_n (by omega), zCS_a hC 18 (by omega) (by omega) (by omega)]
    by_cases c : s_run M n 18 j = 0
    · refine ⟨0, M, M, by rw [if_pos c, zBd_some], ?_, hI⟩
      rw [f_X10_overturned, hL.2.1, k_in, zBd_some, yB_t (by rw [← ej]; exact (in_n (by omega)).mpr q), if_neg (by decide), zCk_t (by rw [← ej]; exact q3), zIx_n (by omega)]
      show (if M (106 + 0) j = 0 then _ else _) = _
      rw [h5, if_pos c]
    · refine ⟨1, M, M, by rw [if_neg c, zBd_some], ?_, hI⟩
      rw [f_X10_overturned, hL.2.1, k_in, zBd_some, yB_t (by rw [← ej]; exact (in_n (by omega)).mpr q), if_neg (by decide), zCk_t (by rw [← ej]; exact q3), zIx_n (by omega)]
      show (if M (106 + 0) j = 0 then _ else _) = _
      rw [h5, if_neg c]
  · refine ⟨-1, M, M, ?_, ?_, hI⟩
    · rw [zT_f q, if_pos rfl, zBd_some]
    · rw [f_X10_overturned, hL.2.1, k_in, zBd_some, yB_f (fun y => q ((in_n (by omega)).mp y)), if_pos rfl]
/-- what a session tells of itself; both from one S -/
theorem tell_eq {E S M M' : zMem} {o sd k nq nm e : Nat} (hk : k ≤ 300) (hC : zCS o S M) (hS : zMS S M' sd k e) (hW : zWA E S k nq nm e) (h16 : M' 74 16 = nI k) (u : Int32) : ∃ r, f_X7_tell o u M = some (r, M) ∧ f_X10_state u M' = some (r, M') := by
  obtain ⟨_, ⟨m31, m32, m33, m37, m34, m35, m36, m38, m39⟩, hQ, h3, _, _, hP⟩ := id hS
  have h9 := hW.1.2.2.2
  have h5 := hW.2.1.2.1
  have ht := hW.2.2.2.1
  rw [f_X7_tell, f_X10_state, k_bc, zBd_some, g_there ht h3, zBd_some]
  rw [zCS_0 hC (by omega) (by omega), zCF_1 hC.2.1 (by omega) (by omega), zCF_1 hC.2.1 (by omega) (by omega), zCF_1 hC.2.1 (by omega) (by omega), zCS_0 hC (by omega) (by omega), zCM_8 hC.2.2.1, zCS_0 hC (by omega) (by omega), zCS_0 hC (by omega) (by omega), zCP_0 hC.2.2.2.1 (by omega) (by omega), zCP_0 hC.2.2.2.1 (by omega) (by omega), zCS_0 hC (by omega) (by omega), zCS_0 hC (by omega) (by omega), m31, m32, m33, m34, m35, m36, m38, m39, hP.1.1, hP.1.2.1, h16, h5, h9]
  by_cases q0 : u = 0
  · exact ⟨_, by rw [if_pos q0], by rw [if_pos q0]⟩
  rw [if_neg q0, if_neg q0]
  by_cases q1 : u = 1
  · exact ⟨_, by rw [if_pos q1], by rw [if_pos q1]⟩
  rw [if_neg q1, if_neg q1]
  by_cases q2 : u = 2
  · exact ⟨_, by rw [if_pos q2], by rw [if_pos q2]⟩
  rw [if_neg q2, if_neg q2]
  by_cases q3 : u = 3
  · exact ⟨_, by rw [if_pos q3], by rw [if_pos q3]⟩
  rw [if_neg q3, if_neg q3]
  by_cases q4 : u = 4
  · exact ⟨_, by rw [if_pos q4], by rw [if_pos q4]⟩
  rw [if_neg q4, if_neg q4]
  by_cases q5 : u = 5
  · exact ⟨_, by rw [if_pos q5], by rw [if_pos q5]⟩
  rw [if_neg q5, if_neg q5]
  by_cases q6 : u = 6
  · exact ⟨_, by rw [if_pos q6], by rw [if_pos q6]⟩
  rw [if_neg q6, if_neg q6]
  by_cases q7 : u = 7
  · rw [if_pos q7, if_pos q7]
    by_cases c : S 0 15 = 0
    · exact ⟨_, by rw [if_pos c], by rw [if_pos c]⟩
    · exact ⟨_, by rw [if_neg c], by rw [if_neg c]⟩
  rw [if_neg q7, if_neg q7]
  by_cases q8 : u = 8
  · rw [if_pos q8, if_pos q8]
    by_cases c : S 12 3 = 0
    · exact ⟨_, by rw [if_pos c], by rw [if_pos c]⟩
    · exact ⟨_, by rw [if_neg c], by rw [if_neg c]⟩
  rw [if_neg q8, if_neg q8]
  by_cases q9 : u = 9
  · exact ⟨_, by rw [if_pos q9], by rw [if_pos q9]⟩
  rw [if_neg q9, if_neg q9]
  by_cases q10 : u = 10
  · exact ⟨_, by rw [if_pos q10], by rw [if_pos q10]⟩
  · exact ⟨_, by rw [if_neg q10], by rw [if_neg q10]⟩
theorem q_state (u : Int32) : zCall (f_X9_state u) (f_X10_state u) := by
  rintro M hI
  obtain ⟨n, nq, nm, e, t, hL, hE, ⟨hC, hS, hW⟩, hT, hJ⟩ := id hI
  obtain ⟨r, e1, e2⟩ := tell_eq hL.2.2.1 hC hS hW hL.2.1 u
  exact ⟨r, M, M, by rw [f_X9_state, e1, zBd_some], e2, hI⟩
theorem q_speeches (u : Int32) : zCall (f_X9_speeches u) (f_X10_speeches u) := by
  rintro M hI
  obtain ⟨n, nq, nm, e, t, hL, hE, ⟨hC, hS, hW⟩, hT, hJ⟩ := id hI
  have e0 : (0 : Int32).toInt = 0 := by decide +kernel
  have e23 : (23 : Int32).toInt = 23 := by decide +kernel
  have hmm : ((0 : Int32).toInt ≤ u.toInt ∧ u.toInt ≤ (23 : Int32).toInt) ↔ zIn u 24 := by
    rw [e0, e23]
    exact ⟨fun x => ⟨x.1, by omega⟩, fun x => ⟨x.1, by have := x.2; omega⟩⟩
  rw [f_X9_speeches, k_isMember, zBd_some]
  by_cases q : zIn u 24
  · have hj := zIx_lt q
    refine ⟨s_run M n 3 (zIx u), M, M, ?_, ?_, hI⟩
    · rw [yB_t q, if_neg (by decide), zCk_t q, show M (21 + 3) (zIx u) = s_run M n 3 (zIx u) from zCF_s hC.2.1 hj]
    · rw [f_X10_speeches, k_in, zBd_some, yB_t (hmm.mpr q), if_neg (by decide), zCk_t q, hS.2.2.1.2 _ hj]
  · refine ⟨-1, M, M, ?_, ?_, hI⟩
    · rw [yB_f q, if_pos rfl]
    · rw [f_X10_speeches, k_in, zBd_some, yB_f (fun y => q (hmm.mp y)), if_pos rfl]
