/-! ===== numbers and choices of the reference ===== -/
def yNw (B : Nat → Int32) (q i : Nat) : Int32 := if i ≤ 4 then zNv B q i else 1000000
theorem g_numL {B : Nat → Int32} {t q : Nat} {u1 u2 f : Int32} : ∀ k i N Q, (q + i) + k = t → k < N → zQs B t Q (q + i) q f → ∃ Q' i', f_X10_number_L16 u1 u2 N (yNw B q i) Q = f_X10_number_B104 u1 u2 (yNw B q i') Q' ∧ q + i' = zRn yDg B k (q + i) ∧ zQs B t Q' (q + i') q f ∧ zOq Q Q' := by
  intro k
  induction k with
  | zero =>
    intro i N Q hp hN h
    obtain ⟨N, rfl⟩ : ∃ N', N = N' + 1 := ⟨N - 1, by omega⟩
    have ht := h.1.2.1
    refine ⟨Q, i, ?_, rfl, h, zOq_r⟩
    rw [f_X10_number_L16, h.1.1, h.2.1, if_pos (nI_le (by omega) (by omega))]
  | succ k ih =>
    intro i N Q hp hN h
    obtain ⟨N, rfl⟩ : ∃ N', N = N' + 1 := ⟨N - 1, by omega⟩
    have ht := h.1.2.1
    have hb := h.1.2.2.1 (q + i) (by omega)
    have hd := yBy_d hb
    rw [f_X10_number_L16, h.1.1, h.2.1, if_neg (nI_ge (by omega) (by omega)), zCk_t (zIn_n (by omega) (by omega)), zIx_n (by omega), zRn]
    by_cases d : yDg (B (q + i)) = true
    · have d2 := hd.mpr d
      have n1 : ¬ Q 75 (q + i) < 48 := fun x => by
        unfold yDg at d2
        rw [if_pos x] at d2
        exact absurd d2 (by decide)
      have n2 : ¬ 57 < Q 75 (q + i) := fun x => by
        unfold yDg at d2
        rw [if_neg n1, if_pos x] at d2
        exact absurd d2 (by decide)
      obtain ⟨Q', i', e, a1, a2, a3⟩ := ih (i + 1) N (zUp Q 74 3 (nI (q + i + 1))) (by omega) (by omega) (zQs_at h (by omega))
      rw [if_pos d, if_neg n1, zCk_t (zIn_n (by omega) (by omega)), if_neg n2, h.2.2.2.1, nI_sb]
      refine ⟨Q', i', ?_, a1, a2, zOq_t (zOq_u (by omega)) a3⟩
      by_cases x : 4 ≤ i
      · rw [if_pos (show (4 : Int32) ≤ nI i from nI_le (a := 4) x (by omega)), f_X10_number_B90, zLt_eq, h.2.1, nI_1]
        rw [show yNw B q (i + 1) = 1000000 from if_neg (by omega)] at e
        exact e
      · rw [if_neg (show ¬ (4 : Int32) ≤ nI i from nI_ge (b := 4) (by omega) (by omega)), zCk_t (zIn_n (by omega) (by omega)), f_X10_number_B90, zLt_eq, h.2.1, nI_1]
        rw [show yNw B q (i + 1) = ((10 * yNw B q i) + Q 75 (q + i)) - 48 from by
          unfold yNw
          rw [if_pos (by omega), if_pos (by omega), zNv, yBy_v hb d, Int32.mul_comm 10]] at e
        exact e
    · have key : ∀ X : zTr, X = f_X10_number_B104 u1 u2 (yNw B q i) Q → ∃ Q' i', X = f_X10_number_B104 u1 u2 (yNw B q i') Q' ∧ q + i' = q + i ∧ zQs B t Q' (q + i') q f ∧ zOq Q Q' := fun X hX => ⟨Q, i, hX, rfl, h, zOq_r⟩
      rw [if_neg d]
      apply key
      by_cases n1 : Q 75 (q + i) < 48
      · rw [if_pos n1]
      · rw [if_neg n1, zCk_t (zIn_n (by omega) (by omega))]
        by_cases n2 : 57 < Q 75 (q + i)
        · rw [if_pos n2]
        · exact absurd (hd.mp (by unfold yDg; rw [if_neg n1, if_neg n2])) d
theorem zNf_r {B : Nat → Int32} {t q : Nat} {u1 u2 : Int32} (hq : q ≤ 600) (h : zNf B t q u1 u2 = 0) : yG B t q ≠ q ∧ yG B t q - q ≤ 4 ∧ u1.toInt ≤ (zNv B q (yG B t q - q)).toInt ∧ (zNv B q (yG B t q - q)).toInt ≤ u2.toInt := by
  unfold zNf at h
  by_cases x : yG B t q = q
  · rw [if_pos x, zl_4, nI_mul, Int32.add_comm, nI_1] at h
    exact absurd h (nI_ne0 (by omega) (by omega))
  rw [if_neg x] at h
  by_cases y : yG B t q - q ≤ 4 ∧ u1.toInt ≤ (zNv B q (yG B t q - q)).toInt ∧ (zNv B q (yG B t q - q)).toInt ≤ u2.toInt
  · exact ⟨x, y⟩
  · rw [if_neg y, zl_2, zl_4, nI_mul, nI_add] at h
    exact absurd h (nI_ne0 (by omega) (by omega))
theorem g_num {B : Nat → Int32} {t p q0 : Nat} {Q : zMem} (u1 u2 : Int32) (hm : u2.toInt < 1000000) (h : zQs B t Q p q0 0) : ∃ Q' r p', f_X10_number u1 u2 Q = some (r, Q') ∧ zQs B t Q' p' (yS B t p) (zNf B t (yS B t p) u1 u2) ∧ zOq Q Q' ∧ (zNf B t (yS B t p) u1 u2 = 0 → r = zNv B (yS B t p) (yG B t (yS B t p) - yS B t p) ∧ p' = yG B t (yS B t p)) := by
  obtain ⟨Q1, e1, a1, a2⟩ := g_end h
  have ht := h.1.2.1
  have hp := yS_le (B := B) h.2.2.1
  generalize hq : yS B t p = q at e1 a1 hp ⊢
  obtain ⟨Q2, i, e2, b1, b2, b3⟩ := g_numL (q := q) (u1 := u1) (u2 := u2) (t - q) 0 zFu Q1 (by omega) (by unfold zFu; omega) a1
  have hg : yG B t q = q + i := b1.symm
  have hi : q + i ≤ t := b2.2.2.1
  have e1m : (1000000 : Int32).toInt = 1000000 := by decide +kernel
  rw [show yNw B q 0 = 0 from rfl] at e2
  rw [f_X10_number, h.2.2.2.2, if_pos (by decide), e1, zBd_some, e2, f_X10_number_B104, b2.2.1, b2.2.2.2.1]
  have hO := zOq_t a2 b3
  have ef : zNf B t q u1 u2 = if i = 0 then 1 + 4 * nI q else if i ≤ 4 ∧ u1.toInt ≤ (zNv B q i).toInt ∧ (zNv B q i).toInt ≤ u2.toInt then 0 else 2 + 4 * nI q := by
    unfold zNf
    rw [hg, show q + i - q = i by omega]
    by_cases x : i = 0
    · rw [if_pos (by omega), if_pos x]
    · rw [if_neg (by omega), if_neg x]
  rw [hg, show q + i - q = i by omega]
  by_cases x : i = 0
  · obtain ⟨Q3, f3, e3, c1, c2, c3, c4⟩ := g_fail 1 (nI q) 0 b2
    rw [if_pos (by rw [x, Nat.add_zero]), e3, zBd_some]
    rw [c4 rfl] at c1
    rw [ef, if_pos x]
    exact ⟨Q3, _, _, rfl, c1, zOq_t hO c2, fun _ => ⟨by rw [x]; rfl, rfl⟩⟩
  rw [if_neg (by rw [nI_eq (by omega) (by omega)]; omega), k_in, zBd_some, ef, if_neg x]
  by_cases y : i ≤ 4 ∧ u1.toInt ≤ (zNv B q i).toInt ∧ (zNv B q i).toInt ≤ u2.toInt
  · have ew : yNw B q i = zNv B q i := if_pos y.1
    rw [ew, yB_t y.2, if_neg (by decide), if_pos y]
    exact ⟨Q2, _, _, rfl, b2, hO, fun _ => ⟨rfl, rfl⟩⟩
  · have ny : ¬ (u1.toInt ≤ (yNw B q i).toInt ∧ (yNw B q i).toInt ≤ u2.toInt) := fun z => by
      unfold yNw at z
      by_cases w : i ≤ 4
      · rw [if_pos w] at z
        exact y ⟨w, z⟩
      · rw [if_neg w, e1m] at z
        omega
    obtain ⟨Q3, f3, e3, c1, c2, c3, c4⟩ := g_fail 2 (nI q) 0 b2
    rw [yB_f ny, if_pos rfl, b2.2.2.2.1, e3, zBd_some, if_neg y]
    rw [c4 rfl] at c1
    refine ⟨Q3, _, _, rfl, c1, zOq_t hO c2, fun z => ?_⟩
    rw [zl_2, zl_4, nI_mul, nI_add] at z
    exact absurd z (nI_ne0 (by omega) (by omega))
theorem zf_1 {q : Nat} (h : q ≤ 600) : (1 : Int32) + 4 * nI q = nI (1 + 4 * q) := by
  rw [zl_4, nI_mul]
  exact nI_add 1 (4 * q)
theorem zf_2 {q : Nat} (h : q ≤ 600) : (2 : Int32) + 4 * nI q = nI (2 + 4 * q) := by
  rw [zl_4, nI_mul]
  exact nI_add 2 (4 * q)
theorem zf_3 {q : Nat} (h : q ≤ 600) : (3 : Int32) + 4 * nI q = nI (3 + 4 * q) := by
  rw [zl_4, nI_mul]
  exact nI_add 3 (4 * q)
theorem g_one {B : Nat → Int32} {t p q0 a b : Nat} {u v : Int32} {Q : zMem} (hu : zIx u = a) (ha : a < 50) (hv : zIx v = b) (hb : b < 50) (h : zQs B t Q p q0 0) : ∃ Q' f', f_X10_one u v Q = some (zT (yWm B (yS B t p) a), Q') ∧ zQs B t Q' (yE B t (yS B t p)) (yS B t p) f' ∧ zOq Q Q' ∧ (yWm B (yS B t p) a ∨ yWm B (yS B t p) b → f' = 0) ∧ (¬ yWm B (yS B t p) a → ¬ yWm B (yS B t p) b → f' = 1 + 4 * nI (yS B t p)) := by
  obtain ⟨Q1, e1, ⟨a1, a0⟩, a2⟩ := g_word h
  have ht := h.1.2.1
  have hB := h.1.2.2.2
  generalize yS B t p = q at a1 a0 ⊢
  rw [f_X10_one, e1, zBd_some]
  by_cases x : yE B t q = q
  · rw [if_pos x, zf_1 (by omega)] at a1
    have n1 : ¬ yWm B q a := yWm_no hB ha a0 x
    have n2 : ¬ yWm B q b := yWm_no hB hb a0 x
    rw [a1.2.2.2.2, if_neg (nI_ne0 (by omega) (by omega)), f_X10_one_B36, a1.2.2.2.2, if_neg (nI_ne0 (by omega) (by omega)), zT_f n1]
    exact ⟨Q1, _, rfl, a1, a2, fun y => by rcases y with y | y; exact absurd y n1; exact absurd y n2, fun _ _ => (zf_1 (by omega)).symm⟩
  · rw [if_neg x] at a1
    rw [a1.2.2.2.2, if_pos rfl, g_is hu ha a1 a0, zBd_some]
    by_cases y : yWm B q a
    · rw [zT_t y, if_neg (by decide), f_X10_one_B36, a1.2.2.2.2, if_pos rfl, g_is hu ha a1 a0, zBd_some, zT_t y, if_neg (by decide)]
      exact ⟨Q1, 0, rfl, a1, a2, fun _ => rfl, fun z => absurd y z⟩
    · rw [zT_f y, if_pos rfl, g_is hv hb a1 a0, zBd_some]
      by_cases z : yWm B q b
      · rw [zT_t z, if_neg (by decide), f_X10_one_B36, a1.2.2.2.2, if_pos rfl, g_is hu ha a1 a0, zBd_some, zT_f y, if_pos rfl]
        exact ⟨Q1, 0, rfl, a1, a2, fun _ => rfl, fun _ w => absurd z w⟩
      · obtain ⟨Q2, f2, e2, b1, b2, b3, b4⟩ := g_fail 1 (nI q) 0 a1
        have b5 := b4 rfl
        subst b5
        rw [zT_f z, if_pos rfl, a1.2.2.2.1, e2, zBd_some, f_X10_one_B36, b1.2.2.2.2, if_neg (by rw [zf_1 (by omega)]; exact nI_ne0 (by omega) (by omega))]
        exact ⟨Q2, _, rfl, b1, zOq_t a2 b2, fun w => by rcases w with w | w; exact absurd w y; exact absurd w z, fun _ _ => rfl⟩
theorem g_kindW (i : Nat) (M : zMem) (h : i < 8) : f_X10_kindOf (nI i) M = some (nI (26 + i), M) := by
  unfold f_X10_kindOf
  rcases (by omega : i = 0 ∨ i = 1 ∨ i = 2 ∨ i = 3 ∨ i = 4 ∨ i = 5 ∨ i = 6 ∨ i = 7) with e | e | e | e | e | e | e | e <;> (subst e; rfl)
theorem g_wayW (i : Nat) (M : zMem) (h : i < 4) : f_X10_wayOf (nI i) M = some (nI (38 + i), M) := by
  unfold f_X10_wayOf
  rcases (by omega : i = 0 ∨ i = 1 ∨ i = 2 ∨ i = 3) with e | e | e | e <;> (subst e; rfl)
theorem g_clW (i : Nat) (M : zMem) (h : i < 4) : f_X10_clauseOf (nI i) M = some (nI (42 + i), M) := by
  unfold f_X10_clauseOf
  rcases (by omega : i = 0 ∨ i = 1 ∨ i = 2 ∨ i = 3) with e | e | e | e <;> (subst e; rfl)
theorem g_kindL {B : Nat → Int32} {t q k : Nat} {f : Int32} {Q : zMem} (hF : zFst (fun j => yWm B q (26 + j)) 8 k) (h : zQs B t Q (yE B t q) q f) (hq : q ≤ t) : ∀ d i N, i + d = k → d < N → f_X10_motion_L6 N (nI i) Q = f_X10_motion_B30 (nI k) Q := by
  obtain ⟨f1, f2, f3⟩ := hF
  intro d
  induction d with
  | zero =>
    intro i N hi hN
    obtain ⟨N, rfl⟩ : ∃ N', N = N' + 1 := ⟨N - 1, by omega⟩
    have e : i = k := by omega
    subst e
    rw [f_X10_motion_L6]
    by_cases x : i < 8
    · rw [if_neg (show ¬ (8 : Int32) ≤ nI i from nI_ge (b := 8) x (by omega)), g_kindW i Q x, zBd_some, g_is (zIx_n (by omega)) (by omega) h hq, zBd_some, zT_t (show yWm B q (26 + i) from f3 x), if_neg (by decide)]
    · rw [if_pos (show (8 : Int32) ≤ nI i from nI_le (a := 8) (by omega) (by omega))]
  | succ d ih =>
    intro i N hi hN
    obtain ⟨N, rfl⟩ : ∃ N', N = N' + 1 := ⟨N - 1, by omega⟩
    rw [f_X10_motion_L6, if_neg (show ¬ (8 : Int32) ≤ nI i from nI_ge (b := 8) (by omega) (by omega)), g_kindW i Q (by omega), zBd_some, g_is (zIx_n (by omega)) (by omega) h hq, zBd_some, zT_f (show ¬ yWm B q (26 + i) from f2 i (by omega)), if_pos rfl, nI_1]
    exact ih (i + 1) N (by omega) (by omega)
theorem g_wayL {B : Nat → Int32} {t q k : Nat} {x f : Int32} {Q : zMem} (hF : zFst (fun j => yWm B q (38 + j)) 4 k) (h : zQs B t Q (yE B t q) q f) (hq : q ≤ t) : ∀ d i N, i + d = k → d < N → f_X10_motion_L217 N x (nI i) Q = f_X10_motion_B240 x (nI k) Q := by
  obtain ⟨f1, f2, f3⟩ := hF
  intro d
  induction d with
  | zero =>
    intro i N hi hN
    obtain ⟨N, rfl⟩ : ∃ N', N = N' + 1 := ⟨N - 1, by omega⟩
    have e : i = k := by omega
    subst e
    rw [f_X10_motion_L217]
    by_cases x : i < 4
    · rw [if_neg (show ¬ (4 : Int32) ≤ nI i from nI_ge (b := 4) x (by omega)), g_wayW i Q x, zBd_some, g_is (zIx_n (by omega)) (by omega) h hq, zBd_some, zT_t (show yWm B q (38 + i) from f3 x), if_neg (by decide)]
    · rw [if_pos (show (4 : Int32) ≤ nI i from nI_le (a := 4) (by omega) (by omega))]
  | succ d ih =>
    intro i N hi hN
    obtain ⟨N, rfl⟩ : ∃ N', N = N' + 1 := ⟨N - 1, by omega⟩
    rw [f_X10_motion_L217, if_neg (show ¬ (4 : Int32) ≤ nI i from nI_ge (b := 4) (by omega) (by omega)), g_wayW i Q (by omega), zBd_some, g_is (zIx_n (by omega)) (by omega) h hq, zBd_some, zT_f (show ¬ yWm B q (38 + i) from f2 i (by omega)), if_pos rfl, nI_1]
    exact ih (i + 1) N (by omega) (by omega)
theorem g_clL {B : Nat → Int32} {t q k : Nat} {f : Int32} {Q : zMem} (hF : zFst (fun j => yWm B q (42 + j)) 4 k) (h : zQs B t Q (yE B t q) q f) (hq : q ≤ t) : ∀ d i N, i + d = k → d < N → f_X10_clause_L28 N (nI i) Q = f_X10_clause_B51 (nI k) Q := by
  obtain ⟨f1, f2, f3⟩ := hF
  intro d
  induction d with
  | zero =>
    intro i N hi hN
    obtain ⟨N, rfl⟩ : ∃ N', N = N' + 1 := ⟨N - 1, by omega⟩
    have e : i = k := by omega
    subst e
    rw [f_X10_clause_L28]
    by_cases x : i < 4
    · rw [if_neg (show ¬ (4 : Int32) ≤ nI i from nI_ge (b := 4) x (by omega)), g_clW i Q x, zBd_some, g_is (zIx_n (by omega)) (by omega) h hq, zBd_some, zT_t (show yWm B q (42 + i) from f3 x), if_neg (by decide)]
    · rw [if_pos (show (4 : Int32) ≤ nI i from nI_le (a := 4) (by omega) (by omega))]
  | succ d ih =>
    intro i N hi hN
    obtain ⟨N, rfl⟩ : ∃ N', N = N' + 1 := ⟨N - 1, by omega⟩
    rw [f_X10_clause_L28, if_neg (show ¬ (4 : Int32) ≤ nI i from nI_ge (b := 4) (by omega) (by omega)), g_clW i Q (by omega), zBd_some, g_is (zIx_n (by omega)) (by omega) h hq, zBd_some, zT_f (show ¬ yWm B q (42 + i) from f2 i (by omega)), if_pos rfl, nI_1]
    exact ih (i + 1) N (by omega) (by omega)
