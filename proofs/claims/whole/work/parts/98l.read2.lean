/-! ===== numbers, kinds and ways of the program ===== -/
def zNv (B : Nat → Int32) (q : Nat) : Nat → Int32
  | 0 => 0
  | n + 1 => ((zNv B q n * 10) + B (q + n)) - 48
theorem nI_sb (a b : Nat) : nI (a + b) - nI a = nI b := by
  rw [← nI_add, Int32.add_comm, Int32.add_sub_cancel]
/-- what is wrong with a number at q -/
def zNf (B : Nat → Int32) (t q : Nat) (u1 u2 : Int32) : Int32 := if yG B t q = q then 1 + 4 * nI q else if yG B t q - q ≤ 4 ∧ u1.toInt ≤ (zNv B q (yG B t q - q)).toInt ∧ (zNv B q (yG B t q - q)).toInt ≤ u2.toInt then 0 else 2 + 4 * nI q
theorem k_numL {B : Nat → Int32} {t q : Nat} {u1 u2 f : Int32} : ∀ k i N P, (q + i) + k = t → k < N → zPs B t P (q + i) f → ∃ P' i', f_X5_readNumber_L12 u1 u2 N (nI q) (zNv B q (min i 4)) P = f_X5_readNumber_B88 u1 u2 (nI q) (zNv B q (min i' 4)) P' ∧ q + i' = zRn yDg B k (q + i) ∧ zPs B t P' (q + i') f ∧ zOp P P' := by
  intro k
  induction k with
  | zero =>
    intro i N P hp hN h
    obtain ⟨N, rfl⟩ : ∃ N', N = N' + 1 := ⟨N - 1, by omega⟩
    have ht := h.1.2.1
    refine ⟨P, i, ?_, rfl, h, zOp_r⟩
    rw [f_X5_readNumber_L12, h.1.1, h.2.1, if_pos (nI_le (by omega) (by omega))]
  | succ k ih =>
    intro i N P hp hN h
    obtain ⟨N, rfl⟩ : ∃ N', N = N' + 1 := ⟨N - 1, by omega⟩
    have ht := h.1.2.1
    rw [f_X5_readNumber_L12, h.1.1, h.2.1, if_neg (nI_ge (by omega) (by omega)), c_byB h.1 (by omega), zBd_some, k_dig, zBd_some, zRn]
    by_cases d : yDg (B (q + i)) = true
    · obtain ⟨P', i', e, a1, a2, a3⟩ := ih (i + 1) N (zUp P 13 2 (nI (q + i + 1))) (by omega) (by omega) (zPs_at h (by omega))
      rw [zT_t d, if_neg (by decide), if_pos d, h.2.1, nI_sb]
      refine ⟨P', i', ?_, a1, a2, zOp_t (zOp_u (Or.inl rfl)) a3⟩
      by_cases x : 4 ≤ i
      · rw [if_pos (show (4 : Int32) ≤ nI i from nI_le (a := 4) x (by omega)), f_X5_readNumber_B75, zLt_eq, h.2.1, nI_1]
        rw [show min (i + 1) 4 = min i 4 by omega] at e
        exact e
      · rw [if_neg (show ¬ (4 : Int32) ≤ nI i from nI_ge (b := 4) (by omega) (by omega)), c_byB h.1 (by omega), zBd_some, f_X5_readNumber_B75, zLt_eq, h.2.1, nI_1]
        rw [show min (i + 1) 4 = i + 1 by omega, zNv] at e
        rw [show min i 4 = i by omega]
        exact e
    · rw [zT_f d, if_pos rfl, if_neg d]
      exact ⟨P, i, rfl, rfl, h, zOp_r⟩
theorem k_num {B : Nat → Int32} {t p : Nat} {P : zMem} (u1 u2 f : Int32) (h : zPs B t P p f) : ∃ P' r p' f', f_X5_readNumber u1 u2 P = some (r, P') ∧ zPs B t P' p' f' ∧ zOp P P' ∧ (f ≠ 0 → f' = f) ∧ (f = 0 → f' = zNf B t (yS B t p) u1 u2 ∧ (f' = 0 → r = zNv B (yS B t p) (yG B t (yS B t p) - yS B t p) ∧ p' = yG B t (yS B t p))) := by
  obtain ⟨P1, e1, a1, a2⟩ := k_skip h
  have ht := h.1.2.1
  have hp := yS_le (B := B) h.2.2.1
  generalize hq : yS B t p = q at a1 hp ⊢
  obtain ⟨P2, i, e2, b1, b2, b3⟩ := k_numL (q := q) (u1 := u1) (u2 := u2) (f := f) (t - q) 0 zFu P1 (by omega) (by unfold zFu; omega) a1
  have hg : yG B t q = q + i := b1.symm
  have hi : q + i ≤ t := b2.2.2.1
  rw [f_X5_readNumber, e1, zBd_some, a1.2.1]
  rw [show zNv B q (min 0 4) = 0 from rfl] at e2
  rw [e2, f_X5_readNumber_B88, b2.2.1]
  have hO := zOp_t a2 b3
  have ef : zNf B t q u1 u2 = if i = 0 then 1 + 4 * nI q else if i ≤ 4 ∧ u1.toInt ≤ (zNv B q i).toInt ∧ (zNv B q i).toInt ≤ u2.toInt then 0 else 2 + 4 * nI q := by
    unfold zNf
    rw [hg, show q + i - q = i by omega]
    by_cases x : i = 0
    · rw [if_pos (by omega), if_pos x]
    · rw [if_neg (by omega), if_neg x]
  by_cases x : i = 0
  · rw [if_pos (by rw [x, Nat.add_zero])]
    obtain ⟨P3, f3, e3, c1, c2, c3, c4⟩ := k_fail 1 (nI q) f b2
    rw [e3, zBd_some]
    refine ⟨P3, _, _, f3, rfl, c1, zOp_t hO c2, c3, fun y => ⟨by rw [c4 y, ef, if_pos x], fun z => ?_⟩⟩
    rw [hg, show q + i - q = i by omega]
    exact ⟨by rw [Nat.min_eq_left (by omega)], rfl⟩
  rw [if_neg (by rw [nI_eq (by omega) (by omega)]; omega), nI_sb]
  have hbad : ∀ v, (¬ (i ≤ 4 ∧ u1.toInt ≤ (zNv B q i).toInt ∧ (zNv B q i).toInt ≤ u2.toInt)) → ∃ P' r p' f', f_X5_readNumber_B127 u1 u2 (nI q) v P2 = some (r, P') ∧ zPs B t P' p' f' ∧ zOp P P' ∧ (f ≠ 0 → f' = f) ∧ (f = 0 → f' = zNf B t q u1 u2 ∧ (f' = 0 → r = zNv B q (yG B t q - q) ∧ p' = yG B t q)) := by
    intro v hv
    obtain ⟨P3, f3, e3, c1, c2, c3, c4⟩ := k_fail 2 (nI q) f b2
    rw [f_X5_readNumber_B127, e3, zBd_some]
    refine ⟨P3, _, _, f3, rfl, c1, zOp_t hO c2, c3, fun y => ⟨by rw [c4 y, ef, if_neg x, if_neg hv], fun z => ?_⟩⟩
    rw [c4 y, zl_2, zl_4, nI_mul, nI_add] at z
    exact absurd z (nI_ne0 (by omega) (by omega))
  by_cases x4 : 4 < i
  · rw [if_pos (show (4 : Int32) < nI i from nI_lt (a := 4) x4 (by omega))]
    exact hbad _ (by omega)
  rw [if_neg (show ¬ (4 : Int32) < nI i from nI_nlt (b := i) (a := 4) (by omega) (by omega)), show min i 4 = i by omega]
  by_cases y1 : zNv B q i < u1
  · rw [if_pos y1]
    have := Int32.lt_iff_toInt_lt.mp y1
    exact hbad _ (by omega)
  have y1' := mt Int32.lt_iff_toInt_lt.mpr y1
  rw [if_neg y1]
  by_cases y2 : zNv B q i ≤ u2
  · have y2' := Int32.le_iff_toInt_le.mp y2
    rw [if_pos y2]
    refine ⟨P2, _, _, f, rfl, b2, hO, fun _ => rfl, fun y => ⟨by rw [ef, if_neg x, if_pos ⟨by omega, by omega, y2'⟩, y], fun _ => ?_⟩⟩
    rw [hg, show q + i - q = i by omega]
    exact ⟨rfl, rfl⟩
  · have y2' := mt Int32.le_iff_toInt_le.mpr y2
    rw [if_neg y2]
    exact hbad _ (by omega)
theorem k_kindW (i : Nat) (M : zMem) (h : i < 8) : f_X5_kindWord (nI i) M = some (nI (1 + i), M) := by
  unfold f_X5_kindWord
  rcases (by omega : i = 0 ∨ i = 1 ∨ i = 2 ∨ i = 3 ∨ i = 4 ∨ i = 5 ∨ i = 6 ∨ i = 7) with e | e | e | e | e | e | e | e <;> (subst e; rfl)
theorem k_wayW (i : Nat) (M : zMem) (h : i < 4) : f_X5_wayWord (nI i) M = some (nI (13 + i), M) := by
  unfold f_X5_wayWord
  rcases (by omega : i = 0 ∨ i = 1 ∨ i = 2 ∨ i = 3) with e | e | e | e <;> (subst e; rfl)
/-- the first of n that holds, or n -/
def zFst (A : Nat → Prop) (n k : Nat) : Prop := k ≤ n ∧ (∀ j, j < k → ¬ A j) ∧ (k < n → A k)
theorem zFst_ex (A : Nat → Prop) : ∀ n, ∃ k, zFst A n k
  | 0 => ⟨0, Nat.le_refl _, fun j hj => by omega, fun h => by omega⟩
  | n + 1 => by
    obtain ⟨k, h1, h2, h3⟩ := zFst_ex A n
    by_cases q : k < n
    · exact ⟨k, by omega, h2, fun _ => h3 q⟩
    · have e : k = n := by omega
      subst e
      by_cases a : A k
      · exact ⟨k, by omega, h2, fun _ => a⟩
      · refine ⟨k + 1, Nat.le_refl _, fun j hj => ?_, fun h => by omega⟩
        by_cases e : j = k
        · rw [e]; exact a
        · exact h2 j (by omega)
theorem k_kindL {B : Nat → Int32} {t q k : Nat} {f : Int32} (hq : yS B t q = q) (hF : zFst (fun j => yWm B q (1 + j)) 8 k) : ∀ d i N P, i + d = k → d < N → zPs B t P q f → ∃ P' p', f_X5_readKind_L2 N (nI i) P = some (if k < 8 then nI k else -1, P') ∧ zPs B t P' p' f ∧ zOp P P' ∧ (k < 8 → p' = q + zSlenN (1 + k)) ∧ (k = 8 → p' = q) := by
  obtain ⟨f1, f2, f3⟩ := hF
  intro d
  induction d with
  | zero =>
    intro i N P hi hN h
    obtain ⟨N, rfl⟩ : ∃ N', N = N' + 1 := ⟨N - 1, by omega⟩
    have e : i = k := by omega
    subst e
    rw [f_X5_readKind_L2]
    by_cases x : i < 8
    · obtain ⟨P1, p1, e1, a1, a2, a3, a4⟩ := k_took (u := nI (1 + i)) (zIx_n (by omega)) (by omega) h
      rw [hq] at e1 a3
      have mm : yWm B q (1 + i) := f3 x
      rw [if_neg (show ¬ (8 : Int32) ≤ nI i from nI_ge (b := 8) x (by omega)), k_kindW i P x, zBd_some, e1, zBd_some, zT_t mm, if_neg (by decide), if_pos x]
      exact ⟨P1, p1, rfl, a1, a2, fun _ => a3 mm, fun y => by omega⟩
    · rw [if_pos (show (8 : Int32) ≤ nI i from nI_le (a := 8) (by omega) (by omega)), if_neg x]
      exact ⟨P, q, rfl, h, zOp_r, fun y => absurd y x, fun _ => rfl⟩
  | succ d ih =>
    intro i N P hi hN h
    obtain ⟨N, rfl⟩ : ∃ N', N = N' + 1 := ⟨N - 1, by omega⟩
    obtain ⟨P1, p1, e1, a1, a2, a3, a4⟩ := k_took (u := nI (1 + i)) (zIx_n (by omega)) (by omega) h
    rw [hq] at e1 a4
    have n : ¬ yWm B q (1 + i) := f2 i (by omega)
    rw [a4 n] at a1
    obtain ⟨P2, p2, e2, b1, b2, b3⟩ := ih (i + 1) N P1 (by omega) (by omega) a1
    rw [f_X5_readKind_L2, if_neg (show ¬ (8 : Int32) ≤ nI i from nI_ge (b := 8) (by omega) (by omega)), k_kindW i P (by omega), zBd_some, e1, zBd_some, zT_f n, if_pos rfl, nI_1]
    exact ⟨P2, p2, e2, b1, zOp_t a2 b2, b3⟩
theorem k_wayL {B : Nat → Int32} {t q k : Nat} {f : Int32} (hq : yS B t q = q) (hF : zFst (fun j => yWm B q (13 + j)) 4 k) : ∀ d i N P p, i + d = k → d < N → zPs B t P p f → yS B t p = q → (i = 4 → p = q) → ∃ P' p' f', f_X5_readWay_L2 N (nI i) P = some (if k < 4 then nI k else -1, P') ∧ zPs B t P' p' f' ∧ zOp P P' ∧ (f ≠ 0 → f' = f) ∧ (k < 4 → p' = q + zSlenN (13 + k) ∧ f' = f) ∧ (k = 4 → f = 0 → f' = 1 + 4 * nI q) := by
  obtain ⟨f1, f2, f3⟩ := hF
  intro d
  induction d with
  | zero =>
    intro i N P p hi hN h hp h4
    obtain ⟨N, rfl⟩ : ∃ N', N = N' + 1 := ⟨N - 1, by omega⟩
    have e : i = k := by omega
    subst e
    rw [f_X5_readWay_L2]
    by_cases x : i < 4
    · obtain ⟨P1, p1, e1, a1, a2, a3, a4⟩ := k_took (u := nI (13 + i)) (zIx_n (by omega)) (by omega) h
      rw [hp] at e1 a3
      have mm : yWm B q (13 + i) := f3 x
      rw [if_neg (show ¬ (4 : Int32) ≤ nI i from nI_ge (b := 4) x (by omega)), k_wayW i P x, zBd_some, e1, zBd_some, zT_t mm, if_neg (by decide), if_pos x]
      exact ⟨P1, p1, f, rfl, a1, a2, fun _ => rfl, fun _ => ⟨a3 mm, rfl⟩, fun y => by omega⟩
    · obtain ⟨P2, g2, e2, b1, b2, b3, b4⟩ := k_fail 1 (P 13 2) f h
      rw [if_pos (show (4 : Int32) ≤ nI i from nI_le (a := 4) (by omega) (by omega)), if_neg x, f_X5_readWay_B26, e2, zBd_some]
      refine ⟨P2, p, g2, rfl, b1, b2, b3, fun y => absurd y x, fun _ y => ?_⟩
      rw [b4 y, h.2.1, h4 (by omega)]
  | succ d ih =>
    intro i N P p hi hN h hp h4
    obtain ⟨N, rfl⟩ : ∃ N', N = N' + 1 := ⟨N - 1, by omega⟩
    obtain ⟨P1, p1, e1, a1, a2, a3, a4⟩ := k_took (u := nI (13 + i)) (zIx_n (by omega)) (by omega) h
    rw [hp] at e1 a4
    have n : ¬ yWm B q (13 + i) := f2 i (by omega)
    have e3 := a4 n
    subst e3
    obtain ⟨P2, p2, g2, e2, b1, b2, b3⟩ := ih (i + 1) N P1 p1 (by omega) (by omega) a1 hq (fun _ => rfl)
    rw [f_X5_readWay_L2, if_neg (show ¬ (4 : Int32) ≤ nI i from nI_ge (b := 4) (by omega) (by omega)), k_wayW i P (by omega), zBd_some, e1, zBd_some, zT_f n, if_pos rfl, nI_1]
    exact ⟨P2, p2, g2, e2, b1, zOp_t a2 b2, b3⟩
theorem k_way {B : Nat → Int32} {t p k : Nat} {f : Int32} {P : zMem} (hF : zFst (fun j => yWm B (yS B t p) (13 + j)) 4 k) (h : zPs B t P p f) : ∃ P' p' f', f_X5_readWay P = some (if k < 4 then nI k else -1, P') ∧ zPs B t P' p' f' ∧ zOp P P' ∧ (f ≠ 0 → f' = f) ∧ (k < 4 → p' = yS B t p + zSlenN (13 + k) ∧ f' = f) ∧ (k = 4 → f = 0 → f' = 1 + 4 * nI (yS B t p)) :=
  k_wayL (yS_id h.2.2.1) hF k 0 zFu P p (by omega) (by have := hF.1; unfold zFu; omega) h rfl (fun x => by omega)
theorem k_choice {B : Nat → Int32} {t p a b : Nat} {u v f : Int32} {P : zMem} (hu : zIx u = a) (ha : a < 50) (hv : zIx v = b) (hb : b < 50) (h : zPs B t P p f) : ∃ P' p' f', f_X5_readChoice u v P = some (zT (yWm B (yS B t p) a), P') ∧ zPs B t P' p' f' ∧ zOp P P' ∧ (f ≠ 0 → f' = f) ∧ (yWm B (yS B t p) a → p' = yS B t p + zSlenN a ∧ f' = f) ∧ (¬ yWm B (yS B t p) a → yWm B (yS B t p) b → p' = yS B t p + zSlenN b ∧ f' = f) ∧ (¬ yWm B (yS B t p) a → ¬ yWm B (yS B t p) b → f = 0 → f' = 1 + 4 * nI (yS B t p)) := by
  obtain ⟨P1, p1, e1, a1, a2, a3, a4⟩ := k_took hu ha h
  rw [f_X5_readChoice, e1, zBd_some]
  by_cases q : yWm B (yS B t p) a
  · rw [zT_t q, if_neg (by decide)]
    exact ⟨P1, p1, f, rfl, a1, a2, fun _ => rfl, fun _ => ⟨a3 q, rfl⟩, fun x => absurd q x, fun x => absurd q x⟩
  · obtain ⟨P2, p2, f2, e2, b1, b2, b3, b4, b5⟩ := k_expect hv hb a1
    rw [a4 q, yS_id h.2.2.1] at b4 b5
    rw [zT_f q, if_pos rfl, e2, zBd_some]
    exact ⟨P2, p2, f2, rfl, b1, zOp_t a2 b2, b3, fun x => absurd x q, fun _ x => b4 x, fun _ x y => b5 x y⟩
theorem k_semi {B : Nat → Int32} {t p : Nat} {f : Int32} {P : zMem} (h : zPs B t P p f) : ∃ P' p' f', f_X5_expectSemicolon P = some (0, P') ∧ zPs B t P' p' f' ∧ zOp P P' ∧ (f ≠ 0 → f' = f) ∧ (B (yS B t p) = 59 → p' = yS B t p + 1 ∧ f' = f) ∧ (¬ B (yS B t p) = 59 → f = 0 → f' = 1 + 4 * nI (yS B t p)) := by
  obtain ⟨P1, e1, a1, a2⟩ := k_skip h
  have ht := h.1.2.1
  have hq := yS_le (B := B) h.2.2.1
  rw [f_X5_expectSemicolon, e1, zBd_some, a1.2.1, c_byB a1.1 (by omega), zBd_some]
  by_cases q : B (yS B t p) = 59
  · rw [if_pos q, zLt_eq, a1.2.1, nI_1]
    have hlt : yS B t p < t := by
      by_cases x : yS B t p < t
      · exact x
      · rw [a1.1.2.2.2 _ (by omega)] at q
        exact absurd q (by decide)
    exact ⟨_, _, f, rfl, zPs_at a1 hlt, zOp_t a2 (zOp_u (Or.inl rfl)), fun _ => rfl, fun _ => ⟨rfl, rfl⟩, fun x => absurd q x⟩
  · obtain ⟨P2, f2, e2, b1, b2, b3, b4⟩ := k_fail 1 (P1 13 2) f a1
    rw [if_neg q, e2, zBd_some]
    refine ⟨P2, _, f2, rfl, b1, zOp_t a2 b2, b3, fun x => absurd x q, fun _ x => ?_⟩
    rw [b4 x, a1.2.1]
