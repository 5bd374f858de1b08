/-! ===== the rules read: runs of bytes, words ===== -/
theorem y_10 : ¬ (1 : Int32) = 0 := by decide
theorem y_00 : (0 : Int32) = 0 := rfl
theorem y_le : (0 : Int32) ≤ 0 := by decide
def yLt (b : Int32) : Bool := if b < 97 then false else if 122 < b then false else true
def yDg (b : Int32) : Bool := if b < 48 then false else if 57 < b then false else true
def yBl (b : Int32) : Bool := if b = 32 then true else false
def zRn (d : Int32 → Bool) (B : Nat → Int32) : Nat → Nat → Nat
  | 0, p => p
  | k + 1, p => if d (B p) = true then zRn d B k (p + 1) else p
theorem zRn_le (d : Int32 → Bool) (B : Nat → Int32) : ∀ k p, p ≤ zRn d B k p ∧ zRn d B k p ≤ p + k
  | 0, p => ⟨Nat.le_refl _, Nat.le_refl _⟩
  | k + 1, p => by
    have h := zRn_le d B k (p + 1)
    rw [zRn]
    by_cases q : d (B p) = true
    · rw [if_pos q]; omega
    · rw [if_neg q]; omega
theorem zRn_in (d : Int32 → Bool) (B : Nat → Int32) : ∀ k p j, p ≤ j → j < zRn d B k p → d (B j) = true
  | 0, p, j, h1, h2 => by rw [zRn] at h2; omega
  | k + 1, p, j, h1, h2 => by
    rw [zRn] at h2
    by_cases q : d (B p) = true
    · rw [if_pos q] at h2
      by_cases e : j = p
      · rw [e]; exact q
      · exact zRn_in d B k (p + 1) j (by omega) h2
    · rw [if_neg q] at h2; omega
theorem zRn_st (d : Int32 → Bool) (B : Nat → Int32) : ∀ k p, zRn d B k p < p + k → ¬ d (B (zRn d B k p)) = true
  | 0, p, h => by rw [zRn] at h; omega
  | k + 1, p, h => by
    rw [zRn] at h ⊢
    by_cases q : d (B p) = true
    · rw [if_pos q] at h ⊢
      exact zRn_st d B k (p + 1) (by omega)
    · rw [if_neg q]; exact q
theorem zRn_of (d : Int32 → Bool) (B : Nat → Int32) {k p e : Nat} (h1 : p ≤ e) (h2 : e ≤ p + k) (h3 : ∀ j, p ≤ j → j < e → d (B j) = true) (h4 : e = p + k ∨ ¬ d (B e) = true) : zRn d B k p = e := by
  have a := zRn_le d B k p
  by_cases q : zRn d B k p < e
  · exact absurd (h3 _ a.1 q) (zRn_st d B k p (by omega))
  by_cases q2 : e < zRn d B k p
  · have x := zRn_in d B k p e h1 q2
    rcases h4 with h4 | h4
    · omega
    · exact absurd x h4
  omega
/-- behind blanks, behind letters, behind digits -/
def yS (B : Nat → Int32) (t p : Nat) : Nat := zRn yBl B (t - p) p
def yE (B : Nat → Int32) (t p : Nat) : Nat := zRn yLt B (t - p) p
def yG (B : Nat → Int32) (t p : Nat) : Nat := zRn yDg B (t - p) p
theorem yS_le {B : Nat → Int32} {t p : Nat} (h : p ≤ t) : p ≤ yS B t p ∧ yS B t p ≤ t := by
  have := zRn_le yBl B (t - p) p
  unfold yS
  omega
theorem yE_le {B : Nat → Int32} {t p : Nat} (h : p ≤ t) : p ≤ yE B t p ∧ yE B t p ≤ t := by
  have := zRn_le yLt B (t - p) p
  unfold yE
  omega
theorem yG_le {B : Nat → Int32} {t p : Nat} (h : p ≤ t) : p ≤ yG B t p ∧ yG B t p ≤ t := by
  have := zRn_le yDg B (t - p) p
  unfold yG
  omega
theorem yS_id {B : Nat → Int32} {t p : Nat} (h : p ≤ t) : yS B t (yS B t p) = yS B t p := by
  have a := yS_le (B := B) h
  refine zRn_of yBl B (Nat.le_refl _) (by omega) (fun j h1 h2 => by omega) ?_
  by_cases q : yS B t p = t
  · left; omega
  · right
    exact zRn_st yBl B (t - p) p (by unfold yS at q a; omega)
def yWm (B : Nat → Int32) (q w : Nat) : Prop := (∀ k, k < zSlenN w → B (q + k) = zScha w (nI k)) ∧ ¬ yLt (B (q + zSlenN w)) = true
theorem zw_ok : ∀ w, w < 50 → 0 < zSlenN w ∧ zSlenN w < 8 ∧ ∀ k, k < zSlenN w → yLt (zScha w (nI k)) = true := by decide +kernel
theorem yLt_1 : ¬ yLt (-1) = true := by decide +kernel
theorem yDg_1 : ¬ yDg (-1) = true := by decide +kernel
theorem yWm_E {B : Nat → Int32} {t q w : Nat} (hB : ∀ i, t ≤ i → B i = -1) (hw : w < 50) (hq : q ≤ t) (h : yWm B q w) : yE B t q = q + zSlenN w ∧ q + zSlenN w ≤ t := by
  obtain ⟨w1, w2, w3⟩ := zw_ok w hw
  have hl : ∀ k, k < zSlenN w → yLt (B (q + k)) = true := fun k hk => by rw [h.1 k hk]; exact w3 k hk
  have hle : q + zSlenN w ≤ t := by
    by_cases x : q + (zSlenN w - 1) < t
    · omega
    · have y := hl (zSlenN w - 1) (by omega)
      rw [hB _ (by omega)] at y
      exact absurd y yLt_1
  refine ⟨zRn_of yLt B (by omega) (by omega) (fun j h1 h2 => ?_) (Or.inr h.2), hle⟩
  have := hl (j - q) (by omega)
  rwa [show q + (j - q) = j by omega] at this
theorem yWm_i {B : Nat → Int32} {t q w : Nat} (hB : ∀ i, t ≤ i → B i = -1) (hw : w < 50) (hq : q ≤ t) : yWm B q w ↔ (yE B t q = q + zSlenN w ∧ ∀ k, k < zSlenN w → B (q + k) = zScha w (nI k)) := by
  constructor
  · intro h
    exact ⟨(yWm_E hB hw hq h).1, h.1⟩
  · rintro ⟨h1, h2⟩
    refine ⟨h2, ?_⟩
    have a := yE_le (B := B) hq
    rw [← h1]
    by_cases x : yE B t q = t
    · rw [x, hB t (Nat.le_refl _)]
      exact yLt_1
    · exact zRn_st yLt B (t - q) q (by unfold yE at x a; omega)
theorem yWm_no {B : Nat → Int32} {t q w : Nat} (hB : ∀ i, t ≤ i → B i = -1) (hw : w < 50) (hq : q ≤ t) (h : yE B t q = q) : ¬ yWm B q w := fun x => by
  have := (yWm_E hB hw hq x).1
  have := (zw_ok w hw).1
  omega
theorem yWm_eq {B : Nat → Int32} {q : Nat} (a b : Nat) (h1 : zSb.getD a [] = zSb.getD b []) (h2 : zSl.getD a 0 = zSl.getD b 0) : yWm B q a ↔ yWm B q b := by
  unfold yWm zSlenN zScha
  rw [h1, h2]
/-- the program's reader -/
def zTp (B : Nat → Int32) (t : Nat) (P : zMem) : Prop := P 1 1 = nI t ∧ t ≤ 600 ∧ (∀ i, i < t → P 2 i &&& 255 = B i) ∧ (∀ i, t ≤ i → B i = -1)
def zPs (B : Nat → Int32) (t : Nat) (P : zMem) (p : Nat) (f : Int32) : Prop := zTp B t P ∧ P 13 2 = nI p ∧ p ≤ t ∧ P 13 3 = f
def zOp (P P' : zMem) : Prop := ∀ c i, (c ≠ 13 ∨ (i ≠ 2 ∧ i ≠ 3)) → P' c i = P c i
theorem zOp_r {P : zMem} : zOp P P := fun _ _ _ => rfl
theorem zOp_t {P P1 P2 : zMem} (h1 : zOp P P1) (h2 : zOp P1 P2) : zOp P P2 := fun c i h => (h2 c i h).trans (h1 c i h)
theorem zOp_u {P : zMem} {i : Nat} {v : Int32} (h : i = 2 ∨ i = 3) : zOp P (zUp P 13 i v) := fun c j hc => if_neg (by omega)
theorem zTp_c {B : Nat → Int32} {t : Nat} {P P' : zMem} (h : zTp B t P) (hc : ∀ c i, c = 1 ∨ c = 2 → P' c i = P c i) : zTp B t P' := ⟨by rw [hc 1 1 (by omega)]; exact h.1, h.2.1, fun i hi => by rw [hc 2 i (by omega)]; exact h.2.2.1 i hi, h.2.2.2⟩
theorem zPs_at {B : Nat → Int32} {t p p' : Nat} {P : zMem} {f : Int32} (h : zPs B t P p f) (hp : p' ≤ t) : zPs B t (zUp P 13 2 (nI p')) p' f := ⟨zTp_c h.1 (fun c i hc => zUp_c (by omega)), zUp_s, hp, by rw [zUp_x (by omega)]; exact h.2.2.2⟩
theorem zPs_f {B : Nat → Int32} {t p : Nat} {P : zMem} {f g : Int32} (h : zPs B t P p f) : zPs B t (zUp P 13 3 g) p g := ⟨zTp_c h.1 (fun c i hc => zUp_c (by omega)), by rw [zUp_x (by omega)]; exact h.2.1, h.2.2.1, zUp_s⟩
theorem zPs_u {B : Nat → Int32} {t p c i : Nat} {P : zMem} {f v : Int32} (h : zPs B t P p f) (h1 : 3 ≤ c) (h2 : c < 13) : zPs B t (zUp P c i v) p f := ⟨zTp_c h.1 (fun b j hb => zUp_c (by omega)), by rw [zUp_c (by omega)]; exact h.2.1, h.2.2.1, by rw [zUp_c (by omega)]; exact h.2.2.2⟩
theorem c_byB {B : Nat → Int32} {t p : Nat} {P : zMem} (h : zTp B t P) (hp : p < 2 ^ 31) : f_X8_byteAt (nI p) P = some (B p, P) := by
  rw [c_byte h.1 h.2.1 hp]
  by_cases q : p < t
  · rw [if_pos q, h.2.2.1 p q]
  · rw [if_neg q, h.2.2.2 p (by omega)]
theorem k_skipL {B : Nat → Int32} {t : Nat} {f : Int32} : ∀ k p N P, p + k = t → k < N → zPs B t P p f → ∃ P', f_X5_skipBlanks_L0 N P = some (0, P') ∧ zPs B t P' (zRn yBl B k p) f ∧ zOp P P' := by
  intro k
  induction k with
  | zero =>
    intro p N P hp hN h
    obtain ⟨N, rfl⟩ : ∃ N', N = N' + 1 := ⟨N - 1, by omega⟩
    have ht := h.1.2.1
    refine ⟨P, ?_, h, zOp_r⟩
    rw [f_X5_skipBlanks_L0, h.1.1, h.2.1, if_pos (nI_le (by omega) (by omega))]
  | succ k ih =>
    intro p N P hp hN h
    obtain ⟨N, rfl⟩ : ∃ N', N = N' + 1 := ⟨N - 1, by omega⟩
    have ht := h.1.2.1
    rw [f_X5_skipBlanks_L0, h.1.1, h.2.1, if_neg (nI_ge (by omega) (by omega)), c_byB h.1 (by omega), zBd_some, zRn]
    by_cases q : B p = 32
    · obtain ⟨P', e, a1, a2⟩ := ih (p + 1) N (zUp P 13 2 (nI (p + 1))) (by omega) (by omega) (zPs_at h (by omega))
      have q2 : yBl (B p) = true := if_pos q
      rw [if_pos q, if_pos q2, zLt_eq, h.2.1, nI_1]
      exact ⟨P', e, a1, zOp_t (zOp_u (Or.inl rfl)) a2⟩
    · have q2 : ¬ yBl (B p) = true := by unfold yBl; rw [if_neg q]; decide
      rw [if_neg q, if_neg q2]
      exact ⟨P, rfl, h, zOp_r⟩
theorem k_skip {B : Nat → Int32} {t p : Nat} {P : zMem} {f : Int32} (h : zPs B t P p f) : ∃ P', f_X5_skipBlanks P = some (0, P') ∧ zPs B t P' (yS B t p) f ∧ zOp P P' := by
  have ht := h.1.2.1
  have hp := h.2.2.1
  exact k_skipL (t - p) p zFu P (by omega) (by unfold zFu; omega) h
theorem k_let (u : Int32) (M : zMem) : f_X5_isSmallLetter u M = some (zT (yLt u = true), M) := by
  unfold f_X5_isSmallLetter yLt
  by_cases h1 : u < 97
  · rw [if_pos h1, if_pos h1, zT_f (by decide)]
  · rw [if_neg h1, if_neg h1]
    by_cases h2 : 122 < u
    · rw [if_pos h2, if_pos h2, zT_f (by decide)]
    · rw [if_neg h2, if_neg h2, zT_t rfl]
theorem k_dig (u : Int32) (M : zMem) : f_X5_isDigit u M = some (zT (yDg u = true), M) := by
  unfold f_X5_isDigit yDg
  by_cases h1 : u < 48
  · rw [if_pos h1, if_pos h1, zT_f (by decide)]
  · rw [if_neg h1, if_neg h1]
    by_cases h2 : 57 < u
    · rw [if_pos h2, if_pos h2, zT_f (by decide)]
    · rw [if_neg h2, if_neg h2, zT_t rfl]
theorem k_tookL {B : Nat → Int32} {t p w : Nat} {u f : Int32} (hu : zIx u = w) (hw : w < 50) : ∀ k i N P, i + k = zSlenN w → k < N → zPs B t P p f → (∀ j, j < i → B (p + j) = zScha w (nI j)) → ∃ P' p', f_X5_tookWord_L11 u N (zSlen (zIx u)) (nI i) P = some (zT (yWm B p w), P') ∧ zPs B t P' p' f ∧ zOp P P' ∧ (yWm B p w → p' = p + zSlenN w) ∧ (¬ yWm B p w → p' = p) := by
  have hl := (zw_ok w hw).2.1
  have hs : zSlen (zIx u) = nI (zSlenN w) := by rw [hu]; rfl
  intro k
  induction k with
  | zero =>
    intro i N P hi hN h hj
    obtain ⟨N, rfl⟩ : ∃ N', N = N' + 1 := ⟨N - 1, by omega⟩
    have ht := h.1.2.1
    have hp := h.2.2.1
    have ei : i = zSlenN w := by omega
    subst ei
    rw [f_X5_tookWord_L11, hs, if_pos (nI_le (Nat.le_refl _) (by omega)), f_X5_tookWord_B45, h.2.1, nI_add, c_byB h.1 (by omega), zBd_some, k_let, zBd_some]
    by_cases q : yLt (B (p + zSlenN w)) = true
    · have nq : ¬ yWm B p w := fun x => x.2 q
      rw [zT_t q, if_neg (by decide), zT_f nq]
      exact ⟨P, p, rfl, h, zOp_r, fun x => absurd x nq, fun _ => rfl⟩
    · have nq : yWm B p w := ⟨hj, q⟩
      rw [zT_f q, if_pos rfl, zT_t nq, zLt_eq, h.2.1, nI_add]
      exact ⟨_, _, rfl, zPs_at h (yWm_E h.1.2.2.2 hw hp nq).2, zOp_u (Or.inl rfl), fun _ => rfl, fun x => absurd nq x⟩
  | succ k ih =>
    intro i N P hi hN h hj
    obtain ⟨N, rfl⟩ : ∃ N', N = N' + 1 := ⟨N - 1, by omega⟩
    have ht := h.1.2.1
    have hp := h.2.2.1
    rw [f_X5_tookWord_L11, hs, if_neg (nI_ge (by omega) (by omega)), h.2.1, nI_add, c_byB h.1 (by omega), zBd_some, hu, zCk_t (zIn_n (by omega) (by omega))]
    by_cases q : B (p + i) = zScha w (nI i)
    · rw [if_pos q, nI_1]
      have := ih (i + 1) N P (by omega) (by omega) h (fun j hj2 => by
        by_cases e : j = i
        · rw [e]; exact q
        · exact hj j (by omega))
      rwa [hs] at this
    · have nq : ¬ yWm B p w := fun x => q (x.1 i (by omega))
      rw [if_neg q, zT_f nq]
      exact ⟨P, p, rfl, h, zOp_r, fun x => absurd x nq, fun _ => rfl⟩
theorem k_took {B : Nat → Int32} {t p w : Nat} {u f : Int32} {P : zMem} (hu : zIx u = w) (hw : w < 50) (h : zPs B t P p f) : ∃ P' p', f_X5_tookWord u P = some (zT (yWm B (yS B t p) w), P') ∧ zPs B t P' p' f ∧ zOp P P' ∧ (yWm B (yS B t p) w → p' = yS B t p + zSlenN w) ∧ (¬ yWm B (yS B t p) w → p' = yS B t p) := by
  obtain ⟨P1, e1, a1, a2⟩ := k_skip h
  have hl := (zw_ok w hw).2.1
  obtain ⟨P', p', e2, b1, b2, b3⟩ := k_tookL (p := yS B t p) hu hw (zSlenN w) 0 zFu P1 (by omega) (by unfold zFu; omega) a1 (fun j hj => by omega)
  refine ⟨P', p', ?_, b1, zOp_t a2 b2, b3⟩
  rw [f_X5_tookWord, e1, zBd_some]
  exact e2
theorem k_fail0 {B : Nat → Int32} {t p : Nat} {P : zMem} {u v : Int32} (h : zPs B t P p 0) : f_X5_fail u v P = some (0, zUp P 13 3 (u + 4 * v)) := by
  rw [f_X5_fail, h.2.2.2, if_pos rfl, zLt_eq]
theorem k_failn {B : Nat → Int32} {t p : Nat} {P : zMem} {u v f : Int32} (h : zPs B t P p f) (hf : f ≠ 0) : f_X5_fail u v P = some (0, P) := by
  rw [f_X5_fail, h.2.2.2, if_neg hf]
theorem k_fail {B : Nat → Int32} {t p : Nat} {P : zMem} (u v f : Int32) (h : zPs B t P p f) : ∃ P' f', f_X5_fail u v P = some (0, P') ∧ zPs B t P' p f' ∧ zOp P P' ∧ (f ≠ 0 → f' = f) ∧ (f = 0 → f' = u + 4 * v) := by
  by_cases q : f = 0
  · subst q
    exact ⟨_, _, k_fail0 h, zPs_f h, zOp_u (Or.inr rfl), fun x => absurd rfl x, fun _ => rfl⟩
  · exact ⟨_, _, k_failn h q, h, zOp_r, fun _ => rfl, fun x => absurd x q⟩
theorem k_expect {B : Nat → Int32} {t p w : Nat} {u f : Int32} {P : zMem} (hu : zIx u = w) (hw : w < 50) (h : zPs B t P p f) : ∃ P' p' f', f_X5_expectWord u P = some (0, P') ∧ zPs B t P' p' f' ∧ zOp P P' ∧ (f ≠ 0 → f' = f) ∧ (yWm B (yS B t p) w → p' = yS B t p + zSlenN w ∧ f' = f) ∧ (¬ yWm B (yS B t p) w → f = 0 → f' = 1 + 4 * nI (yS B t p)) := by
  obtain ⟨P1, p1, e1, a1, a2, a3, a4⟩ := k_took hu hw h
  rw [f_X5_expectWord, e1, zBd_some]
  by_cases q : yWm B (yS B t p) w
  · rw [zT_t q, if_neg (by decide)]
    exact ⟨P1, p1, f, rfl, a1, a2, fun _ => rfl, fun _ => ⟨a3 q, rfl⟩, fun x => absurd q x⟩
  · obtain ⟨P2, f2, e2, b1, b2, b3, b4⟩ := k_fail 1 (P1 13 2) f a1
    rw [zT_f q, if_pos rfl, e2, zBd_some]
    refine ⟨P2, p1, f2, rfl, b1, zOp_t a2 b2, b3, fun x => absurd x q, fun _ x => ?_⟩
    rw [b4 x, a1.2.1, a4 q]
