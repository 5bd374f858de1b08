/-! ===== the reference's reader ===== -/
theorem c_and0 : ∀ k : Nat, k < 256 → (0 ≤ (Int32.ofInt ((k : Int) - 128)).toInt ∧ Int32.ofInt ((k : Int) - 128) &&& 255 = Int32.ofInt ((k : Int) - 128)) ∨ ((Int32.ofInt ((k : Int) - 128)).toInt < 0 ∧ 128 ≤ (Int32.ofInt ((k : Int) - 128) &&& 255).toInt) := by decide +kernel
theorem c_and {b : Int32} (h1 : -128 ≤ b.toInt) (h2 : b.toInt ≤ 127) : (0 ≤ b.toInt ∧ b &&& 255 = b) ∨ (b.toInt < 0 ∧ 128 ≤ (b &&& 255).toInt) := by
  have h := c_and0 (b.toInt + 128).toNat (by omega)
  rw [show (((b.toInt + 128).toNat : Nat) : Int) - 128 = b.toInt by omega, Int32.ofInt_toInt] at h
  exact h
theorem yLt_i {b : Int32} : yLt b = true ↔ 97 ≤ b.toInt ∧ b.toInt ≤ 122 := by
  have e1 : (97 : Int32).toInt = 97 := by decide +kernel
  have e2 : (122 : Int32).toInt = 122 := by decide +kernel
  unfold yLt
  by_cases h1 : b < 97
  · have := Int32.lt_iff_toInt_lt.mp h1
    rw [if_pos h1]
    exact ⟨fun x => absurd x (by decide), fun x => by omega⟩
  · have h1' := mt Int32.lt_iff_toInt_lt.mpr h1
    rw [if_neg h1]
    by_cases h2 : 122 < b
    · have := Int32.lt_iff_toInt_lt.mp h2
      rw [if_pos h2]
      exact ⟨fun x => absurd x (by decide), fun x => by omega⟩
    · have h2' := mt Int32.lt_iff_toInt_lt.mpr h2
      rw [if_neg h2]
      exact ⟨fun _ => by omega, fun _ => rfl⟩
theorem yDg_i {b : Int32} : yDg b = true ↔ 48 ≤ b.toInt ∧ b.toInt ≤ 57 := by
  have e1 : (48 : Int32).toInt = 48 := by decide +kernel
  have e2 : (57 : Int32).toInt = 57 := by decide +kernel
  unfold yDg
  by_cases h1 : b < 48
  · have := Int32.lt_iff_toInt_lt.mp h1
    rw [if_pos h1]
    exact ⟨fun x => absurd x (by decide), fun x => by omega⟩
  · have h1' := mt Int32.lt_iff_toInt_lt.mpr h1
    rw [if_neg h1]
    by_cases h2 : 57 < b
    · have := Int32.lt_iff_toInt_lt.mp h2
      rw [if_pos h2]
      exact ⟨fun x => absurd x (by decide), fun x => by omega⟩
    · have h2' := mt Int32.lt_iff_toInt_lt.mpr h2
      rw [if_neg h2]
      exact ⟨fun _ => by omega, fun _ => rfl⟩
/-- a byte and what the program reads of it -/
def yBy (b c : Int32) : Prop := (0 ≤ b.toInt ∧ c = b) ∨ (b.toInt < 0 ∧ 128 ≤ c.toInt)
theorem yBy_e {b c v : Int32} (h : yBy b c) (h1 : 0 ≤ v.toInt) (h2 : v.toInt < 128) : b = v ↔ c = v := by
  rcases h with ⟨x, y⟩ | ⟨x, y⟩
  · rw [y]
  · constructor
    · intro e; rw [e] at x; omega
    · intro e; rw [e] at y; omega
theorem yBy_l {b c : Int32} (h : yBy b c) : yLt b = true ↔ yLt c = true := by
  rw [yLt_i, yLt_i]
  rcases h with ⟨x, y⟩ | ⟨x, y⟩
  · rw [y]
  · omega
theorem yBy_d {b c : Int32} (h : yBy b c) : yDg b = true ↔ yDg c = true := by
  rw [yDg_i, yDg_i]
  rcases h with ⟨x, y⟩ | ⟨x, y⟩
  · rw [y]
  · omega
theorem yBy_v {b c : Int32} (h : yBy b c) (hd : yDg c = true) : b = c := by
  rw [yDg_i] at hd
  rcases h with ⟨x, y⟩ | ⟨x, y⟩
  · exact y.symm
  · omega
def zTq (B : Nat → Int32) (t : Nat) (Q : zMem) : Prop := Q 74 2 = nI t ∧ t ≤ 600 ∧ (∀ i, i < t → yBy (Q 75 i) (B i)) ∧ (∀ i, t ≤ i → B i = -1)
def zQs (B : Nat → Int32) (t : Nat) (Q : zMem) (p q : Nat) (f : Int32) : Prop := zTq B t Q ∧ Q 74 3 = nI p ∧ p ≤ t ∧ Q 74 4 = nI q ∧ Q 74 5 = f
def zOq (Q Q' : zMem) : Prop := ∀ c i, (c ≠ 74 ∨ (i ≠ 3 ∧ i ≠ 4 ∧ i ≠ 5)) → Q' c i = Q c i
theorem zOq_r {P : zMem} : zOq P P := fun _ _ _ => rfl
theorem zOq_t {P P1 P2 : zMem} (h1 : zOq P P1) (h2 : zOq P1 P2) : zOq P P2 := fun c i h => (h2 c i h).trans (h1 c i h)
theorem zOq_u {P : zMem} {i : Nat} {v : Int32} (h : i = 3 ∨ i = 4 ∨ i = 5) : zOq P (zUp P 74 i v) := fun c j hc => if_neg (by omega)
theorem zTq_c {B : Nat → Int32} {t : Nat} {P P' : zMem} (h : zTq B t P) (hc : ∀ c i, (c = 74 ∧ i = 2) ∨ c = 75 → P' c i = P c i) : zTq B t P' := ⟨by rw [hc 74 2 (by omega)]; exact h.1, h.2.1, fun i hi => by rw [hc 75 i (by omega)]; exact h.2.2.1 i hi, h.2.2.2⟩
theorem zTq_o {B : Nat → Int32} {t : Nat} {P P' : zMem} (h : zTq B t P) (hc : zOq P P') : zTq B t P' := zTq_c h (fun c i x => hc c i (by omega))
theorem zQs_at {B : Nat → Int32} {t p p' q : Nat} {P : zMem} {f : Int32} (h : zQs B t P p q f) (hp : p' ≤ t) : zQs B t (zUp P 74 3 (nI p')) p' q f := ⟨zTq_o h.1 (zOq_u (by omega)), zUp_s, hp, by rw [zUp_x (by omega)]; exact h.2.2.2.1, by rw [zUp_x (by omega)]; exact h.2.2.2.2⟩
theorem zQs_f {B : Nat → Int32} {t p q : Nat} {P : zMem} {f g : Int32} (h : zQs B t P p q f) : zQs B t (zUp P 74 5 g) p q g := ⟨zTq_o h.1 (zOq_u (by omega)), by rw [zUp_x (by omega)]; exact h.2.1, h.2.2.1, by rw [zUp_x (by omega)]; exact h.2.2.2.1, zUp_s⟩
theorem zQs_u {B : Nat → Int32} {t p q c i : Nat} {P : zMem} {f v : Int32} (h : zQs B t P p q f) (h1 : c ≠ 74) (h2 : c ≠ 75) : zQs B t (zUp P c i v) p q f := ⟨zTq_c h.1 (fun b j hb => zUp_c (by omega)), by rw [zUp_c (by omega)]; exact h.2.1, h.2.2.1, by rw [zUp_c (by omega)]; exact h.2.2.2.1, by rw [zUp_c (by omega)]; exact h.2.2.2.2⟩
theorem zSk_R {T B : Nat → Int32} {t : Nat} (h : ∀ i, i < t → yBy (T i) (B i)) : ∀ k p, p + k = t → zSk T k p = zRn yBl B k p
  | 0, _, _ => rfl
  | k + 1, p, hp => by
    have e := yBy_e (v := 32) (h p (by omega)) (by decide +kernel) (by decide +kernel)
    rw [zSk, zRn, zSk_R h k (p + 1) (by omega)]
    by_cases x : T p = 32
    · rw [if_pos x, if_pos (show yBl (B p) = true from if_pos (e.mp x))]
    · rw [if_neg x, if_neg (show ¬ yBl (B p) = true from by unfold yBl; rw [if_neg (fun y => x (e.mpr y))]; decide)]
theorem g_end {B : Nat → Int32} {t p q : Nat} {Q : zMem} {f : Int32} (h : zQs B t Q p q f) : ∃ Q', f_X10_isEnd Q = some (yB (yS B t p = t), Q') ∧ zQs B t Q' (yS B t p) (yS B t p) f ∧ zOq Q Q' := by
  have ht := h.1.2.1
  have hp := h.2.2.1
  obtain ⟨Q', e, a1, a2, a3, a4⟩ := g_isEndL h.1.1 ht (t - p) p zFu Q (by omega) (by unfold zFu; omega) h.2.1 (fun _ _ => rfl) (fun _ _ => rfl)
  have es : zSk (Q 75) (t - p) p = yS B t p := zSk_R h.1.2.2.1 (t - p) p (by omega)
  rw [es] at e a1 a2
  have hO : zOq Q Q' := fun c i hc => by
    by_cases x : c = 74
    · subst x; exact a4 i (by omega) (by omega)
    · rw [a3 c x]
  exact ⟨Q', e, ⟨zTq_o h.1 hO, a1, (yS_le hp).2, a2, by rw [a4 5 (by omega) (by omega)]; exact h.2.2.2.2⟩, hO⟩
theorem g_let {B : Nat → Int32} {t p q : Nat} {Q : zMem} {f : Int32} (h : zQs B t Q p q f) : f_X10_isLetter Q = some (zT (yLt (B p) = true), Q) := by
  have ht := h.1.2.1
  have hp := h.2.2.1
  rw [f_X10_isLetter, h.1.1, h.2.1]
  by_cases x : p = t
  · rw [if_pos (nI_le (by omega) (by omega)), x, h.1.2.2.2 t (Nat.le_refl _), zT_f yLt_1]
  · have hb := h.1.2.2.1 p (by omega)
    rw [if_neg (nI_ge (by omega) (by omega)), zCk_t (zIn_n (by omega) (by omega)), zIx_n (by omega)]
    by_cases h1 : Q 75 p < 97
    · rw [if_pos h1, zT_f (fun y => by
        have := (yBy_l hb).mpr y
        unfold yLt at this
        rw [if_pos h1] at this
        exact absurd this (by decide))]
    · rw [if_neg h1, zCk_t (zIn_n (by omega) (by omega))]
      by_cases h2 : 122 < Q 75 p
      · rw [if_pos h2, zT_f (fun y => by
          have := (yBy_l hb).mpr y
          unfold yLt at this
          rw [if_neg h1, if_pos h2] at this
          exact absurd this (by decide))]
      · rw [if_neg h2, zT_t ((yBy_l hb).mp (by unfold yLt; rw [if_neg h1, if_neg h2]))]
theorem g_fail {B : Nat → Int32} {t p q : Nat} {Q : zMem} (u v f : Int32) (h : zQs B t Q p q f) : ∃ Q' f', f_X10_fails u v Q = some (0, Q') ∧ zQs B t Q' p q f' ∧ zOq Q Q' ∧ (f ≠ 0 → f' = f) ∧ (f = 0 → f' = u + 4 * v) := by
  rw [f_X10_fails, h.2.2.2.2]
  by_cases x : f = 0
  · rw [if_pos x, zLt_eq]
    exact ⟨_, _, rfl, zQs_f h, zOq_u (by omega), fun y => absurd x y, fun _ => rfl⟩
  · rw [if_neg x]
    exact ⟨_, _, rfl, h, zOq_r, fun _ => rfl, fun y => absurd y x⟩
theorem g_wordL {B : Nat → Int32} {t q : Nat} {f : Int32} : ∀ k p N Q, p + k = t → k < N → zQs B t Q p q f → ∃ Q', f_X10_word_L5 N Q = f_X10_word_B25 Q' ∧ zQs B t Q' (zRn yLt B k p) q f ∧ zOq Q Q' := by
  intro k
  induction k with
  | zero =>
    intro p N Q hp hN h
    obtain ⟨N, rfl⟩ : ∃ N', N = N' + 1 := ⟨N - 1, by omega⟩
    refine ⟨Q, ?_, h, zOq_r⟩
    rw [f_X10_word_L5, g_let h, zBd_some, zT_f (by rw [h.1.2.2.2 p (by omega)]; exact yLt_1), if_pos rfl]
  | succ k ih =>
    intro p N Q hp hN h
    obtain ⟨N, rfl⟩ : ∃ N', N = N' + 1 := ⟨N - 1, by omega⟩
    rw [f_X10_word_L5, g_let h, zBd_some, zRn]
    by_cases d : yLt (B p) = true
    · obtain ⟨Q', e, a1, a2⟩ := ih (p + 1) N (zUp Q 74 3 (nI (p + 1))) (by omega) (by omega) (zQs_at h (by omega))
      rw [zT_t d, if_neg (by decide), if_pos d, zLt_eq, h.2.1, nI_1]
      exact ⟨Q', e, a1, zOq_t (zOq_u (by omega)) a2⟩
    · rw [zT_f d, if_pos rfl, if_neg d]
      exact ⟨Q, rfl, h, zOq_r⟩
/-- a word read at q -/
def zWs (B : Nat → Int32) (t : Nat) (Q : zMem) (q : Nat) : Prop := zQs B t Q (yE B t q) q (if yE B t q = q then 1 + 4 * nI q else 0) ∧ q ≤ t
theorem g_word {B : Nat → Int32} {t p q : Nat} {Q : zMem} (h : zQs B t Q p q 0) : ∃ Q', f_X10_word Q = some (0, Q') ∧ zWs B t Q' (yS B t p) ∧ zOq Q Q' := by
  obtain ⟨Q1, e1, a1, a2⟩ := g_end h
  have ht := h.1.2.1
  have hp := h.2.2.1
  have hs := yS_le (B := B) hp
  generalize yS B t p = s at e1 a1 hs ⊢
  obtain ⟨Q2, e2, b1, b2⟩ := g_wordL (t - s) s zFu Q1 (by omega) (by unfold zFu; omega) a1
  rw [show zRn yLt B (t - s) s = yE B t s from rfl] at b1
  have he := yE_le (B := B) hs.2
  rw [f_X10_word, e1, zBd_some, e2, f_X10_word_B25, b1.2.1, b1.2.2.2.1]
  unfold zWs
  by_cases x : yE B t s = s
  · obtain ⟨Q3, f3, e3, c1, c2, c3, c4⟩ := g_fail 1 (nI s) 0 b1
    rw [if_pos (by rw [x]), e3, zBd_some, if_pos x]
    rw [c4 rfl] at c1
    exact ⟨Q3, rfl, ⟨c1, hs.2⟩, zOq_t a2 (zOq_t b2 c2)⟩
  · rw [if_neg (by rw [nI_eq (by omega) (by omega)]; exact x), if_neg x]
    exact ⟨Q2, rfl, ⟨b1, hs.2⟩, zOq_t a2 b2⟩
theorem g_is0 {u : Int32} {N : Nat} {x : Int32} {Q : zMem} : f_X10_is_L24 u (N + 1) 0 x Q = some (0, Q) := by
  rw [f_X10_is_L24]
  by_cases h : zSlen (zIx u) ≤ x
  · rw [if_pos h, zCk_t (Or.inl rfl)]
  · rw [if_neg h, if_pos rfl, zCk_t (Or.inl rfl)]
theorem g_isL {B : Nat → Int32} {t q w : Nat} {u f : Int32} {Q : zMem} (hu : zIx u = w) (hw : w < 50) (h : zQs B t Q (yE B t q) q f) (hq : q ≤ t) (hE : yE B t q = q + zSlenN w) : ∀ k i N, i + k = zSlenN w → k + 1 < N → (∀ j, j < i → B (q + j) = zScha w (nI j)) → f_X10_is_L24 u N 1 (nI i) Q = some (zT (yWm B q w), Q) := by
  obtain ⟨w1, w2, w3⟩ := zw_ok w hw
  have hs : zSlen (zIx u) = nI (zSlenN w) := by rw [hu]; rfl
  have ht := h.1.2.1
  have hp := h.2.2.1
  intro k
  induction k with
  | zero =>
    intro i N hi hN hj
    obtain ⟨N, rfl⟩ : ∃ N', N = N' + 1 := ⟨N - 1, by omega⟩
    have ei : i = zSlenN w := by omega
    subst ei
    rw [f_X10_is_L24, hs, if_pos (nI_le (Nat.le_refl _) (by omega)), zCk_t (Or.inr rfl), zT_t ((yWm_i h.1.2.2.2 hw hq).mpr ⟨hE, hj⟩)]
  | succ k ih =>
    intro i N hi hN hj
    obtain ⟨N, rfl⟩ : ∃ N', N = N' + 1 := ⟨N - 1, by omega⟩
    have hb := h.1.2.2.1 (q + i) (by omega)
    have hl := yLt_i.mp (w3 i (by omega))
    have eb := yBy_e hb (v := zScha w (nI i)) (by omega) (by omega)
    rw [f_X10_is_L24, hs, if_neg (nI_ge (by omega) (by omega)), if_neg (by decide), h.2.2.2.1, nI_add, zCk_t (zIn_n (by omega) (by omega)), hu, zCk_t (zIn_n (by omega) (by omega)), zIx_n (by omega), nI_1]
    by_cases x : Q 75 (q + i) = zScha w (nI i)
    · rw [if_pos x]
      exact ih (i + 1) N (by omega) (by omega) (fun j hj2 => by
        by_cases e : j = i
        · rw [e]; exact eb.mp x
        · exact hj j (by omega))
    · obtain ⟨N, rfl⟩ : ∃ N', N = N' + 1 := ⟨N - 1, by omega⟩
      rw [if_neg x, g_is0, zT_f (fun y => x (eb.mpr (y.1 i (by omega))))]
theorem g_is {B : Nat → Int32} {t q w : Nat} {u f : Int32} {Q : zMem} (hu : zIx u = w) (hw : w < 50) (h : zQs B t Q (yE B t q) q f) (hq : q ≤ t) : f_X10_is u Q = some (zT (yWm B q w), Q) := by
  have hl := zw_ok w hw
  have he := yE_le (B := B) hq
  have ht := h.1.2.1
  have hs : zSlen (zIx u) = nI (zSlenN w) := by rw [hu]; rfl
  have e2 : nI (yE B t q) - nI q = nI (yE B t q - q) := by
    have := nI_sb q (yE B t q - q)
    rwa [show q + (yE B t q - q) = yE B t q by omega] at this
  rw [f_X10_is, h.2.1, h.2.2.2.1, e2, hs]
  by_cases x : yE B t q = q + zSlenN w
  · rw [if_pos (by rw [x, Nat.add_sub_cancel_left])]
    exact g_isL hu hw h hq x (zSlenN w) 0 zFu (by omega) (by unfold zFu; omega) (fun j hj => by omega)
  · rw [if_neg (by rw [nI_eq (by omega) (by omega)]; omega), zT_f (fun y => x (yWm_E h.1.2.2.2 hw hq y).1)]
    exact g_is0 (N := 1999)
