/-! ===== the rules read: bytes and blanks ===== -/
theorem c_byte {M : zMem} {t p : Nat} (h : M 1 1 = nI t) (ht : t ≤ 600) (hp : p < 2 ^ 31) : f_X8_byteAt (nI p) M = some (if p < t then M 2 p &&& 255 else -1, M) := by
  rw [f_X8_byteAt, if_neg (nI_pos hp), h]
  by_cases q : p < t
  · rw [if_pos q, if_neg (nI_ge q (by omega)), if_neg (show ¬ (600 : Int32) ≤ nI p from nI_ge (b := 600) (by omega) (by omega)), zCk_t (zIn_n (by omega) (by omega)), zIx_n (by omega)]
  · rw [if_neg q, if_pos (nI_le (by omega) hp)]
/-- the first place from p on, k places ahead of the end, that is no blank -/
def zSk (T : Nat → Int32) : Nat → Nat → Nat
  | 0, p => p
  | k + 1, p => if T p = 32 then zSk T k (p + 1) else p
theorem zSk_le (T : Nat → Int32) : ∀ k p, p ≤ zSk T k p ∧ zSk T k p ≤ p + k
  | 0, p => ⟨Nat.le_refl _, Nat.le_refl _⟩
  | k + 1, p => by
    have h := zSk_le T k (p + 1)
    rw [zSk]
    by_cases q : T p = 32
    · rw [if_pos q]; omega
    · rw [if_neg q]; omega
theorem g_isEndL {M0 : zMem} {t : Nat} (h2 : M0 74 2 = nI t) (ht : t ≤ 600) : ∀ k p N M, p + k = t → k < N → M 74 3 = nI p → (∀ c, c ≠ 74 → M c = M0 c) → (∀ i, i ≠ 3 → M 74 i = M0 74 i) → ∃ M', f_X10_isEnd_L0 N M = some (yB (zSk (M0 75) k p = t), M') ∧ M' 74 3 = nI (zSk (M0 75) k p) ∧ M' 74 4 = nI (zSk (M0 75) k p) ∧ (∀ c, c ≠ 74 → M' c = M0 c) ∧ (∀ i, i ≠ 3 → i ≠ 4 → M' 74 i = M0 74 i) := by
  have hB : ∀ p M, p ≤ t → M 74 3 = nI p → (∀ c, c ≠ 74 → M c = M0 c) → (∀ i, i ≠ 3 → M 74 i = M0 74 i) → ∃ M', f_X10_isEnd_B38 M = some (yB (p = t), M') ∧ M' 74 3 = nI p ∧ M' 74 4 = nI p ∧ (∀ c, c ≠ 74 → M' c = M0 c) ∧ (∀ i, i ≠ 3 → i ≠ 4 → M' 74 i = M0 74 i) := by
    intro p M hp h3 hc h74
    refine ⟨zUp M 74 4 (nI p), ?_, by rw [zUp_x (by omega), h3], zUp_s, fun c x => by rw [zUp_off x, hc c x], fun i x y => by rw [zUp_x y, h74 i x]⟩
    rw [f_X10_isEnd_B38, zLt_eq, h3, zUp_x (by omega), zUp_x (by omega), h3, h74 2 (by omega), h2]
    by_cases q : p = t
    · rw [if_pos (by rw [q]), yB_t q]
    · rw [if_neg (by rw [nI_eq (by omega) (by omega)]; exact q), yB_f q]
  intro k
  induction k with
  | zero =>
    intro p N M hp hN h3 hc h74
    obtain ⟨N, rfl⟩ : ∃ N', N = N' + 1 := ⟨N - 1, by omega⟩
    rw [f_X10_isEnd_L0, h74 2 (by omega), h2, h3, if_pos (nI_le (by omega) (by omega))]
    exact hB p M (by omega) h3 hc h74
  | succ k ih =>
    intro p N M hp hN h3 hc h74
    obtain ⟨N, rfl⟩ : ∃ N', N = N' + 1 := ⟨N - 1, by omega⟩
    rw [f_X10_isEnd_L0, h74 2 (by omega), h2, h3, if_neg (nI_ge (by omega) (by omega)), zCk_t (zIn_n (by omega) (by omega)), zIx_n (by omega), hc 75 (by omega), zSk, zLt_eq, nI_1]
    by_cases q : M0 75 p = 32
    · rw [if_pos q, if_pos q]
      exact ih (p + 1) N (zUp M 74 3 (nI (p + 1))) (by omega) (by omega) zUp_s (fun c x => by rw [zUp_off x, hc c x]) (fun i x => by rw [zUp_x x, h74 i x])
    · rw [if_neg q, if_neg q]
      exact hB p M (by omega) h3 hc h74
