/-! ===== the awards: means are not below 0 ===== -/
theorem nI_div {a b : Nat} (ha : a < 2 ^ 31) (hb : b < 2 ^ 31) : nI a / nI b = nI (a / b) := by
  refine Int32.toInt_inj.mp ?_
  have hd : a / b ≤ a := Nat.div_le_self a b
  rw [Int32.toInt_div, nI_toInt ha, nI_toInt hb, nI_toInt (by omega), ← Int.ofNat_tdiv]
  generalize a / b = q at hd ⊢
  rw [Int.bmod_eq_of_le (by omega) (by omega)]
theorem nI_mul (a b : Nat) : nI a * nI b = nI (a * b) := (Int32.ofNat_mul a b).symm
/-- least and greatest, as numbers -/
theorem zLw_n {M : zMem} {j : Nat} (hJ : zIJ M) (hj : j < 6) : ∀ i, i ≤ 24 → (∃ l, l ≤ 100 ∧ zLw M j i = nI l) ∧ (∃ h, h ≤ 100 ∧ zHg M j i = nI h)
  | 0, _ => ⟨⟨100, by omega, rfl⟩, ⟨0, by omega, rfl⟩⟩
  | i + 1, hi => by
    obtain ⟨⟨l, hl, el⟩, ⟨h, hh, eh⟩⟩ := zLw_n hJ hj i (by omega)
    rw [zLw, zHg]
    by_cases q : yQk M j i
    · rw [zIf_t q, zIf_t q]
      rcases hJ.2 j i hj (by omega) with ⟨_, b⟩ | ⟨_, _, c⟩
      · exact absurd b q.1
      · obtain ⟨p, hp, ep⟩ := zIn_of c
        constructor
        · show ∃ l, l ≤ 100 ∧ (if M (67 + j) i < zLw M j i then M (67 + j) i else zLw M j i) = nI l
          by_cases y : M (67 + j) i < zLw M j i
          · rw [if_pos y]; exact ⟨p, by omega, ep⟩
          · rw [if_neg y]; exact ⟨l, hl, el⟩
        · show ∃ h, h ≤ 100 ∧ (if zHg M j i < M (67 + j) i then M (67 + j) i else zHg M j i) = nI h
          by_cases y : zHg M j i < M (67 + j) i
          · rw [if_pos y]; exact ⟨p, by omega, ep⟩
          · rw [if_neg y]; exact ⟨h, hh, eh⟩
    · rw [zIf_f q, zIf_f q]
      exact ⟨⟨l, hl, el⟩, ⟨h, hh, eh⟩⟩
theorem zSc_n {M : zMem} {j m : Nat} (hJ : zIJ M) (hj : j < 6) (hm : m < 24) (hq : yQk M j m) : ∃ s, s ≤ 100000 ∧ zSc M j m = nI s := by
  obtain ⟨⟨l, hl, el⟩, ⟨h, hh, eh⟩⟩ := zLw_n hJ hj 24 (Nat.le_refl _)
  have hb := zLw_b hq 24 hm
  unfold zSc
  by_cases c : zLw M j 24 = zHg M j 24
  · rw [if_pos c]
    exact ⟨500, by omega, rfl⟩
  · rw [if_neg c]
    rcases hJ.2 j m hj hm with ⟨_, b⟩ | ⟨_, _, c2⟩
    · exact absurd b hq.1
    · obtain ⟨p, hp, ep⟩ := zIn_of c2
      rw [el, eh, ep] at hb ⊢
      rw [el, eh] at c
      have h1 : l ≤ p := (nI_leI (by omega) (by omega)).mp hb.1
      have h2 : p ≤ h := (nI_leI (by omega) (by omega)).mp hb.2
      refine ⟨(p - l) * 1000 / (h - l), ?_, ?_⟩
      · exact Nat.le_trans (Nat.div_le_self _ _) (by omega)
      · rw [n_sub h1, n_sub (by omega), show (1000 : Int32) = nI 1000 from rfl, nI_mul, nI_div (by omega) (by omega)]
theorem zSu_n {M : zMem} {m : Nat} (hJ : zIJ M) (hm : m < 24) : ∀ j, j ≤ 6 → ∃ s, s ≤ j * 100000 ∧ zSu M m j = nI s
  | 0, _ => ⟨0, by omega, rfl⟩
  | j + 1, hj => by
    obtain ⟨s, hs, es⟩ := zSu_n hJ hm j (by omega)
    rw [zSu]
    by_cases q : yQk M j m
    · obtain ⟨r, hr, er⟩ := zSc_n hJ (by omega) hm q
      rw [zIf_t q, es, er, nI_add]
      exact ⟨s + r, by omega, rfl⟩
    · rw [zIf_f q]
      exact ⟨s, Nat.le_trans hs (Nat.mul_le_mul_right _ (Nat.le_succ j)), es⟩
theorem zMn_n {M : zMem} {m : Nat} (hJ : zIJ M) (hm : m < 24) : zMn M m = -1 ∨ ∃ s, s < 2 ^ 30 ∧ zMn M m = nI s := by
  unfold zMn
  by_cases c : zCo M m 6 = 0
  · rw [if_pos c]
    exact Or.inl rfl
  · obtain ⟨s, hs, es⟩ := zSu_n hJ hm 6 (Nat.le_refl _)
    have hc := zCo_le M m 6
    rw [if_neg c, es, nI_div (by omega) (by omega)]
    exact Or.inr ⟨s / zCo M m 6, Nat.lt_of_le_of_lt (Nat.div_le_self _ _) (by omega), rfl⟩
/-! counting -/
noncomputable def yN (p : Nat → Prop) : Nat → Nat
  | 0 => 0
  | n + 1 => zIf (p n) (yN p n + 1) (yN p n)
theorem yN_le (p : Nat → Prop) : ∀ n, yN p n ≤ n
  | 0 => Nat.le_refl _
  | n + 1 => by
    have := yN_le p n
    rw [yN]
    by_cases q : p n
    · rw [zIf_t q]; omega
    · rw [zIf_f q]; omega
theorem yN_c {p r : Nat → Prop} : ∀ n, (∀ i, i < n → (p i ↔ r i)) → yN p n = yN r n
  | 0, _ => rfl
  | n + 1, h => by
    rw [yN, yN, yN_c n (fun i hi => h i (by omega)), propext (h n (by omega))]
theorem yN_0 {p : Nat → Prop} : ∀ n, (∀ i, i < n → ¬ p i) → yN p n = 0
  | 0, _ => rfl
  | n + 1, h => by rw [yN, zIf_f (h n (by omega)), yN_0 n (fun i hi => h i (by omega))]
theorem yN_1 {p : Nat → Prop} {b : Nat} : ∀ n, ¬ p b → yN (fun i => p i ∨ i = b) n = yN p n + (if b < n then 1 else 0)
  | 0, _ => by rw [if_neg (by omega)]; rfl
  | n + 1, h => by
    rw [yN, yN, yN_1 n h]
    by_cases e : n = b
    · subst e
      rw [zIf_t (Or.inr rfl), zIf_f h, if_neg (by omega), if_pos (by omega)]
    · by_cases q : p n
      · rw [zIf_t (Or.inl q), zIf_t q]
        by_cases y : b < n
        · rw [if_pos y, if_pos (by omega)]
        · rw [if_neg y, if_neg (by omega)]
      · rw [zIf_f (fun y => y.elim q e), zIf_f q]
        by_cases y : b < n
        · rw [if_pos y, if_pos (by omega)]
        · rw [if_neg y, if_neg (by omega)]
theorem yN_m {p r : Nat → Prop} : ∀ n, (∀ i, i < n → p i → r i) → yN p n ≤ yN r n
  | 0, _ => Nat.le_refl _
  | n + 1, h => by
    have ih := yN_m n (fun i hi => h i (by omega))
    rw [yN, yN]
    by_cases q : p n
    · rw [zIf_t q, zIf_t (h n (by omega) q)]; omega
    · rw [zIf_f q]
      by_cases y : r n
      · rw [zIf_t y]; omega
      · rw [zIf_f y]; exact ih
