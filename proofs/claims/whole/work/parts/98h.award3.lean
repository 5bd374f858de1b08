/-! the reference gives the awards by turns -/
def zWg (M : zMem) (g : Nat → Int32) (m : Nat) : Prop := M 139 m = 0 ∧ g m ≠ -1
def zBi (M : zMem) (g : Nat → Int32) (x : Int32) (i : Nat) : Prop := (x = -1 ∧ ∀ m, m < i → ¬ zWg M g m) ∨ (∃ b, b < i ∧ zWg M g b ∧ x = nI b ∧ ∀ m, m < i → zWg M g m → m ≠ b → zAh g b m)
theorem g_awL {M : zMem} {g : Nat → Int32} {u x3 : Int32} {kk : Int32 → Int32 → zMem → zTr} (hJ : zJp M) (hg : ∀ m, m < 24 → zMn M m = g m) : ∀ k i N x2, i + k = 24 → k < N → zBi M g x2 i → ∃ x, zBi M g x 24 ∧ f_X10_award_L35 u kk N x2 x3 (nI i) M = f_X10_award_B90 u kk x x3 M := by
  intro k
  induction k with
  | zero =>
    intro i N x2 hi hN hB
    obtain ⟨N, rfl⟩ : ∃ N', N = N' + 1 := ⟨N - 1, by omega⟩
    obtain rfl : i = 24 := by omega
    exact ⟨x2, hB, by rw [f_X10_award_L35, if_pos (show (24 : Int32) ≤ nI 24 by decide)]⟩
  | succ k ih =>
    intro i N x2 hi hN hB
    obtain ⟨N, rfl⟩ : ∃ N', N = N' + 1 := ⟨N - 1, by omega⟩
    have hskip : ¬ zWg M g i → zBi M g x2 (i + 1) := by
      intro hn
      rcases hB with ⟨y1, y2⟩ | ⟨b, y1, y2, y3, y4⟩
      · refine Or.inl ⟨y1, fun m hm => ?_⟩
        by_cases e : m = i
        · rw [e]; exact hn
        · exact y2 m (by omega)
      · refine Or.inr ⟨b, by omega, y2, y3, fun m hm hw hne => ?_⟩
        by_cases e : m = i
        · rw [e] at hw; exact absurd hw hn
        · exact y4 m (by omega) hw hne
    rw [f_X10_award_L35, if_neg (show ¬ (24 : Int32) ≤ nI i from nI_ge (b := 24) (by omega) (by omega)), zCk_t (zIn_n (by omega) (by omega)), zIx_n (by omega), nI_1, g_mean hJ (by omega), zBd_some, g_mean hJ (by omega), zBd_some, hg i (by omega)]
    by_cases c1 : M 139 i = 0
    · rw [if_pos c1]
      by_cases c2 : g i = -1
      · rw [if_pos c2]
        exact ih (i + 1) N x2 (by omega) (by omega) (hskip (fun y => y.2 c2))
      · rw [if_neg c2]
        rcases hB with ⟨y1, y2⟩ | ⟨b, y1, y2, y3, y4⟩
        · rw [if_pos y1]
          refine ih (i + 1) N (nI i) (by omega) (by omega) (Or.inr ⟨i, by omega, ⟨c1, c2⟩, rfl, fun m hm hw hne => ?_⟩)
          exact absurd hw (y2 m (by omega))
        · rw [y3, if_neg (show ¬ nI b = -1 by rw [zd_e1 (by omega)]; exact fun y => y), g_mean hJ (by omega), zBd_some, hg b (by omega)]
          by_cases c3 : g i ≤ g b
          · rw [if_pos c3]
            refine ih (i + 1) N (nI b) (by omega) (by omega) (Or.inr ⟨b, by omega, y2, rfl, fun m hm hw hne => ?_⟩)
            by_cases e : m = i
            · subst e
              by_cases z : g m < g b
              · exact Or.inl z
              · exact Or.inr ⟨Int32.le_antisymm (Int32.not_lt.mp z) c3, y1⟩
            · exact y4 m (by omega) hw hne
          · rw [if_neg c3]
            have c4 := Int32.not_le.mp c3
            refine ih (i + 1) N (nI i) (by omega) (by omega) (Or.inr ⟨i, by omega, ⟨c1, c2⟩, rfl, fun m hm hw hne => ?_⟩)
            by_cases e : m = b
            · rw [e]; exact Or.inl c4
            · exact zAh_t (Or.inl c4) (y4 m (by omega) hw e)
    · rw [if_neg c1]
      exact ih (i + 1) N x2 (by omega) (by omega) (hskip (fun y => c1 y.1))
def zAn (g : Nat → Int32) (K : Nat) (x : Int32) : Prop := (∃ b, b < 24 ∧ g b ≠ -1 ∧ zRk g b = K ∧ x = nI b) ∨ (x = -1 ∧ ∀ m, m < 24 → g m ≠ -1 → zRk g m ≠ K)
theorem g_awT {g : Nat → Int32} {K : Nat} (hK : K < 2 ^ 31) (hpos : ∀ m, m < 24 → g m = -1 ∨ 0 ≤ g m) : ∀ d t N x2 M, t + d = 25 → d < N → t ≤ K + 1 → zJp M → (∀ m, m < 24 → zMn M m = g m) → (∀ m, m < 24 → M 139 m = 0 ∨ M 139 m = 1) → yN (fun m => M 139 m = 1) 24 = t → (∀ x y, x < 24 → y < 24 → M 139 x = 1 → zWg M g y → zAh g x y) → (∀ x, x < 24 → M 139 x = 1 → g x ≠ -1) → (t = K + 1 → zAn g K x2) → ∃ x M', f_X10_award_L25 (nI K) N x2 (nI t) M = some (x, M') ∧ zAn g K x ∧ (∀ c, c ≠ 139 → M' c = M c) := by
  intro d
  induction d with
  | zero =>
    intro t N x2 M ht hN hle hJ hg h01 hct
    have := yN_le (fun m => M 139 m = 1) 24
    omega
  | succ d ih =>
    intro t N x2 M ht hN hle hJ hg h01 hct hah hv hfin
    obtain ⟨N, rfl⟩ : ∃ N', N = N' + 1 := ⟨N - 1, by omega⟩
    rw [f_X10_award_L25]
    by_cases q : t = K + 1
    · rw [if_pos (nI_lt (by omega) (by omega))]
      exact ⟨x2, M, rfl, hfin q, fun _ _ => rfl⟩
    rw [if_neg (nI_nlt (by omega) hK)]
    obtain ⟨x, hB, e⟩ := g_awL (u := nI K) (x3 := nI t) (kk := fun x2 x3 M => f_X10_award_L25 (nI K) N x2 x3 M) hJ hg 24 0 zFu (-1) (by omega) (by unfold zFu; omega) (Or.inl ⟨rfl, fun m hm => by omega⟩)
    show ∃ x M', f_X10_award_L35 (nI K) (fun x2 x3 M => f_X10_award_L25 (nI K) N x2 x3 M) zFu (-1) (nI t) (nI 0) M = some (x, M') ∧ _
    rw [e, f_X10_award_B90]
    rcases hB with ⟨y1, y2⟩ | ⟨b, y1, y2, y3, y4⟩
    · rw [if_pos y1]
      refine ⟨-1, M, rfl, Or.inr ⟨rfl, fun m hm hgm hr => ?_⟩, fun _ _ => rfl⟩
      -- all that count are gone: fewer than t are ahead of any
      have hmG : M 139 m = 1 := (h01 m hm).elim (fun z => absurd ⟨z, hgm⟩ (y2 m hm)) id
      have h1 := yN_1 (p := fun i => M 139 i = 1 ∧ i ≠ m) (b := m) 24 (fun z => z.2 rfl)
      rw [if_pos hm] at h1
      have h2 : yN (fun i => (M 139 i = 1 ∧ i ≠ m) ∨ i = m) 24 = t := by
        rw [← hct]
        refine yN_c 24 (fun i hi => ⟨fun z => z.elim (fun w => w.1) (fun w => by rw [w]; exact hmG), fun z => ?_⟩)
        by_cases w : i = m
        · exact Or.inr w
        · exact Or.inl ⟨z, w⟩
      have h3 : zRk g m ≤ yN (fun i => M 139 i = 1 ∧ i ≠ m) 24 := by
        unfold zRk
        refine yN_m 24 (fun i hi hz => ?_)
        have hne : i ≠ m := fun w => by rw [w] at hz; exact zAh_i hz
        have hgi : g i ≠ -1 := fun w => by
          rcases hz with z | ⟨z, _⟩
          · rw [w] at z
            rcases hpos m hm with y | y
            · exact hgm y
            · have e1 := Int32.lt_iff_toInt_lt.mp z
              have e2 := Int32.le_iff_toInt_le.mp y
              have e0 : (0 : Int32).toInt = 0 := by decide +kernel
              have em : (-1 : Int32).toInt = -1 := by decide +kernel
              omega
          · exact hgm (by rw [← z]; exact w)
        exact ⟨(h01 i hi).elim (fun z => absurd ⟨z, hgi⟩ (y2 i hi)) id, hne⟩
      omega
    · rw [y3, if_neg (show ¬ nI b = -1 by rw [zd_e1 (by omega)]; exact fun y => y), zCk_t (zIn_n y1 (by omega)), zLt_eq, zIx_n (by omega), nI_1]
      -- the pick has just the gone ones ahead of it
      have hrk : zRk g b = t := by
        rw [← hct]
        unfold zRk
        refine yN_c 24 (fun i hi => ⟨fun hz => ?_, fun hz => hah i b hi y1 hz y2⟩)
        refine (h01 i hi).elim (fun z => ?_) id
        exfalso
        have hne : i ≠ b := fun w => by rw [w] at hz; exact zAh_i hz
        have hgi : g i ≠ -1 := fun w => by
          rcases hz with z2 | ⟨z2, _⟩
          · rw [w] at z2
            rcases hpos b y1 with y | y
            · exact y2.2 y
            · have e1 := Int32.lt_iff_toInt_lt.mp z2
              have e2 := Int32.le_iff_toInt_le.mp y
              have e0 : (0 : Int32).toInt = 0 := by decide +kernel
              have em : (-1 : Int32).toInt = -1 := by decide +kernel
              omega
          · exact y2.2 (by rw [← z2]; exact w)
        exact zAh_i (zAh_t hz (y4 i hi ⟨z, hgi⟩ hne))
      have h139 : ∀ m, zUp M 139 b 1 139 m = if m = b then 1 else M 139 m := fun m => by
        by_cases w : m = b
        · subst w; rw [zUp_s, if_pos rfl]
        · rw [zUp_x w, if_neg w]
      have hW : ∀ m, zWg (zUp M 139 b 1) g m ↔ zWg M g m ∧ m ≠ b := fun m => by
        unfold zWg
        rw [h139]
        by_cases w : m = b
        · rw [if_pos w]
          exact ⟨fun z => absurd z.1 (by decide), fun z => absurd w z.2⟩
        · rw [if_neg w]
          exact ⟨fun z => ⟨z, w⟩, fun z => z.1⟩
      have hJc : zJc M (zUp M 139 b 1) := ⟨zUp_off (by omega), zUp_off (by omega), fun j hj => zUp_off (by omega)⟩
      have hJ1 : zJp (zUp M 139 b 1) := by
        refine ⟨⟨fun j hj => ?_, fun j m hj hm => ?_⟩, fun m hm => ?_⟩
        · rw [zUp_off (by omega), zUp_off (by omega)]; exact hJ.1.1 j hj
        · rw [zUp_off (by omega), zUp_off (by omega), zUp_off (by omega)]; exact hJ.1.2 j m hj hm
        · rw [zUp_off (by omega), zUp_off (by omega)]; exact hJ.2 m hm
      have hb0 : ¬ M 139 b = 1 := fun w => by rw [y2.1] at w; exact absurd w (by decide)
      obtain ⟨x, M', e1, e2, e3⟩ := ih (t + 1) N (nI b) (zUp M 139 b 1) (by omega) (by omega) (by omega) hJ1 (fun m hm => by rw [zMn_c hJc]; exact hg m hm) (fun m hm => by
        rw [h139]
        by_cases w : m = b
        · rw [if_pos w]; exact Or.inr rfl
        · rw [if_neg w]; exact h01 m hm) (by
        have h1 := yN_1 (p := fun m => M 139 m = 1) (b := b) 24 hb0
        rw [if_pos y1, hct] at h1
        rw [← h1]
        refine yN_c 24 (fun i hi => ?_)
        rw [h139]
        by_cases w : i = b
        · rw [if_pos w]
          exact ⟨fun _ => Or.inr w, fun _ => rfl⟩
        · rw [if_neg w]
          exact ⟨Or.inl, fun z => z.elim id (fun z2 => absurd z2 w)⟩) (fun x y hx hy hx1 hy1 => by
        have hyw := (hW y).mp hy1
        rw [h139] at hx1
        by_cases w : x = b
        · rw [w]; exact y4 y hy hyw.1 hyw.2
        · rw [if_neg w] at hx1
          exact hah x y hx hy hx1 hyw.1) (fun x hx hx1 => by
        rw [h139] at hx1
        by_cases w : x = b
        · rw [w]; exact y2.2
        · rw [if_neg w] at hx1
          exact hv x hx hx1) (fun w => Or.inl ⟨b, y1, y2.2, by omega, rfl⟩)
      exact ⟨x, M', e1, e2, fun c hc => by rw [e3 c hc, zUp_off hc]⟩
