/-! ===== LAYER 2, tools ===== -/
theorem zd_lt0 {n : Nat} (h : n < 2 ^ 31) : (nI n < 0) = False := eq_false (nI_pos h)
theorem zl_2 : (2 : Int32) = nI 2 := rfl
theorem zl_3 : (3 : Int32) = nI 3 := rfl
theorem zl_4 : (4 : Int32) = nI 4 := rfl
theorem zl_5 : (5 : Int32) = nI 5 := rfl
theorem zl_6 : (6 : Int32) = nI 6 := rfl
theorem zl_7 : (7 : Int32) = nI 7 := rfl
theorem zl_8 : (8 : Int32) = nI 8 := rfl
theorem zl_12 : (12 : Int32) = nI 12 := rfl
theorem zl_20 : (20 : Int32) = nI 20 := rfl
theorem zl_24 : (24 : Int32) = nI 24 := rfl
theorem zl_28 : (28 : Int32) = nI 28 := rfl
theorem zl_40 : (40 : Int32) = nI 40 := rfl
theorem zl_60 : (60 : Int32) = nI 60 := rfl
theorem zl_300 : (300 : Int32) = nI 300 := rfl
theorem zl_320 : (320 : Int32) = nI 320 := rfl
theorem zl_400 : (400 : Int32) = nI 400 := rfl
theorem zl_600 : (600 : Int32) = nI 600 := rfl
theorem zd_l0n {k : Nat} (h : 0 < k) (hk : k < 2 ^ 31) : (nI k ≤ 0) = False := eq_false (nI_ge (a := 0) h hk)
theorem zd_l0y {k : Nat} (h : k = 0) : (nI k ≤ 0) = True := eq_true (by subst h; decide)
theorem zd_0lt {k : Nat} (h : 0 < k) (hk : k < 2 ^ 31) : ((0 : Int32) < nI k) = True := eq_true (nI_lt (a := 0) h hk)
theorem zd_1lt {k : Nat} (h : 1 ≤ k) (hk : k < 2 ^ 31) : (nI k < 1) = False := eq_false (nI_nlt (b := 1) h hk)
theorem zd_1lty {k : Nat} (h : k < 1) : (nI k < 1) = True := eq_true (nI_lt (b := 1) h (by omega))
theorem zd_e0n {k : Nat} (h : k ≠ 0) (hk : k < 2 ^ 31) : (nI k = 0) = False := eq_false (nI_ne0 (by omega) hk)
theorem zd_e0y {k : Nat} (h : k = 0) : (nI k = 0) = True := eq_true (by subst h; decide)
theorem zCk_T {i : Decidable True} {t : zTr} : @zCk True i t = t := if_pos trivial
theorem zd_nn {a b : Nat} (h : b < a) (ha : a < 2 ^ 31) : (nI a ≤ nI b) = False := eq_false (nI_ge h ha)
theorem zd_ny {a b : Nat} (h : a ≤ b) (hb : b < 2 ^ 31) : (nI a ≤ nI b) = True := eq_true (nI_le h hb)
theorem zd_mn {a b : Nat} (h : b ≤ a) (ha : a < 2 ^ 31) : (nI a < nI b) = False := eq_false (nI_nlt h ha)
theorem zd_my {a b : Nat} (h : a < b) (hb : b < 2 ^ 31) : (nI a < nI b) = True := eq_true (nI_lt h hb)
theorem zd_en {a b : Nat} (ha : a < 2 ^ 31) (hb : b < 2 ^ 31) (h : a ≠ b) : (nI a = nI b) = False := eq_false (fun e => h ((nI_eq ha hb).mp e))
theorem zd_ey {a b : Nat} (h : a = b) : (nI a = nI b) = True := eq_true (by rw [h])
theorem zd_toInt1 : ((-1 : Int32)).toInt = -1 := by decide +kernel
theorem zd_e1 {a : Nat} (h : a < 2 ^ 31) : (nI a = -1) = False := eq_false (fun e => by
  have := congrArg Int32.toInt e
  rw [nI_toInt h, zd_toInt1] at this
  omega)
theorem zd_e1n {a : Nat} (ha : a < 2 ^ 31) (h : a ≠ 1) : (nI a = 1) = False := eq_false (fun e => h ((nI_eq (b := 1) ha (by omega)).mp e))
theorem zd_e1y {a : Nat} (h : a = 1) : (nI a = 1) = True := eq_true (by subst h; decide)
theorem zd_eln {m a : Nat} (ha : a < 2 ^ 31) (hm : m < 2 ^ 31) (h : a ≠ m) : (nI a = nI m) = False := zd_en (b := m) ha hm h
theorem zd_in {n N : Nat} (h : n < N) (hN : N < 2 ^ 31) : zIn (nI n) N = True := eq_true (zIn_n h hN)
theorem zd_sub {a : Nat} (h : 0 < a) : nI a - 1 = nI (a - 1) := by
  obtain ⟨b, rfl⟩ : ∃ b, a = b + 1 := ⟨a - 1, by omega⟩
  exact nI_pred b
theorem zd_dec {a : Nat} (h : 0 < a) : nI a + (-1) = nI (a - 1) := by
  rw [← zd_sub h, Int32.sub_eq_add_neg]
/-- what lies in range is some nI -/
theorem zIn_of {u : Int32} {n : Nat} (h : zIn u n) : ∃ j, j < n ∧ u = nI j := by
  obtain ⟨h1, h2⟩ := h
  have hu := u.toInt_lt
  refine ⟨u.toInt.toNat, by omega, Int32.toInt_inj.mp ?_⟩
  rw [nI_toInt (by omega)]
  omega
theorem zIn_iff {u : Int32} {n : Nat} : zIn u n ↔ 0 ≤ u.toInt ∧ u.toInt < n := Iff.rfl
/-- a truth as the machine has it -/
def yB (p : Prop) [Decidable p] : Int32 := if p then 1 else 0
theorem yB_0 {p : Prop} [Decidable p] : (yB p = 0) ↔ ¬ p := by
  unfold yB
  by_cases h : p
  · simp [h]
  · simp [h]
theorem yB_1 {p : Prop} [Decidable p] : (yB p = 1) ↔ p := by
  unfold yB
  by_cases h : p
  · simp [h]
  · simp [h]
theorem yB_t {p : Prop} [Decidable p] (h : p) : yB p = 1 := if_pos h
theorem yB_f {p : Prop} [Decidable p] (h : ¬ p) : yB p = 0 := if_neg h
theorem yB_01 {p : Prop} [Decidable p] : yB p = 0 ∨ yB p = 1 := by
  unfold yB
  by_cases h : p
  · right; exact if_pos h
  · left; exact if_neg h
theorem yB_congr {p q : Prop} [Decidable p] [Decidable q] (h : p ↔ q) : yB p = yB q := by
  by_cases hp : p
  · rw [yB_t hp, yB_t (h.mp hp)]
  · rw [yB_f hp, yB_f (fun x => hp (h.mpr x))]
/-- a tree that answers, and what it answers and leaves -/
def yOk (t : zTr) (Q : Int32 → zMem → Prop) : Prop := ∃ r M, t = some (r, M) ∧ Q r M
theorem yOk_some {r : Int32} {M : zMem} {Q : Int32 → zMem → Prop} (h : Q r M) : yOk (some (r, M)) Q := ⟨r, M, rfl, h⟩
theorem yOk_bd {t : zTr} {f : Int32 → zMem → zTr} {P Q : Int32 → zMem → Prop} (h : yOk t P) (h2 : ∀ r M, P r M → yOk (f r M) Q) : yOk (zBd t f) Q := by
  obtain ⟨r, M, e, hp⟩ := h
  rw [e]
  exact h2 r M hp
theorem yOk_mono {t : zTr} {P Q : Int32 → zMem → Prop} (h : yOk t P) (h2 : ∀ r M, P r M → Q r M) : yOk t Q := by
  obtain ⟨r, M, e, hp⟩ := h
  exact ⟨r, M, e, h2 r M hp⟩
theorem yOk_if {c : Prop} [Decidable c] {a b : zTr} {Q : Int32 → zMem → Prop} (h1 : c → yOk a Q) (h2 : ¬ c → yOk b Q) : yOk (if c then a else b) Q := by
  by_cases h : c
  · rw [if_pos h]; exact h1 h
  · rw [if_neg h]; exact h2 h
theorem yOk_ck {c : Prop} [Decidable c] {t : zTr} {Q : Int32 → zMem → Prop} (h : c) (h2 : yOk t Q) : yOk (zCk c t) Q := by
  rw [zCk_t h]
  exact h2
theorem yOk_eq {t u : zTr} {Q : Int32 → zMem → Prop} (e : t = u) (h : yOk u Q) : yOk t Q := by rw [e]; exact h
/-- a cell put anew -/
def yPc (M : zMem) (c : Nat) (g : Nat → Int32) : zMem := fun a b => if a = c then g b else M a b
theorem yPc_s {M : zMem} {c : Nat} {g : Nat → Int32} {i : Nat} : yPc M c g c i = g i := if_pos rfl
theorem yPc_c {M : zMem} {c b : Nat} {g : Nat → Int32} {i : Nat} (h : b ≠ c) : yPc M c g b i = M b i := if_neg h
/-- the first place from i on, k places long, that holds v; else i + k -/
def zFi (f : Nat → Int32) (v : Int32) : Nat → Nat → Nat
  | 0, i => i
  | k + 1, i => if f i = v then i else zFi f v k (i + 1)
theorem zFi_le (f : Nat → Int32) (v : Int32) : ∀ k i, i ≤ zFi f v k i ∧ zFi f v k i ≤ i + k
  | 0, i => ⟨Nat.le_refl _, Nat.le_refl _⟩
  | k + 1, i => by
    have h := zFi_le f v k (i + 1)
    unfold zFi
    by_cases q : f i = v
    · rw [if_pos q]; omega
    · rw [if_neg q]; omega
theorem zFi_at (f : Nat → Int32) (v : Int32) : ∀ k i, zFi f v k i < i + k → f (zFi f v k i) = v
  | 0, i, h => by unfold zFi at h; omega
  | k + 1, i, h => by
    unfold zFi at h ⊢
    by_cases q : f i = v
    · rw [if_pos q]; exact q
    · rw [if_neg q] at h ⊢
      exact zFi_at f v k (i + 1) (by omega)
theorem zFi_no (f : Nat → Int32) (v : Int32) : ∀ k i j, i ≤ j → j < zFi f v k i → f j ≠ v
  | 0, i, j, h1, h2 => by unfold zFi at h2; omega
  | k + 1, i, j, h1, h2 => by
    unfold zFi at h2
    by_cases q : f i = v
    · rw [if_pos q] at h2; omega
    · rw [if_neg q] at h2
      by_cases e : j = i
      · rw [e]; exact q
      · exact zFi_no f v k (i + 1) j (by omega) h2
theorem zFi_cong {f g : Nat → Int32} (v : Int32) : ∀ k i, (∀ j, i ≤ j → j < i + k → f j = g j) → zFi f v k i = zFi g v k i
  | 0, _, _ => rfl
  | k + 1, i, h => by
    unfold zFi
    rw [h i (Nat.le_refl _) (by omega), zFi_cong v k (i + 1) (fun j h1 h2 => h j (by omega) (by omega))]
/-- sums, and the first of the least -/
def zSum (g : Nat → Int32) : Nat → Int32
  | 0 => 0
  | n + 1 => zSum g n + g n
theorem zSum_cong {f g : Nat → Int32} : ∀ n, (∀ j, j < n → f j = g j) → zSum f n = zSum g n
  | 0, _ => rfl
  | n + 1, h => by
    unfold zSum
    rw [h n (by omega), zSum_cong n (fun j hj => h j (by omega))]
def zNx (g : Nat → Int32) : Nat → Nat
  | 0 => 0
  | n + 1 => if g n < g (zNx g n) then n else zNx g n
theorem zNx_lt (g : Nat → Int32) : ∀ n, 0 < n → zNx g n < n
  | 0, h => by omega
  | n + 1, _ => by
    unfold zNx
    by_cases q : g n < g (zNx g n)
    · rw [if_pos q]; omega
    · rw [if_neg q]
      cases n with
      | zero => unfold zNx; omega
      | succ n => have := zNx_lt g (n + 1) (by omega); omega
theorem zNx_le (g : Nat → Int32) (n : Nat) : zNx g n ≤ n := by
  cases n with
  | zero => unfold zNx; omega
  | succ n => have := zNx_lt g (n + 1) (by omega); omega
theorem zNx_cong {f g : Nat → Int32} : ∀ n, (∀ j, j < n → f j = g j) → zNx f n = zNx g n
  | 0, _ => rfl
  | n + 1, h => by
    cases n with
    | zero =>
      unfold zNx zNx
      simp
    | succ n =>
      have h1 := zNx_cong (n + 1) (fun j hj => h j (by omega))
      have h2 := zNx_lt g (n + 1) (by omega)
      rw [zNx, h1, h (n + 1) (by omega), h (zNx g (n + 1)) (by omega)]
      exact (zNx.eq_2 g (n + 1)).symm
