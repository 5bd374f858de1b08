/-! ===== Int32 by its bits (from the kit's rows to paste) ===== -/
def bt (x : Int32) (i : Nat) : Bool := x.toBitVec.getLsbD i
theorem b_ext {x y : Int32} (h : ∀ i, i < 32 → bt x i = bt y i) : x = y := Int32.toBitVec_inj.mp (BitVec.eq_of_getLsbD_eq (fun i hi => h i hi))
theorem b_or (x y : Int32) (i : Nat) : bt (x ||| y) i = (bt x i || bt y i) := by unfold bt; rw [Int32.toBitVec_or, BitVec.getLsbD_or]
theorem b_and (x y : Int32) (i : Nat) : bt (x &&& y) i = (bt x i && bt y i) := by unfold bt; rw [Int32.toBitVec_and, BitVec.getLsbD_and]
theorem b_xor (x y : Int32) (i : Nat) : bt (x ^^^ y) i = (bt x i ^^ bt y i) := by unfold bt; rw [Int32.toBitVec_xor, BitVec.getLsbD_xor]
theorem b_big {x : Int32} {i : Nat} (h : 32 ≤ i) : bt x i = false := BitVec.getLsbD_of_ge _ _ h
theorem b_m1 : ∀ i, i < 32 → bt (-1) i = true := by decide +kernel
theorem b_0 (i : Nat) : bt 0 i = false := BitVec.getLsbD_zero
theorem s_l : ∀ n, n < 32 → ((nI n &&& 31).toBitVec.smod 32).toNat = n := by decide +kernel
theorem s_u : ∀ n, n < 32 → (((nI n).toUInt32 &&& Int32.toUInt32 31).toBitVec % 32).toNat = n := by decide +kernel
theorem b_shl (n : Nat) (hn : n < 32) (x : Int32) {i : Nat} (hi : i < 32) : bt (x <<< (nI n &&& 31)) i = (decide (n ≤ i) && bt x (i - n)) := by
  unfold bt
  rw [Int32.toBitVec_shiftLeft]
  show (x.toBitVec <<< ((nI n &&& 31).toBitVec.smod 32).toNat).getLsbD i = _
  rw [s_l n hn, BitVec.getLsbD_shiftLeft]
  rcases Nat.lt_or_ge i n with h | h
  · simp [h, Nat.not_le.mpr h]
  · simp [hi, h, Nat.not_lt.mpr h]
theorem b_ushr (n : Nat) (hn : n < 32) (x : Int32) (i : Nat) : bt ((x.toUInt32 >>> ((nI n).toUInt32 &&& Int32.toUInt32 31)).toInt32) i = bt x (n + i) := by
  show (x.toUInt32 >>> ((nI n).toUInt32 &&& Int32.toUInt32 31)).toBitVec.getLsbD i = x.toUInt32.toBitVec.getLsbD (n + i)
  rw [UInt32.toBitVec_shiftRight]
  show (x.toUInt32.toBitVec >>> (((nI n).toUInt32 &&& Int32.toUInt32 31).toBitVec % 32).toNat).getLsbD i = _
  rw [s_u n hn, BitVec.getLsbD_ushiftRight]
theorem b_sshr (n : Nat) (hn : n < 32) (x : Int32) {i : Nat} (hi : i < 32) : bt (x >>> (nI n &&& 31)) i = if n + i < 32 then bt x (n + i) else bt x 31 := by
  unfold bt
  rw [Int32.toBitVec_shiftRight]
  show (x.toBitVec.sshiftRight ((nI n &&& 31).toBitVec.smod 32).toNat).getLsbD i = _
  rw [s_l n hn, BitVec.getLsbD_sshiftRight, BitVec.msb_eq_getLsbD_last]
  simp [hi]
theorem b_1 (i : Nat) : bt 1 i = decide (i = 0) := by
  rcases Nat.lt_or_ge i 32 with h | h
  · exact (by decide +kernel : ∀ i, i < 32 → bt 1 i = decide (i = 0)) i h
  · rw [b_big h, decide_eq_false (by omega)]
/-- one bit: both shifts show it -/
theorem b_bitu (x : Int32) {j : Nat} (hj : j < 32) : (zUsr x (nI j) &&& 1) = yB (bt x j = true) := by
  refine b_ext (fun i hi => ?_)
  rw [b_and, b_ushr j hj, b_1]
  by_cases h0 : i = 0
  · subst h0
    rw [Nat.add_zero]
    by_cases q : bt x j = true
    · rw [yB_t q, q, b_1]
      rfl
    · rw [yB_f q, b_0]
      rw [Bool.not_eq_true] at q
      rw [q]
      rfl
  · rw [decide_eq_false h0, Bool.and_false]
    by_cases q : bt x j = true
    · rw [yB_t q, b_1, decide_eq_false h0]
    · rw [yB_f q, b_0]
theorem b_bits (x : Int32) {j : Nat} (hj : j < 31) : ((x >>> (nI j &&& 31)) &&& 1) = yB (bt x j = true) := by
  refine b_ext (fun i hi => ?_)
  rw [b_and, b_sshr j (by omega) x hi, b_1]
  by_cases h0 : i = 0
  · subst h0
    rw [Nat.add_zero, if_pos (by omega)]
    by_cases q : bt x j = true
    · rw [yB_t q, q, b_1]
      rfl
    · rw [yB_f q, b_0]
      rw [Bool.not_eq_true] at q
      rw [q]
      rfl
  · rw [decide_eq_false h0, Bool.and_false]
    by_cases q : bt x j = true
    · rw [yB_t q, b_1, decide_eq_false h0]
    · rw [yB_f q, b_0]
/-- no bit from 24 on -/
def z24 (x : Int32) : Prop := ∀ i, 24 ≤ i → bt x i = false
theorem z24_sh (x : Int32) : (x >>> (24 &&& 31)) = 0 ↔ z24 x := by
  show (x >>> (nI 24 &&& 31)) = 0 ↔ _
  constructor
  · intro h i hi
    rcases Nat.lt_or_ge i 32 with h32 | h32
    · have := congrArg (fun y => bt y (i - 24)) h
      simp only [b_0] at this
      rw [b_sshr 24 (by omega) x (by omega), if_pos (by omega), show 24 + (i - 24) = i by omega] at this
      exact this
    · exact b_big h32
  · intro h
    refine b_ext (fun i hi => ?_)
    rw [b_sshr 24 (by omega) x hi, b_0]
    by_cases q : 24 + i < 32
    · rw [if_pos q, h _ (by omega)]
    · rw [if_neg q, h _ (by omega)]
theorem zd_land1 {b x m : Nat} (h : b < 2) : (b + 2 * x) &&& (1 + 2 * m) = b + 2 * (x &&& m) := by
  refine Nat.eq_of_testBit_eq (fun i => ?_)
  cases i with
  | zero =>
    rw [Nat.testBit_and]
    simp only [Nat.testBit_zero]
    have e1 : (b + 2 * x) % 2 = b := by omega
    have e2 : (1 + 2 * m) % 2 = 1 := by omega
    have e3 : (b + 2 * (x &&& m)) % 2 = b := by omega
    rw [e1, e2, e3]
    simp
  | succ i =>
    rw [Nat.testBit_and]
    simp only [Nat.testBit_succ]
    rw [show (b + 2 * x) / 2 = x by omega, show (1 + 2 * m) / 2 = m by omega, show (b + 2 * (x &&& m)) / 2 = (x &&& m) by omega, Nat.testBit_and]
theorem zd_land0 {b x m : Nat} (h : b < 2) : (b + 2 * x) &&& (2 * m) = 2 * (x &&& m) := by
  refine Nat.eq_of_testBit_eq (fun i => ?_)
  cases i with
  | zero =>
    rw [Nat.testBit_and]
    simp only [Nat.testBit_zero]
    have e2 : (2 * m) % 2 = 0 := by omega
    have e3 : (2 * (x &&& m)) % 2 = 0 := by omega
    rw [e2, e3]
    simp
  | succ i =>
    rw [Nat.testBit_and]
    simp only [Nat.testBit_succ]
    rw [show (b + 2 * x) / 2 = x by omega, show (2 * m) / 2 = m by omega, show (2 * (x &&& m)) / 2 = (x &&& m) by omega, Nat.testBit_and]
/-- a field of four, of sixteen -/
theorem zd_land3 {c x m : Nat} (h : c < 4) : (c + 4 * x) &&& (3 + 4 * m) = c + 4 * (x &&& m) := by
  have e1 : c + 4 * x = c % 2 + 2 * (c / 2 + 2 * x) := by omega
  have e2 : 3 + 4 * m = 1 + 2 * (1 + 2 * m) := by omega
  rw [e1, e2, zd_land1 (by omega), zd_land1 (by omega)]
  omega
theorem zd_land3z {c x m : Nat} (h : c < 4) : (c + 4 * x) &&& (4 * m) = 4 * (x &&& m) := by
  have e1 : c + 4 * x = c % 2 + 2 * (c / 2 + 2 * x) := by omega
  have e2 : 4 * m = 2 * (2 * m) := by omega
  rw [e1, e2, zd_land0 (by omega), zd_land0 (by omega)]
  omega
theorem zd_land15 {c x m : Nat} (h : c < 16) : (c + 16 * x) &&& (15 + 16 * m) = c + 16 * (x &&& m) := by
  have e1 : c + 16 * x = c % 4 + 4 * (c / 4 + 4 * x) := by omega
  have e2 : 15 + 16 * m = 3 + 4 * (3 + 4 * m) := by omega
  rw [e1, e2, zd_land3 (by omega), zd_land3 (by omega)]
  omega
theorem zd_land15z {c x m : Nat} (h : c < 16) : (c + 16 * x) &&& (16 * m) = 16 * (x &&& m) := by
  have e1 : c + 16 * x = c % 4 + 4 * (c / 4 + 4 * x) := by omega
  have e2 : 16 * m = 4 * (4 * m) := by omega
  rw [e1, e2, zd_land3z (by omega), zd_land3z (by omega)]
  omega
