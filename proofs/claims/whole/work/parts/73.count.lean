/-! the bits of a number counted, as the library counts them -/
theorem bt_nI (x i : Nat) : bt (nI x) i = (decide (i < 32) && x.testBit i) := by
  show (BitVec.ofNat 32 x).getLsbD i = _
  rw [BitVec.getLsbD_ofNat]
theorem n_and (a b : Nat) : nI a &&& nI b = nI (a &&& b) := by
  refine b_ext (fun i hi => ?_)
  rw [b_and, bt_nI, bt_nI, bt_nI, Nat.testBit_and]
  simp [hi]
theorem n_ush {x j : Nat} (hx : x < 2 ^ 32) (hj : j < 32) : zUsr (nI x) (nI j) = nI (x / 2 ^ j) := by
  refine b_ext (fun i hi => ?_)
  rw [b_ushr j hj, bt_nI, bt_nI, Nat.testBit_div_two_pow]
  by_cases q : j + i < 32
  · rw [decide_eq_true q, decide_eq_true hi, Nat.add_comm j i]
  · rw [decide_eq_false q, Bool.false_and]
    have : x.testBit (i + j) = false := Nat.testBit_lt_two_pow (Nat.lt_of_lt_of_le hx (Nat.pow_le_pow_right (by omega) (by omega)))
    rw [this, Bool.and_false]
theorem n_sub {a b : Nat} (h : b ≤ a) : nI a - nI b = nI (a - b) := by
  have e : nI a = nI (a - b) + nI b := by
    rw [nI_add]
    congr 1
    omega
  rw [e, Int32.add_sub_cancel]
def zc1 (u : Int32) : Int32 := u - (zUsr u 1 &&& 1431655765)
def zc2 (y : Int32) : Int32 := (y &&& 858993459) + (zUsr y 2 &&& 858993459)
def zc3 (z : Int32) : Int32 := (z + zUsr z 4) &&& 252645135
def zc4 (w : Int32) : Int32 := w + zUsr w 8
def zc5 (v : Int32) : Int32 := (v + zUsr v 16) &&& 63
theorem zBc_eq (u : Int32) : zBc u = zc5 (zc4 (zc3 (zc2 (zc1 u)))) := rfl
set_option maxHeartbeats 400000 in
theorem pc_1 {b0 b1 b2 b3 b4 b5 b6 b7 b8 b9 b10 b11 b12 b13 b14 b15 b16 b17 b18 b19 b20 b21 b22 b23 : Nat} (h0 : b0 < 2) (h1 : b1 < 2) (h2 : b2 < 2) (h3 : b3 < 2) (h4 : b4 < 2) (h5 : b5 < 2) (h6 : b6 < 2) (h7 : b7 < 2) (h8 : b8 < 2) (h9 : b9 < 2) (h10 : b10 < 2) (h11 : b11 < 2) (h12 : b12 < 2) (h13 : b13 < 2) (h14 : b14 < 2) (h15 : b15 < 2) (h16 : b16 < 2) (h17 : b17 < 2) (h18 : b18 < 2) (h19 : b19 < 2) (h20 : b20 < 2) (h21 : b21 < 2) (h22 : b22 < 2) (h23 : b23 < 2) : zc1 (nI (b0 + 2 * b1 + 4 * b2 + 8 * b3 + 16 * b4 + 32 * b5 + 64 * b6 + 128 * b7 + 256 * b8 + 512 * b9 + 1024 * b10 + 2048 * b11 + 4096 * b12 + 8192 * b13 + 16384 * b14 + 32768 * b15 + 65536 * b16 + 131072 * b17 + 262144 * b18 + 524288 * b19 + 1048576 * b20 + 2097152 * b21 + 4194304 * b22 + 8388608 * b23)) = nI ((b0 + b1) + 4 * (b2 + b3) + 16 * (b4 + b5) + 64 * (b6 + b7) + 256 * (b8 + b9) + 1024 * (b10 + b11) + 4096 * (b12 + b13) + 16384 * (b14 + b15) + 65536 * (b16 + b17) + 262144 * (b18 + b19) + 1048576 * (b20 + b21) + 4194304 * (b22 + b23)) := by
  have e1 : zUsr (nI (b0 + 2 * b1 + 4 * b2 + 8 * b3 + 16 * b4 + 32 * b5 + 64 * b6 + 128 * b7 + 256 * b8 + 512 * b9 + 1024 * b10 + 2048 * b11 + 4096 * b12 + 8192 * b13 + 16384 * b14 + 32768 * b15 + 65536 * b16 + 131072 * b17 + 262144 * b18 + 524288 * b19 + 1048576 * b20 + 2097152 * b21 + 4194304 * b22 + 8388608 * b23)) 1 = nI (b1 + 2 * b2 + 4 * b3 + 8 * b4 + 16 * b5 + 32 * b6 + 64 * b7 + 128 * b8 + 256 * b9 + 512 * b10 + 1024 * b11 + 2048 * b12 + 4096 * b13 + 8192 * b14 + 16384 * b15 + 32768 * b16 + 65536 * b17 + 131072 * b18 + 262144 * b19 + 524288 * b20 + 1048576 * b21 + 2097152 * b22 + 4194304 * b23) := by
    rw [show (1 : Int32) = nI 1 from rfl, n_ush (x := (b0 + 2 * b1 + 4 * b2 + 8 * b3 + 16 * b4 + 32 * b5 + 64 * b6 + 128 * b7 + 256 * b8 + 512 * b9 + 1024 * b10 + 2048 * b11 + 4096 * b12 + 8192 * b13 + 16384 * b14 + 32768 * b15 + 65536 * b16 + 131072 * b17 + 262144 * b18 + 524288 * b19 + 1048576 * b20 + 2097152 * b21 + 4194304 * b22 + 8388608 * b23)) (by omega) (by omega)]
    congr 1
    omega
  have e2 : (b1 + 2 * b2 + 4 * b3 + 8 * b4 + 16 * b5 + 32 * b6 + 64 * b7 + 128 * b8 + 256 * b9 + 512 * b10 + 1024 * b11 + 2048 * b12 + 4096 * b13 + 8192 * b14 + 16384 * b15 + 32768 * b16 + 65536 * b17 + 131072 * b18 + 262144 * b19 + 524288 * b20 + 1048576 * b21 + 2097152 * b22 + 4194304 * b23) &&& 1431655765 = (b1 + 4 * b3 + 16 * b5 + 64 * b7 + 256 * b9 + 1024 * b11 + 4096 * b13 + 16384 * b15 + 65536 * b17 + 262144 * b19 + 1048576 * b21 + 4194304 * b23) := by
    have e3 : (b1 + 2 * b2 + 4 * b3 + 8 * b4 + 16 * b5 + 32 * b6 + 64 * b7 + 128 * b8 + 256 * b9 + 512 * b10 + 1024 * b11 + 2048 * b12 + 4096 * b13 + 8192 * b14 + 16384 * b15 + 32768 * b16 + 65536 * b17 + 131072 * b18 + 262144 * b19 + 524288 * b20 + 1048576 * b21 + 2097152 * b22 + 4194304 * b23) = (b1 + 2 * (b2 + 2 * (b3 + 2 * (b4 + 2 * (b5 + 2 * (b6 + 2 * (b7 + 2 * (b8 + 2 * (b9 + 2 * (b10 + 2 * (b11 + 2 * (b12 + 2 * (b13 + 2 * (b14 + 2 * (b15 + 2 * (b16 + 2 * (b17 + 2 * (b18 + 2 * (b19 + 2 * (b20 + 2 * (b21 + 2 * (b22 + 2 * (b23 + 2 * 0))))))))))))))))))))))) := by simp only [Nat.mul_add, ← Nat.mul_assoc, Nat.reduceMul, Nat.mul_zero, Nat.add_zero, ← Nat.add_assoc]
    rw [e3, show 1431655765 = (1 + 2 * (2 * (1 + 2 * (2 * (1 + 2 * (2 * (1 + 2 * (2 * (1 + 2 * (2 * (1 + 2 * (2 * (1 + 2 * (2 * (1 + 2 * (2 * (1 + 2 * (2 * (1 + 2 * (2 * (1 + 2 * (2 * (1 + 2 * 170))))))))))))))))))))))) from rfl]
    simp (disch := assumption) only [zd_land1, zd_land0, Nat.zero_and]
    simp only [Nat.mul_add, ← Nat.mul_assoc, Nat.reduceMul, Nat.mul_zero, Nat.add_zero, ← Nat.add_assoc]
  unfold zc1
  rw [e1, show (1431655765 : Int32) = nI 1431655765 from rfl, n_and, e2, n_sub (by omega)]
  congr 1
  omega
set_option maxHeartbeats 400000 in
theorem pc_2 {c0 c1 c2 c3 c4 c5 c6 c7 c8 c9 c10 c11 : Nat} (h0 : c0 ≤ 2) (h1 : c1 ≤ 2) (h2 : c2 ≤ 2) (h3 : c3 ≤ 2) (h4 : c4 ≤ 2) (h5 : c5 ≤ 2) (h6 : c6 ≤ 2) (h7 : c7 ≤ 2) (h8 : c8 ≤ 2) (h9 : c9 ≤ 2) (h10 : c10 ≤ 2) (h11 : c11 ≤ 2) : zc2 (nI (c0 + 4 * c1 + 16 * c2 + 64 * c3 + 256 * c4 + 1024 * c5 + 4096 * c6 + 16384 * c7 + 65536 * c8 + 262144 * c9 + 1048576 * c10 + 4194304 * c11)) = nI ((c0 + c1) + 16 * (c2 + c3) + 256 * (c4 + c5) + 4096 * (c6 + c7) + 65536 * (c8 + c9) + 1048576 * (c10 + c11)) := by
  have g0 : c0 < 4 := by omega
  have g1 : c1 < 4 := by omega
  have g2 : c2 < 4 := by omega
  have g3 : c3 < 4 := by omega
  have g4 : c4 < 4 := by omega
  have g5 : c5 < 4 := by omega
  have g6 : c6 < 4 := by omega
  have g7 : c7 < 4 := by omega
  have g8 : c8 < 4 := by omega
  have g9 : c9 < 4 := by omega
  have g10 : c10 < 4 := by omega
  have g11 : c11 < 4 := by omega
  have e1 : zUsr (nI (c0 + 4 * c1 + 16 * c2 + 64 * c3 + 256 * c4 + 1024 * c5 + 4096 * c6 + 16384 * c7 + 65536 * c8 + 262144 * c9 + 1048576 * c10 + 4194304 * c11)) 2 = nI (c1 + 4 * c2 + 16 * c3 + 64 * c4 + 256 * c5 + 1024 * c6 + 4096 * c7 + 16384 * c8 + 65536 * c9 + 262144 * c10 + 1048576 * c11) := by
    rw [show (2 : Int32) = nI 2 from rfl, n_ush (x := (c0 + 4 * c1 + 16 * c2 + 64 * c3 + 256 * c4 + 1024 * c5 + 4096 * c6 + 16384 * c7 + 65536 * c8 + 262144 * c9 + 1048576 * c10 + 4194304 * c11)) (by omega) (by omega)]
    congr 1
    omega
  have e2 : (c0 + 4 * c1 + 16 * c2 + 64 * c3 + 256 * c4 + 1024 * c5 + 4096 * c6 + 16384 * c7 + 65536 * c8 + 262144 * c9 + 1048576 * c10 + 4194304 * c11) &&& 858993459 = (c0 + 16 * c2 + 256 * c4 + 4096 * c6 + 65536 * c8 + 1048576 * c10) := by
    have e4 : (c0 + 4 * c1 + 16 * c2 + 64 * c3 + 256 * c4 + 1024 * c5 + 4096 * c6 + 16384 * c7 + 65536 * c8 + 262144 * c9 + 1048576 * c10 + 4194304 * c11) = (c0 + 4 * (c1 + 4 * (c2 + 4 * (c3 + 4 * (c4 + 4 * (c5 + 4 * (c6 + 4 * (c7 + 4 * (c8 + 4 * (c9 + 4 * (c10 + 4 * (c11 + 4 * 0)))))))))))) := by simp only [Nat.mul_add, ← Nat.mul_assoc, Nat.reduceMul, Nat.mul_zero, Nat.add_zero, ← Nat.add_assoc]
    rw [e4, show 858993459 = (3 + 4 * (4 * (3 + 4 * (4 * (3 + 4 * (4 * (3 + 4 * (4 * (3 + 4 * (4 * (3 + 4 * (4 * 51)))))))))))) from rfl]
    simp (disch := assumption) only [zd_land3, zd_land3z, Nat.zero_and]
    simp only [Nat.mul_add, ← Nat.mul_assoc, Nat.reduceMul, Nat.mul_zero, Nat.add_zero, ← Nat.add_assoc]
  have e3 : (c1 + 4 * c2 + 16 * c3 + 64 * c4 + 256 * c5 + 1024 * c6 + 4096 * c7 + 16384 * c8 + 65536 * c9 + 262144 * c10 + 1048576 * c11) &&& 858993459 = (c1 + 16 * c3 + 256 * c5 + 4096 * c7 + 65536 * c9 + 1048576 * c11) := by
    have e4 : (c1 + 4 * c2 + 16 * c3 + 64 * c4 + 256 * c5 + 1024 * c6 + 4096 * c7 + 16384 * c8 + 65536 * c9 + 262144 * c10 + 1048576 * c11) = (c1 + 4 * (c2 + 4 * (c3 + 4 * (c4 + 4 * (c5 + 4 * (c6 + 4 * (c7 + 4 * (c8 + 4 * (c9 + 4 * (c10 + 4 * (c11 + 4 * 0))))))))))) := by simp only [Nat.mul_add, ← Nat.mul_assoc, Nat.reduceMul, Nat.mul_zero, Nat.add_zero, ← Nat.add_assoc]
    rw [e4, show 858993459 = (3 + 4 * (4 * (3 + 4 * (4 * (3 + 4 * (4 * (3 + 4 * (4 * (3 + 4 * (4 * (3 + 4 * 204))))))))))) from rfl]
    simp (disch := assumption) only [zd_land3, zd_land3z, Nat.zero_and]
    simp only [Nat.mul_add, ← Nat.mul_assoc, Nat.reduceMul, Nat.mul_zero, Nat.add_zero, ← Nat.add_assoc]
  unfold zc2
  rw [e1, show (858993459 : Int32) = nI 858993459 from rfl, n_and, n_and, e2, e3, nI_add]
  congr 1
  omega
set_option maxHeartbeats 400000 in
theorem pc_3 {f0 f1 f2 f3 f4 f5 : Nat} (h0 : f0 ≤ 4) (h1 : f1 ≤ 4) (h2 : f2 ≤ 4) (h3 : f3 ≤ 4) (h4 : f4 ≤ 4) (h5 : f5 ≤ 4) : zc5 (zc4 (zc3 (nI (f0 + 16 * f1 + 256 * f2 + 4096 * f3 + 65536 * f4 + 1048576 * f5)))) = nI (f0 + f1 + f2 + f3 + f4 + f5) := by
  have g0 : f0 + f1 < 16 := by omega
  have g1 : f1 + f2 < 16 := by omega
  have g2 : f2 + f3 < 16 := by omega
  have g3 : f3 + f4 < 16 := by omega
  have g4 : f4 + f5 < 16 := by omega
  have g5 : f5 < 16 := by omega
  have e1 : nI (f0 + 16 * f1 + 256 * f2 + 4096 * f3 + 65536 * f4 + 1048576 * f5) + zUsr (nI (f0 + 16 * f1 + 256 * f2 + 4096 * f3 + 65536 * f4 + 1048576 * f5)) 4 = nI ((f0 + f1) + 16 * (f1 + f2) + 256 * (f2 + f3) + 4096 * (f3 + f4) + 65536 * (f4 + f5) + 1048576 * f5) := by
    rw [show (4 : Int32) = nI 4 from rfl, n_ush (x := (f0 + 16 * f1 + 256 * f2 + 4096 * f3 + 65536 * f4 + 1048576 * f5)) (by omega) (by omega), nI_add]
    congr 1
    omega
  have e2 : ((f0 + f1) + 16 * (f1 + f2) + 256 * (f2 + f3) + 4096 * (f3 + f4) + 65536 * (f4 + f5) + 1048576 * f5) &&& 252645135 = (f0 + f1) + 256 * (f2 + f3) + 65536 * (f4 + f5) := by
    have e4 : ((f0 + f1) + 16 * (f1 + f2) + 256 * (f2 + f3) + 4096 * (f3 + f4) + 65536 * (f4 + f5) + 1048576 * f5) = ((f0 + f1) + 16 * ((f1 + f2) + 16 * ((f2 + f3) + 16 * ((f3 + f4) + 16 * ((f4 + f5) + 16 * (f5 + 16 * 0)))))) := by omega
    rw [e4, show 252645135 = (15 + 16 * (16 * (15 + 16 * (16 * (15 + 16 * (16 * 15)))))) from rfl]
    simp (disch := assumption) only [zd_land15, zd_land15z, Nat.zero_and]
    omega
  unfold zc3
  rw [e1, show (252645135 : Int32) = nI 252645135 from rfl, n_and, e2]
  have e4 : zc4 (nI ((f0 + f1) + 256 * (f2 + f3) + 65536 * (f4 + f5))) = nI ((f0 + f1 + f2 + f3) + 256 * (f2 + f3 + f4 + f5) + 65536 * (f4 + f5)) := by
    unfold zc4
    rw [show (8 : Int32) = nI 8 from rfl, n_ush (by omega) (by omega), nI_add]
    congr 1
    omega
  rw [e4]
  unfold zc5
  rw [show (16 : Int32) = nI 16 from rfl, n_ush (by omega) (by omega), nI_add, show (63 : Int32) = nI 63 from rfl, n_and]
  congr 1
  rw [show 63 = 2 ^ 6 - 1 from rfl, Nat.and_two_pow_sub_one_eq_mod]
  clear e1 e2 e4
  have hg : (f0 + f1 + f2 + f3 + 256 * (f2 + f3 + f4 + f5) + 65536 * (f4 + f5)) / 2 ^ 16 = f4 + f5 := by omega
  rw [hg]
  omega
set_option maxHeartbeats 400000 in
theorem pc_all {b0 b1 b2 b3 b4 b5 b6 b7 b8 b9 b10 b11 b12 b13 b14 b15 b16 b17 b18 b19 b20 b21 b22 b23 : Nat} (h0 : b0 < 2) (h1 : b1 < 2) (h2 : b2 < 2) (h3 : b3 < 2) (h4 : b4 < 2) (h5 : b5 < 2) (h6 : b6 < 2) (h7 : b7 < 2) (h8 : b8 < 2) (h9 : b9 < 2) (h10 : b10 < 2) (h11 : b11 < 2) (h12 : b12 < 2) (h13 : b13 < 2) (h14 : b14 < 2) (h15 : b15 < 2) (h16 : b16 < 2) (h17 : b17 < 2) (h18 : b18 < 2) (h19 : b19 < 2) (h20 : b20 < 2) (h21 : b21 < 2) (h22 : b22 < 2) (h23 : b23 < 2) : zBc (nI (b0 + 2 * b1 + 4 * b2 + 8 * b3 + 16 * b4 + 32 * b5 + 64 * b6 + 128 * b7 + 256 * b8 + 512 * b9 + 1024 * b10 + 2048 * b11 + 4096 * b12 + 8192 * b13 + 16384 * b14 + 32768 * b15 + 65536 * b16 + 131072 * b17 + 262144 * b18 + 524288 * b19 + 1048576 * b20 + 2097152 * b21 + 4194304 * b22 + 8388608 * b23)) = nI (b0 + b1 + b2 + b3 + b4 + b5 + b6 + b7 + b8 + b9 + b10 + b11 + b12 + b13 + b14 + b15 + b16 + b17 + b18 + b19 + b20 + b21 + b22 + b23) := by
  rw [zBc_eq, pc_1 h0 h1 h2 h3 h4 h5 h6 h7 h8 h9 h10 h11 h12 h13 h14 h15 h16 h17 h18 h19 h20 h21 h22 h23, pc_2 (by omega) (by omega) (by omega) (by omega) (by omega) (by omega) (by omega) (by omega) (by omega) (by omega) (by omega) (by omega), pc_3 (by omega) (by omega) (by omega) (by omega) (by omega) (by omega)]
  congr 1
  omega
set_option maxHeartbeats 400000 in
theorem pc_nat {t : Nat} (ht : t < 2 ^ 24) : zBc (nI t) = nI (t / 1 % 2 + t / 2 % 2 + t / 4 % 2 + t / 8 % 2 + t / 16 % 2 + t / 32 % 2 + t / 64 % 2 + t / 128 % 2 + t / 256 % 2 + t / 512 % 2 + t / 1024 % 2 + t / 2048 % 2 + t / 4096 % 2 + t / 8192 % 2 + t / 16384 % 2 + t / 32768 % 2 + t / 65536 % 2 + t / 131072 % 2 + t / 262144 % 2 + t / 524288 % 2 + t / 1048576 % 2 + t / 2097152 % 2 + t / 4194304 % 2 + t / 8388608 % 2) := by
  have e : t = ((t / 1 % 2) + 2 * (t / 2 % 2) + 4 * (t / 4 % 2) + 8 * (t / 8 % 2) + 16 * (t / 16 % 2) + 32 * (t / 32 % 2) + 64 * (t / 64 % 2) + 128 * (t / 128 % 2) + 256 * (t / 256 % 2) + 512 * (t / 512 % 2) + 1024 * (t / 1024 % 2) + 2048 * (t / 2048 % 2) + 4096 * (t / 4096 % 2) + 8192 * (t / 8192 % 2) + 16384 * (t / 16384 % 2) + 32768 * (t / 32768 % 2) + 65536 * (t / 65536 % 2) + 131072 * (t / 131072 % 2) + 262144 * (t / 262144 % 2) + 524288 * (t / 524288 % 2) + 1048576 * (t / 1048576 % 2) + 2097152 * (t / 2097152 % 2) + 4194304 * (t / 4194304 % 2) + 8388608 * (t / 8388608 % 2)) := by
    have d : ∀ x, x = x % 2 + 2 * (x / 2) := fun x => by omega
    have q0 : t / 1 = t / 1 % 2 + 2 * (t / 2) := by have := d (t / 1); rw [Nat.div_div_eq_div_mul] at this; exact this
    have q1 : t / 2 = t / 2 % 2 + 2 * (t / 4) := by have := d (t / 2); rw [Nat.div_div_eq_div_mul] at this; exact this
    have q2 : t / 4 = t / 4 % 2 + 2 * (t / 8) := by have := d (t / 4); rw [Nat.div_div_eq_div_mul] at this; exact this
    have q3 : t / 8 = t / 8 % 2 + 2 * (t / 16) := by have := d (t / 8); rw [Nat.div_div_eq_div_mul] at this; exact this
    have q4 : t / 16 = t / 16 % 2 + 2 * (t / 32) := by have := d (t / 16); rw [Nat.div_div_eq_div_mul] at this; exact this
    have q5 : t / 32 = t / 32 % 2 + 2 * (t / 64) := by have := d (t / 32); rw [Nat.div_div_eq_div_mul] at this; exact this
    have q6 : t / 64 = t / 64 % 2 + 2 * (t / 128) := by have := d (t / 64); rw [Nat.div_div_eq_div_mul] at this; exact this
    have q7 : t / 128 = t / 128 % 2 + 2 * (t / 256) := by have := d (t / 128); rw [Nat.div_div_eq_div_mul] at this; exact this
    have q8 : t / 256 = t / 256 % 2 + 2 * (t / 512) := by have := d (t / 256); rw [Nat.div_div_eq_div_mul] at this; exact this
    have q9 : t / 512 = t / 512 % 2 + 2 * (t / 1024) := by have := d (t / 512); rw [Nat.div_div_eq_div_mul] at this; exact this
    have q10 : t / 1024 = t / 1024 % 2 + 2 * (t / 2048) := by have := d (t / 1024); rw [Nat.div_div_eq_div_mul] at this; exact this
    have q11 : t / 2048 = t / 2048 % 2 + 2 * (t / 4096) := by have := d (t / 2048); rw [Nat.div_div_eq_div_mul] at this; exact this
    have q12 : t / 4096 = t / 4096 % 2 + 2 * (t / 8192) := by have := d (t / 4096); rw [Nat.div_div_eq_div_mul] at this; exact this
    have q13 : t / 8192 = t / 8192 % 2 + 2 * (t / 16384) := by have := d (t / 8192); rw [Nat.div_div_eq_div_mul] at this; exact this
    have q14 : t / 16384 = t / 16384 % 2 + 2 * (t / 32768) := by have := d (t / 16384); rw [Nat.div_div_eq_div_mul] at this; exact this
    have q15 : t / 32768 = t / 32768 % 2 + 2 * (t / 65536) := by have := d (t / 32768); rw [Nat.div_div_eq_div_mul] at this; exact this
    have q16 : t / 65536 = t / 65536 % 2 + 2 * (t / 131072) := by have := d (t / 65536); rw [Nat.div_div_eq_div_mul] at this; exact this
    have q17 : t / 131072 = t / 131072 % 2 + 2 * (t / 262144) := by have := d (t / 131072); rw [Nat.div_div_eq_div_mul] at this; exact this
    have q18 : t / 262144 = t / 262144 % 2 + 2 * (t / 524288) := by have := d (t / 262144); rw [Nat.div_div_eq_div_mul] at this; exact this
    have q19 : t / 524288 = t / 524288 % 2 + 2 * (t / 1048576) := by have := d (t / 524288); rw [Nat.div_div_eq_div_mul] at this; exact this
    have q20 : t / 1048576 = t / 1048576 % 2 + 2 * (t / 2097152) := by have := d (t / 1048576); rw [Nat.div_div_eq_div_mul] at this; exact this
    have q21 : t / 2097152 = t / 2097152 % 2 + 2 * (t / 4194304) := by have := d (t / 2097152); rw [Nat.div_div_eq_div_mul] at this; exact this
    have q22 : t / 4194304 = t / 4194304 % 2 + 2 * (t / 8388608) := by have := d (t / 4194304); rw [Nat.div_div_eq_div_mul] at this; exact this
    have q23 : t / 8388608 = t / 8388608 % 2 + 2 * (t / 16777216) := by have := d (t / 8388608); rw [Nat.div_div_eq_div_mul] at this; exact this
    have z : t / 16777216 = 0 := Nat.div_eq_of_lt ht
    have z1 : t / 1 = t := Nat.div_one t
    omega
  have h := pc_all (b0 := t / 1 % 2) (b1 := t / 2 % 2) (b2 := t / 4 % 2) (b3 := t / 8 % 2) (b4 := t / 16 % 2) (b5 := t / 32 % 2) (b6 := t / 64 % 2) (b7 := t / 128 % 2) (b8 := t / 256 % 2) (b9 := t / 512 % 2) (b10 := t / 1024 % 2) (b11 := t / 2048 % 2) (b12 := t / 4096 % 2) (b13 := t / 8192 % 2) (b14 := t / 16384 % 2) (b15 := t / 32768 % 2) (b16 := t / 65536 % 2) (b17 := t / 131072 % 2) (b18 := t / 262144 % 2) (b19 := t / 524288 % 2) (b20 := t / 1048576 % 2) (b21 := t / 2097152 % 2) (b22 := t / 4194304 % 2) (b23 := t / 8388608 % 2) (Nat.mod_lt _ (by decide)) (Nat.mod_lt _ (by decide)) (Nat.mod_lt _ (by decide)) (Nat.mod_lt _ (by decide)) (Nat.mod_lt _ (by decide)) (Nat.mod_lt _ (by decide)) (Nat.mod_lt _ (by decide)) (Nat.mod_lt _ (by decide)) (Nat.mod_lt _ (by decide)) (Nat.mod_lt _ (by decide)) (Nat.mod_lt _ (by decide)) (Nat.mod_lt _ (by decide)) (Nat.mod_lt _ (by decide)) (Nat.mod_lt _ (by decide)) (Nat.mod_lt _ (by decide)) (Nat.mod_lt _ (by decide)) (Nat.mod_lt _ (by decide)) (Nat.mod_lt _ (by decide)) (Nat.mod_lt _ (by decide)) (Nat.mod_lt _ (by decide)) (Nat.mod_lt _ (by decide)) (Nat.mod_lt _ (by decide)) (Nat.mod_lt _ (by decide)) (Nat.mod_lt _ (by decide))
  rw [← e] at h
  exact h
