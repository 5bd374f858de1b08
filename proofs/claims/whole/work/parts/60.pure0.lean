/-! ===== LAYER 2: pure facts of the trees ===== -/
theorem zBd_some {r : Int32} {M : zMem} {g : Int32 → zMem → zTr} : zBd (some (r, M)) g = g r M := rfl
theorem zLt_eq {x : zMem} {f : zMem → zTr} : zLt x f = f x := rfl
theorem zCk_t {c : Prop} [Decidable c] {t : zTr} (h : c) : zCk c t = t := if_pos h
theorem zUp_s {M : zMem} {c i : Nat} {v : Int32} : zUp M c i v c i = v := if_pos ⟨rfl, rfl⟩
theorem zUp_i {M : zMem} {c i j : Nat} {v : Int32} (h : j ≠ i) : zUp M c i v c j = M c j := if_neg (fun q => h q.2)
theorem zUp_c {M : zMem} {c b i j : Nat} {v : Int32} (h : b ≠ c) : zUp M c i v b j = M b j := if_neg (fun q => h q.1)
theorem zIn_n {n N : Nat} (h : n < N) (hN : N < 2 ^ 31) : zIn (nI n) N := by
  rw [zIn, nI_toInt (by omega)]
  omega
theorem zIx_n {n : Nat} (h : n < 2 ^ 31) : zIx (nI n) = n := nI_clamp h
/-- the tape of the class takes four bytes -/
theorem append_1 {u x : Int32} {M : zMem} {n k : Nat} (hM : M 1 1 = nI k) (hk : k < 600) (hx : ¬ x < 0) : f_X8_append_L3 u (n + 1) x M = f_X8_append_L3 u n (x + (-8)) (zUp (zUp M 2 k (zUsr u x).toInt8.toInt32) 1 1 (nI (k + 1))) := by
  rw [f_X8_append_L3, if_neg hx, hM, if_neg (nI_pos (by omega)), if_neg (show ¬ (600 : Int32) ≤ nI k from nI_ge (b := 600) hk (by omega)), zCk_t (zIn_n hk (by omega)), zLt_eq, zLt_eq, zIx_n (by omega), zUp_c (by omega), hM, nI_1]
