theorem zfc_i (U : State) {cy : ClassId} (h : va_RA U cy .int) : U.vm.findClass (FieldType.array .int).toString = some cy := h
theorem zfc_z (U : State) {cy : ClassId} (h : va_RA U cy .boolean) : U.vm.findClass (FieldType.array .boolean).toString = some cy := h
theorem zrow_18 : ∀ i, i < 400 → zKd0 (141 + i) = (12, 60) := fun i hi => by
  rw [zKd0, if_neg (by simp only [zNB]; omega), if_pos (by simp only [zNC]; omega)]
theorem zAdR_keep {ls0 : List Nat} {ad0 ad : Nat → Nat} {cn q base n : Nat} {r : Nat → Nat} (hc : ∀ b ∈ ls0, b ≠ cn ∧ ¬ (base ≤ b ∧ b < base + n)) (h : ∀ b ∈ ls0, ad b = ad0 b) : ∀ b ∈ ls0, zAdR ad cn q base n r b = ad0 b := fun b hb => by
  rw [zAdR, if_neg (hc b hb).1, if_neg (hc b hb).2]
  exact h b hb
section ZX7
variable {p : Program} {l : Launch} {e : Env} {R : Room} {s : State} {m : MethodId} {args : Array Value} {below : List Frame} {meth : Method} {c : Code} {B : zBs} {A : Nat → Prop} {cs ss : Nat} {Q : State → Prop} {own : String} {cc : ByteArray} {nL : Nat} {ad : Nat → Nat} {ls : List Nat} {pc : Nat} {lv : List (Option Value)} {st : List Value} {M : zMem}
theorem rx_re2 {Qe : Int32 → zMem → State → Prop} {t : zTr} {r : Int32} {M' : zMem} (ht : t = some (r, M')) (h : zDx ad ls A [] → zRe p l e R s m args below meth c (zWm B ad ls) A cs ss Qe pc lv st M t) (hQ : Qe r M' = Q) : zRx p l e R s m args below meth c B A Q cs ss ad ls [] pc lv st M := by
  intro H locs lsl hP hD hS hL
  rw [List.append_nil] at hP
  rw [← hQ]
  exact h hD r M' ht H locs lsl hP hS hL
theorem re_kret (Y : zCy p s m args meth c B A own cc nL none) {ad0 : Nat → Nat} {ls0 : List Nat} {o a : Nat} (hA : zFa ad0 ls0 a s.heap.size = A) (hk : ∀ b ∈ ls0, ad b = ad0 b) (ho : ad o = a) (hD : zDx ad ls A []) (d : decode cc pc = .ok (.return_, 1)) : zRe p l e R s m args below meth c (zWm B ad ls) A cs ss (fun _ M1 => MQ below (zQk B ls0 ls o M1 ad0 a s.heap.size) args s cs ss A) pc lv [] M (some (0, M)) := by
  intro r M' ht H locs lsl hP hS hL
  cases ht
  exact rx_end Y hA hk ho d H locs lsl (by rw [List.append_nil]; exact hP) hD hS hL
end ZX7
set_option maxRecDepth 100000 in
theorem kc_64 (l : Launch) (B : zBs) (M : zMem) (hz : ∀ c, c ∉ [61, 63, 62, 41, 53, 56, 55, 54, 45, 52, 51, 50, 49, 48, 47, 46, 42, 44, 43, 60, 59, 58, 57, 21, 33, 36, 35, 34, 25, 32, 31, 30, 29, 28, 27, 26, 22, 24, 23, 40, 39, 38, 37, 15, 20, 19, 18, 17, 16, 14, 13, 8, 12, 11, 10, 9, 3, 7, 6, 5, 4, 1, 2] → ∀ i, M c i = 0) {r1 : Int32} {M1 : zMem} (hf : f_X1_init M = some (r1, M1)) : zKc l yX1_init cX1_init 4 { frames := 1, cells := 9, slots := 180, locals := 20 } 9 180 B 1 [.null, .null, .null, .null] [61, 63, 62, 41, 53, 56, 55, 54, 45, 52, 51, 50, 49, 48, 47, 46, 42, 44, 43, 60, 59, 58, 57, 21, 33, 36, 35, 34, 25, 32, 31, 30, 29, 28, 27, 26, 22, 24, 23, 40, 39, 38, 37, 15, 20, 19, 18, 17, 16, 14, 13, 8, 12, 11, 10, 9, 3, 7, 6, 5, 4, 1, 2] [64, 73, 66, 67, 68, 69, 70, 71, 72, 65, 61, 63, 62, 41, 53, 56, 55, 54, 45, 52, 51, 50, 49, 48, 47, 46, 42, 44, 43, 60, 59, 58, 57, 21, 33, 36, 35, 34, 25, 32, 31, 30, 29, 28, 27, 26, 22, 24, 23, 40, 39, 38, 37, 15, 20, 19, 18, 17, 16, 14, 13, 8, 12, 11, 10, 9, 3, 7, 6, 5, 4, 1, 2] 64 (fun ad => [.ref (ad 14)]) M M1 := by
  refine zKc.of (by decide) (fun ad a => [some (.ref a), some (.ref (ad 14)), none, none]) (fun ad a => rfl) (fun ad a => zle rfl) (fun ad a v hv => by simp only [List.mem_cons, List.not_mem_nil, or_false] at hv; rcases hv with rfl | rfl <;> rfl) ?_
  intro p e s m args below meth c ad a Y hin
  refine rx_aload_n Y dX1_init_0 rfl rfl ?_
  refine rx_obj Y ol_RX1 im_obj cd_obj rfl (by decide) (zle rfl) dX1_init_1 ?_
  refine rx_aload_n Y dX1_init_4 rfl rfl ?_
  refine rx_bipush (v := 6) Y dX1_init_5 (by decide) ?_
  refine rx_newa (atype := .int) (ty := .int) (cn := 65) (n := 6) (t0 := 1) Y rfl ac_int (by decide +kernel) (by decide) rfl rfl zRA_i (by decide +kernel) (by decide) (hz 65 (by decide)) (by decide) (by decide) (by decide) (by decide) (by decide) dX1_init_7 (fun q1 => ?_)
  refine rx_putF (tl := []) (k := 1) (fs' := [.null, .ref q1, .null, .null]) Y cl_1 (by decide) fl_RX1_9 rfl hin rfl rfl rfl (zlt rfl) rfl dX1_init_9 ?_
  refine rx_aload_n Y dX1_init_12 rfl rfl ?_
  refine rx_bipush (v := 6) Y dX1_init_13 (by decide) ?_
  refine rx_bipush (v := 24) Y dX1_init_15 (by decide) ?_
  refine rx_mna (ty := .int) (k := 19) (n := 6) (mm := 24) (rkk := 12) (cn := 66) (base := 67) (t0 := 1) (t1 := 3) Y kl_RX1_15 Y.2.2.2.2.2.2.2.2.2.1 ac_int (by decide +kernel) (by decide) (by decide +kernel) (fun i hi => rw_66 hi) (by decide) rfl rfl (fun U h => zfc_i U h) rfl (by decide +kernel) (by decide +kernel) (by decide) (by decide) (by decide) (by decide) (fun i hi => hz (67 + i) ((by decide : ∀ i, i < 6 → 67 + i ∉ [61, 63, 62, 41, 53, 56, 55, 54, 45, 52, 51, 50, 49, 48, 47, 46, 42, 44, 43, 60, 59, 58, 57, 21, 33, 36, 35, 34, 25, 32, 31, 30, 29, 28, 27, 26, 22, 24, 23, 40, 39, 38, 37, 15, 20, 19, 18, 17, 16, 14, 13, 8, 12, 11, 10, 9, 3, 7, 6, 5, 4, 1, 2]) i hi)) (by decide) (by decide) (by decide) (by decide) (by decide) (by decide) (by decide) (by decide) (by decide) dX1_init_17 (fun q2 rr2 => ?_)
  refine rx_putF (tl := []) (k := 2) (fs' := [.null, .ref q1, .ref q2, .null]) Y cl_1 (by decide) fl_RX1_17 rfl hin rfl rfl rfl (zlt rfl) rfl dX1_init_21 ?_
  refine rx_aload_n Y dX1_init_24 rfl rfl ?_
  refine rx_bipush (v := 24) Y dX1_init_25 (by decide) ?_
  refine rx_newa (atype := .int) (ty := .int) (cn := 73) (n := 24) (t0 := 1) Y rfl ac_int (by decide +kernel) (by decide) rfl rfl zRA_i (by decide +kernel) (by decide) (hz 73 (by decide)) (by decide) (by decide) (by decide) (by decide) (by decide) dX1_init_27 (fun q3 => ?_)
  refine rx_putF (tl := []) (k := 3) (fs' := [.null, .ref q1, .ref q2, .ref q3]) Y cl_1 (by decide) fl_RX1_20 rfl hin rfl rfl rfl (zlt rfl) rfl dX1_init_29 ?_
  refine rx_aload_n Y dX1_init_32 rfl rfl ?_
  refine rx_aload_n Y dX1_init_33 rfl rfl ?_
  refine rx_putF (tl := []) (k := 0) (fs' := [.ref (ad 14), .ref q1, .ref q2, .ref q3]) Y cl_1 (by decide) fl_RX1_23 rfl hin rfl rfl rfl (zlt rfl) rfl dX1_init_34 ?_
  refine rx_done (o := 64) (N := 4) (by decide +kernel) (by decide) (by decide +kernel) (by decide) (zlc (congrArg Value.ref rfl) (zlc (congrArg Value.ref rfl) (zlc (congrArg Value.ref rfl) (zlc (congrArg Value.ref rfl) rfl)))) ?_
  refine rx_re2 (Qe := fun _ M1 => MQ below (zQk B [61, 63, 62, 41, 53, 56, 55, 54, 45, 52, 51, 50, 49, 48, 47, 46, 42, 44, 43, 60, 59, 58, 57, 21, 33, 36, 35, 34, 25, 32, 31, 30, 29, 28, 27, 26, 22, 24, 23, 40, 39, 38, 37, 15, 20, 19, 18, 17, 16, 14, 13, 8, 12, 11, 10, 9, 3, 7, 6, 5, 4, 1, 2] _ 64 M1 ad a s.heap.size) args s _ _ _) hf (fun hD => ?_) rfl
  have X := zCy.X Y hD (by decide +kernel)
  exact re_sub (lv' := [some (.ref a), none, none, none]) (lb_X1_init_0 X (zKd_of (zL_m.mpr (by decide)) (by decide +kernel)) (fun M2 => re_kret Y rfl (zAd_keep (by decide) (zAd_keep (by decide) (zAdR_keep (by decide) (zAd_keep (by decide) (fun _ _ => rfl))))) rfl hD dX1_init_81) M) ⟨rfl, trivial⟩
