theorem kl_RL_7 : Cond.classLink RL 7 RX9 ∈ zW := zW_of 82 (by decide +kernel) rfl
theorem ib_RX9 : Cond.instantiable RX9 10 ∈ zW := zW_of 83 (by decide +kernel) rfl
theorem ol_RX9 : Cond.methodLink RX9 3 Lib.objectInit ∈ zW := zW_of 87 (by decide +kernel) rfl
theorem kl_RX9_9 : Cond.classLink RX9 9 RX8 ∈ zW := zW_of 90 (by decide +kernel) rfl
theorem ib_RX8 : Cond.instantiable RX8 2 ∈ zW := zW_of 91 (by decide +kernel) rfl
theorem ol_RX8 : Cond.methodLink RX8 3 Lib.objectInit ∈ zW := zW_of 95 (by decide +kernel) rfl
theorem kl_RX9_16 : Cond.classLink RX9 16 RX6 ∈ zW := zW_of 106 (by decide +kernel) rfl
theorem ib_RX6 : Cond.instantiable RX6 8 ∈ zW := zW_of 107 (by decide +kernel) rfl
theorem ol_RX6 : Cond.methodLink RX6 3 Lib.objectInit ∈ zW := zW_of 111 (by decide +kernel) rfl
theorem kl_RX9_26 : Cond.classLink RX9 26 RX5 ∈ zW := zW_of 165 (by decide +kernel) rfl
theorem ib_RX5 : Cond.instantiable RX5 5 ∈ zW := zW_of 166 (by decide +kernel) rfl
theorem ol_RX5 : Cond.methodLink RX5 3 Lib.objectInit ∈ zW := zW_of 170 (by decide +kernel) rfl
theorem kl_RX9_39 : Cond.classLink RX9 39 RX2 ∈ zW := zW_of 187 (by decide +kernel) rfl
theorem ib_RX2 : Cond.instantiable RX2 6 ∈ zW := zW_of 188 (by decide +kernel) rfl
theorem ol_RX2 : Cond.methodLink RX2 3 Lib.objectInit ∈ zW := zW_of 192 (by decide +kernel) rfl
theorem kl_RX9_46 : Cond.classLink RX9 46 RX7 ∈ zW := zW_of 218 (by decide +kernel) rfl
theorem ib_RX7 : Cond.instantiable RX7 16 ∈ zW := zW_of 219 (by decide +kernel) rfl
theorem ol_RX7 : Cond.methodLink RX7 3 Lib.objectInit ∈ zW := zW_of 223 (by decide +kernel) rfl
theorem kl_RX7_33 : Cond.classLink RX7 33 RX0 ∈ zW := zW_of 224 (by decide +kernel) rfl
theorem ib_RX0 : Cond.instantiable RX0 8 ∈ zW := zW_of 225 (by decide +kernel) rfl
theorem ol_RX0 : Cond.methodLink RX0 3 Lib.objectInit ∈ zW := zW_of 229 (by decide +kernel) rfl
theorem kl_RX7_42 : Cond.classLink RX7 42 RX3 ∈ zW := zW_of 261 (by decide +kernel) rfl
theorem ib_RX3 : Cond.instantiable RX3 9 ∈ zW := zW_of 262 (by decide +kernel) rfl
theorem ol_RX3 : Cond.methodLink RX3 3 Lib.objectInit ∈ zW := zW_of 266 (by decide +kernel) rfl
theorem kl_RX7_51 : Cond.classLink RX7 51 RX4 ∈ zW := zW_of 300 (by decide +kernel) rfl
theorem ib_RX4 : Cond.instantiable RX4 6 ∈ zW := zW_of 301 (by decide +kernel) rfl
theorem ol_RX4 : Cond.methodLink RX4 3 Lib.objectInit ∈ zW := zW_of 305 (by decide +kernel) rfl
theorem kl_RX9_58 : Cond.classLink RX9 58 RX0 ∈ zW := zW_of 396 (by decide +kernel) rfl
theorem kl_RX9_67 : Cond.classLink RX9 67 RX1 ∈ zW := zW_of 398 (by decide +kernel) rfl
theorem ib_RX1 : Cond.instantiable RX1 4 ∈ zW := zW_of 399 (by decide +kernel) rfl
theorem ol_RX1 : Cond.methodLink RX1 3 Lib.objectInit ∈ zW := zW_of 403 (by decide +kernel) rfl
theorem kl_RX1_15 : Cond.classLink RX1 15 "[[I" ∈ zW := zW_of 404 (by decide +kernel) rfl
theorem kl_RL_10 : Cond.classLink RL 10 RX10 ∈ zW := zW_of 978 (by decide +kernel) rfl
theorem ib_RX10 : Cond.instantiable RX10 61 ∈ zW := zW_of 979 (by decide +kernel) rfl
theorem ol_RX10 : Cond.methodLink RX10 1 Lib.objectInit ∈ zW := zW_of 983 (by decide +kernel) rfl
theorem kl_RX10_17 : Cond.classLink RX10 17 "[[I" ∈ zW := zW_of 984 (by decide +kernel) rfl
theorem kl_RX10_25 : Cond.classLink RX10 25 "[[Z" ∈ zW := zW_of 985 (by decide +kernel) rfl
theorem im_obj : Cond.instanceMethod Lib.objectInit ∈ zW := zW_of 88 (by decide +kernel) rfl
theorem cd_obj : Cond.code Lib.objectInit ⟨#[0xb1]⟩ 1 none ∈ zW := zW_of 89 (by decide +kernel) rfl
theorem ac_byte : Cond.arrayClass .byte ∈ zW := zW_of 105 (by decide +kernel) rfl
theorem ac_int : Cond.arrayClass .int ∈ zW := zW_of 163 (by decide +kernel) rfl
theorem ac_bool : Cond.arrayClass .boolean ∈ zW := zW_of 164 (by decide +kernel) rfl
theorem zv1 {a b : Nat} (h : a = b) : [Value.ref a] = [Value.ref b] := by rw [h]
theorem zv2 {a b c d : Nat} (h : a = b) (h2 : c = d) : [Value.ref a, Value.ref c] = [Value.ref b, Value.ref d] := by rw [h, h2]
theorem zv3 {a b c d x y : Nat} (h : a = b) (h2 : c = d) (h3 : x = y) : [Value.ref a, Value.ref c, Value.ref x] = [Value.ref b, Value.ref d, Value.ref y] := by rw [h, h2, h3]
theorem zlc {a b : Value} {l m : List Value} (h : a = b) (t : l = m) : a :: l = b :: m := by rw [h, t]
theorem rx_mem {p : Program} {l : Launch} {e : Env} {R : Room} {s : State} {m : MethodId} {args : Array Value} {below : List Frame} {meth : Method} {c : Code} {B : zBs} {A : Nat → Prop} {cs ss : Nat} {Q : State → Prop} {ad : Nat → Nat} {ls : List Nat} {ex : va_W} {pc : Nat} {lv : List (Option Value)} {st : List Value} {M M2 : zMem} (hM : ∀ b ∈ ls, M2 b = M b) (h : zRx p l e R s m args below meth c B A Q cs ss ad ls ex pc lv st M2) : zRx p l e R s m args below meth c B A Q cs ss ad ls ex pc lv st M := by
  intro H locs lsl hP hD hS hL
  refine h H locs lsl ?_ hD hS hL
  refine va_P_mem hP (fun x hx => ?_)
  rcases List.mem_append.mp hx with hx | hx
  · obtain ⟨b, hb, hl, rfl⟩ := zWl_mem hx
    refine List.mem_append_left _ ?_
    have e2 : zEn (zWm B ad ls) M2 b = zEn (zWm B ad ls) M b := by simp only [zEn, zFv, hM b (zL_m.mp hl)]
    rw [e2]
    exact zWl_in hb hl
  · exact List.mem_append_right _ hx
set_option maxRecDepth 100000 in
theorem kc_1 (l : Launch) (B : zBs) (M : zMem) (hz : ∀ c, c ∉ [] → ∀ i, M c i = 0) : zKc l yX8_init cX8_init 1 { frames := 1, cells := 1, slots := 600, locals := 20 } 1 600 B 8 [.null, .int 0] [] [1, 2] 1 (fun _ => []) M M := by
  refine zKc.of (by decide) (fun ad a => [some (.ref a)]) (fun ad a => rfl) (fun ad a => zle rfl) (fun ad a v hv => by simp only [List.mem_cons, List.not_mem_nil, or_false] at hv; rcases hv with rfl <;> rfl) ?_
  intro p e s m args below meth c ad a Y hin
  refine rx_aload_n Y dX8_init_0 rfl rfl ?_
  refine rx_obj Y ol_RX8 im_obj cd_obj rfl (by decide) (zle rfl) dX8_init_1 ?_
  refine rx_aload_n Y dX8_init_4 rfl rfl ?_
  refine rx_sipush (v := 600) Y dX8_init_5 (by decide) ?_
  refine rx_newa (atype := .byte) (ty := .byte) (cn := 2) (n := 600) (t0 := 0) Y rfl ac_byte (by decide +kernel) (by decide) rfl rfl zRA_b (by decide +kernel) (by decide) (hz 2 (by decide)) (by decide) (by decide) (by decide) (by decide) (by decide) dX8_init_8 (fun q1 => ?_)
  refine rx_putF (tl := []) (k := 0) (fs' := [.ref q1, .int 0]) Y cl_8 (by decide) fl_RX8_9 rfl hin rfl rfl rfl (zlt rfl) rfl dX8_init_10 ?_
  refine rx_done (o := 1) (N := 2) (by decide +kernel) (by decide) (by decide +kernel) (by decide) (zlc (congrArg Value.ref rfl) (zlc (congrArg Value.int (hz 1 (by decide) 1)) rfl)) ?_
  exact rx_end Y rfl (zAd_keep (by decide) (zAd_keep (by decide) (fun _ _ => rfl))) rfl dX8_init_13

set_option maxRecDepth 100000 in
theorem kc_3 (l : Launch) (B : zBs) (M : zMem) (hz : ∀ c, c ∉ [1, 2] → ∀ i, M c i = 0) {r1 : Int32} {M1 : zMem} (hf : f_X6_clear 3 M = some (r1, M1)) : zKc l yX6_init cX6_init 1 { frames := 1, cells := 4, slots := 32, locals := 21 } 4 32 B 6 [.null, .null, .null, .null, .int 0, .int 0, .int 0, .int 0] [1, 2] [3, 7, 6, 5, 4, 1, 2] 3 (fun _ => []) M M1 := by
  refine zKc.of (by decide) (fun ad a => [some (.ref a)]) (fun ad a => rfl) (fun ad a => zle rfl) (fun ad a v hv => by simp only [List.mem_cons, List.not_mem_nil, or_false] at hv; rcases hv with rfl <;> rfl) ?_
  intro p e s m args below meth c ad a Y hin
  refine rx_aload_n Y dX6_init_0 rfl rfl ?_
  refine rx_obj Y ol_RX6 im_obj cd_obj rfl (by decide) (zle rfl) dX6_init_1 ?_
  refine rx_aload_n Y dX6_init_4 rfl rfl ?_
  refine rx_bipush (v := 8) Y dX6_init_5 (by decide) ?_
  refine rx_newa (atype := .int) (ty := .int) (cn := 4) (n := 8) (t0 := 1) Y rfl ac_int (by decide +kernel) (by decide) rfl rfl zRA_i (by decide +kernel) (by decide) (hz 4 (by decide)) (by decide) (by decide) (by decide) (by decide) (by decide) dX6_init_7 (fun q1 => ?_)
  refine rx_putF (tl := []) (k := 0) (fs' := [.ref q1, .null, .null, .null, .int 0, .int 0, .int 0, .int 0]) Y cl_6 (by decide) fl_RX6_9 rfl hin rfl rfl rfl (zlt rfl) rfl dX6_init_9 ?_
  refine rx_aload_n Y dX6_init_12 rfl rfl ?_
  refine rx_bipush (v := 8) Y dX6_init_13 (by decide) ?_
  refine rx_newa (atype := .int) (ty := .int) (cn := 5) (n := 8) (t0 := 1) Y rfl ac_int (by decide +kernel) (by decide) rfl rfl zRA_i (by decide +kernel) (by decide) (hz 5 (by decide)) (by decide) (by decide) (by decide) (by decide) (by decide) dX6_init_15 (fun q2 => ?_)
  refine rx_putF (tl := []) (k := 1) (fs' := [.ref q1, .ref q2, .null, .null, .int 0, .int 0, .int 0, .int 0]) Y cl_6 (by decide) fl_RX6_15 rfl hin rfl rfl rfl (zlt rfl) rfl dX6_init_17 ?_
  refine rx_aload_n Y dX6_init_20 rfl rfl ?_
  refine rx_bipush (v := 8) Y dX6_init_21 (by decide) ?_
  refine rx_newa (atype := .boolean) (ty := .boolean) (cn := 6) (n := 8) (t0 := 2) Y rfl ac_bool (by decide +kernel) (by decide) rfl rfl zRA_z (by decide +kernel) (by decide) (hz 6 (by decide)) (by decide) (by decide) (by decide) (by decide) (by decide) dX6_init_23 (fun q3 => ?_)
  refine rx_putF (tl := []) (k := 2) (fs' := [.ref q1, .ref q2, .ref q3, .null, .int 0, .int 0, .int 0, .int 0]) Y cl_6 (by decide) fl_RX6_18 rfl hin rfl rfl rfl (zlt rfl) rfl dX6_init_25 ?_
  refine rx_aload_n Y dX6_init_28 rfl rfl ?_
  refine rx_bipush (v := 8) Y dX6_init_29 (by decide) ?_
  refine rx_newa (atype := .boolean) (ty := .boolean) (cn := 7) (n := 8) (t0 := 2) Y rfl ac_bool (by decide +kernel) (by decide) rfl rfl zRA_z (by decide +kernel) (by decide) (hz 7 (by decide)) (by decide) (by decide) (by decide) (by decide) (by decide) dX6_init_31 (fun q4 => ?_)
  refine rx_putF (tl := []) (k := 3) (fs' := [.ref q1, .ref q2, .ref q3, .ref q4, .int 0, .int 0, .int 0, .int 0]) Y cl_6 (by decide) fl_RX6_22 rfl hin rfl rfl rfl (zlt rfl) rfl dX6_init_33 ?_
  refine rx_done (o := 3) (N := 8) (by decide +kernel) (by decide) (by decide +kernel) (by decide) (zlc (congrArg Value.ref rfl) (zlc (congrArg Value.ref rfl) (zlc (congrArg Value.ref rfl) (zlc (congrArg Value.ref rfl) (zlc (congrArg Value.int (hz 3 (by decide) 4)) (zlc (congrArg Value.int (hz 3 (by decide) 5)) (zlc (congrArg Value.int (hz 3 (by decide) 6)) (zlc (congrArg Value.int (hz 3 (by decide) 7)) rfl)))))))) ?_
  refine rx_aload_n Y dX6_init_36 rfl rfl ?_
  refine rx_callVv (o := 3) Y (by decide +kernel) (lk_X6_clear l _ 3 (zKd_of (zL_m.mpr (by decide)) (by decide +kernel))) hf (ca_X6_clear (by decide) (by decide)) ml_RX6_25 im_X6_clear se_X6_clear cl_6 (zKd_of (zL_m.mpr (by decide)) (by decide +kernel)) rfl rfl rfl (zle rfl) ⟨by decide, by decide⟩ dX6_init_37 ?_
  exact rx_end Y rfl (zAd_keep (by decide) (zAd_keep (by decide) (zAd_keep (by decide) (zAd_keep (by decide) (zAd_keep (by decide) (fun _ _ => rfl)))))) rfl dX6_init_40

set_option maxRecDepth 100000 in
theorem kc_8 (l : Launch) (B : zBs) (M : zMem) (hz : ∀ c, c ∉ [3, 7, 6, 5, 4, 1, 2] → ∀ i, M c i = 0) {r1 : Int32} {M1 : zMem} (hf : f_X6_clear 8 M = some (r1, M1)) : zKc l yX6_init cX6_init 1 { frames := 1, cells := 4, slots := 32, locals := 21 } 4 32 B 6 [.null, .null, .null, .null, .int 0, .int 0, .int 0, .int 0] [3, 7, 6, 5, 4, 1, 2] [8, 12, 11, 10, 9, 3, 7, 6, 5, 4, 1, 2] 8 (fun _ => []) M M1 := by
  refine zKc.of (by decide) (fun ad a => [some (.ref a)]) (fun ad a => rfl) (fun ad a => zle rfl) (fun ad a v hv => by simp only [List.mem_cons, List.not_mem_nil, or_false] at hv; rcases hv with rfl <;> rfl) ?_
  intro p e s m args below meth c ad a Y hin
  refine rx_aload_n Y dX6_init_0 rfl rfl ?_
  refine rx_obj Y ol_RX6 im_obj cd_obj rfl (by decide) (zle rfl) dX6_init_1 ?_
  refine rx_aload_n Y dX6_init_4 rfl rfl ?_
  refine rx_bipush (v := 8) Y dX6_init_5 (by decide) ?_
  refine rx_newa (atype := .int) (ty := .int) (cn := 9) (n := 8) (t0 := 1) Y rfl ac_int (by decide +kernel) (by decide) rfl rfl zRA_i (by decide +kernel) (by decide) (hz 9 (by decide)) (by decide) (by decide) (by decide) (by decide) (by decide) dX6_init_7 (fun q1 => ?_)
  refine rx_putF (tl := []) (k := 0) (fs' := [.ref q1, .null, .null, .null, .int 0, .int 0, .int 0, .int 0]) Y cl_6 (by decide) fl_RX6_9 rfl hin rfl rfl rfl (zlt rfl) rfl dX6_init_9 ?_
  refine rx_aload_n Y dX6_init_12 rfl rfl ?_
  refine rx_bipush (v := 8) Y dX6_init_13 (by decide) ?_
  refine rx_newa (atype := .int) (ty := .int) (cn := 10) (n := 8) (t0 := 1) Y rfl ac_int (by decide +kernel) (by decide) rfl rfl zRA_i (by decide +kernel) (by decide) (hz 10 (by decide)) (by decide) (by decide) (by decide) (by decide) (by decide) dX6_init_15 (fun q2 => ?_)
  refine rx_putF (tl := []) (k := 1) (fs' := [.ref q1, .ref q2, .null, .null, .int 0, .int 0, .int 0, .int 0]) Y cl_6 (by decide) fl_RX6_15 rfl hin rfl rfl rfl (zlt rfl) rfl dX6_init_17 ?_
  refine rx_aload_n Y dX6_init_20 rfl rfl ?_
  refine rx_bipush (v := 8) Y dX6_init_21 (by decide) ?_
  refine rx_newa (atype := .boolean) (ty := .boolean) (cn := 11) (n := 8) (t0 := 2) Y rfl ac_bool (by decide +kernel) (by decide) rfl rfl zRA_z (by decide +kernel) (by decide) (hz 11 (by decide)) (by decide) (by decide) (by decide) (by decide) (by decide) dX6_init_23 (fun q3 => ?_)
  refine rx_putF (tl := []) (k := 2) (fs' := [.ref q1, .ref q2, .ref q3, .null, .int 0, .int 0, .int 0, .int 0]) Y cl_6 (by decide) fl_RX6_18 rfl hin rfl rfl rfl (zlt rfl) rfl dX6_init_25 ?_
  refine rx_aload_n Y dX6_init_28 rfl rfl ?_
  refine rx_bipush (v := 8) Y dX6_init_29 (by decide) ?_
  refine rx_newa (atype := .boolean) (ty := .boolean) (cn := 12) (n := 8) (t0 := 2) Y rfl ac_bool (by decide +kernel) (by decide) rfl rfl zRA_z (by decide +kernel) (by decide) (hz 12 (by decide)) (by decide) (by decide) (by decide) (by decide) (by decide) dX6_init_31 (fun q4 => ?_)
  refine rx_putF (tl := []) (k := 3) (fs' := [.ref q1, .ref q2, .ref q3, .ref q4, .int 0, .int 0, .int 0, .int 0]) Y cl_6 (by decide) fl_RX6_22 rfl hin rfl rfl rfl (zlt rfl) rfl dX6_init_33 ?_
  refine rx_done (o := 8) (N := 8) (by decide +kernel) (by decide) (by decide +kernel) (by decide) (zlc (congrArg Value.ref rfl) (zlc (congrArg Value.ref rfl) (zlc (congrArg Value.ref rfl) (zlc (congrArg Value.ref rfl) (zlc (congrArg Value.int (hz 8 (by decide) 4)) (zlc (congrArg Value.int (hz 8 (by decide) 5)) (zlc (congrArg Value.int (hz 8 (by decide) 6)) (zlc (congrArg Value.int (hz 8 (by decide) 7)) rfl)))))))) ?_
  refine rx_aload_n Y dX6_init_36 rfl rfl ?_
  refine rx_callVv (o := 8) Y (by decide +kernel) (lk_X6_clear l _ 8 (zKd_of (zL_m.mpr (by decide)) (by decide +kernel))) hf (ca_X6_clear (by decide) (by decide)) ml_RX6_25 im_X6_clear se_X6_clear cl_6 (zKd_of (zL_m.mpr (by decide)) (by decide +kernel)) rfl rfl rfl (zle rfl) ⟨by decide, by decide⟩ dX6_init_37 ?_
  exact rx_end Y rfl (zAd_keep (by decide) (zAd_keep (by decide) (zAd_keep (by decide) (zAd_keep (by decide) (zAd_keep (by decide) (fun _ _ => rfl)))))) rfl dX6_init_40

set_option maxRecDepth 100000 in
theorem kc_13 (l : Launch) (B : zBs) (M : zMem) (hz : ∀ c, c ∉ [8, 12, 11, 10, 9, 3, 7, 6, 5, 4, 1, 2] → ∀ i, M c i = 0) : zKc l yX5_init cX5_init 3 { frames := 1, cells := 0, slots := 0, locals := 20 } 0 0 B 5 [.null, .null, .int 0, .int 0, .int 0] [8, 12, 11, 10, 9, 3, 7, 6, 5, 4, 1, 2] [13, 8, 12, 11, 10, 9, 3, 7, 6, 5, 4, 1, 2] 13 (fun ad => [.ref (ad 1), .ref (ad 8)]) M M := by
  refine zKc.of (by decide) (fun ad a => [some (.ref a), some (.ref (ad 1)), some (.ref (ad 8))]) (fun ad a => rfl) (fun ad a => zle rfl) (fun ad a v hv => by simp only [List.mem_cons, List.not_mem_nil, or_false] at hv; rcases hv with rfl | rfl | rfl <;> rfl) ?_
  intro p e s m args below meth c ad a Y hin
  refine rx_aload_n Y dX5_init_0 rfl rfl ?_
  refine rx_obj Y ol_RX5 im_obj cd_obj rfl (by decide) (zle rfl) dX5_init_1 ?_
  refine rx_aload_n Y dX5_init_4 rfl rfl ?_
  refine rx_aload_n Y dX5_init_5 rfl rfl ?_
  refine rx_putF (tl := []) (k := 0) (fs' := [.ref (ad 1), .null, .int 0, .int 0, .int 0]) Y cl_5 (by decide) fl_RX5_9 rfl hin rfl rfl rfl (zlt rfl) rfl dX5_init_6 ?_
  refine rx_aload_n Y dX5_init_9 rfl rfl ?_
  refine rx_aload_n Y dX5_init_10 rfl rfl ?_
  refine rx_putF (tl := []) (k := 1) (fs' := [.ref (ad 1), .ref (ad 8), .int 0, .int 0, .int 0]) Y cl_5 (by decide) fl_RX5_15 rfl hin rfl rfl rfl (zlt rfl) rfl dX5_init_11 ?_
  refine rx_done (o := 13) (N := 5) (by decide +kernel) (by decide) (by decide +kernel) (by decide) (zlc (congrArg Value.ref rfl) (zlc (congrArg Value.ref rfl) (zlc (congrArg Value.int (hz 13 (by decide) 2)) (zlc (congrArg Value.int (hz 13 (by decide) 3)) (zlc (congrArg Value.int (hz 13 (by decide) 4)) rfl))))) ?_
  exact rx_end Y rfl (zAd_keep (by decide) (fun _ _ => rfl)) rfl dX5_init_14

set_option maxRecDepth 100000 in
theorem kc_15 (l : Launch) (B : zBs) (M : zMem) (hz : ∀ c, c ∉ [14, 13, 8, 12, 11, 10, 9, 3, 7, 6, 5, 4, 1, 2] → ∀ i, M c i = 0) : zKc l yX2_init cX2_init 1 { frames := 1, cells := 5, slots := 1500, locals := 20 } 5 1500 B 2 [.null, .null, .null, .null, .null, .int 0] [14, 13, 8, 12, 11, 10, 9, 3, 7, 6, 5, 4, 1, 2] [15, 20, 19, 18, 17, 16, 14, 13, 8, 12, 11, 10, 9, 3, 7, 6, 5, 4, 1, 2] 15 (fun _ => []) M M := by
  refine zKc.of (by decide) (fun ad a => [some (.ref a)]) (fun ad a => rfl) (fun ad a => zle rfl) (fun ad a v hv => by simp only [List.mem_cons, List.not_mem_nil, or_false] at hv; rcases hv with rfl <;> rfl) ?_
  intro p e s m args below meth c ad a Y hin
  refine rx_aload_n Y dX2_init_0 rfl rfl ?_
  refine rx_obj Y ol_RX2 im_obj cd_obj rfl (by decide) (zle rfl) dX2_init_1 ?_
  refine rx_aload_n Y dX2_init_4 rfl rfl ?_
  refine rx_sipush (v := 300) Y dX2_init_5 (by decide) ?_
  refine rx_newa (atype := .int) (ty := .int) (cn := 16) (n := 300) (t0 := 1) Y rfl ac_int (by decide +kernel) (by decide) rfl rfl zRA_i (by decide +kernel) (by decide) (hz 16 (by decide)) (by decide) (by decide) (by decide) (by decide) (by decide) dX2_init_8 (fun q1 => ?_)
  refine rx_putF (tl := []) (k := 0) (fs' := [.ref q1, .null, .null, .null, .null, .int 0]) Y cl_2 (by decide) fl_RX2_9 rfl hin rfl rfl rfl (zlt rfl) rfl dX2_init_10 ?_
  refine rx_aload_n Y dX2_init_13 rfl rfl ?_
  refine rx_sipush (v := 300) Y dX2_init_14 (by decide) ?_
  refine rx_newa (atype := .int) (ty := .int) (cn := 17) (n := 300) (t0 := 1) Y rfl ac_int (by decide +kernel) (by decide) rfl rfl zRA_i (by decide +kernel) (by decide) (hz 17 (by decide)) (by decide) (by decide) (by decide) (by decide) (by decide) dX2_init_17 (fun q2 => ?_)
  refine rx_putF (tl := []) (k := 1) (fs' := [.ref q1, .ref q2, .null, .null, .null, .int 0]) Y cl_2 (by decide) fl_RX2_15 rfl hin rfl rfl rfl (zlt rfl) rfl dX2_init_19 ?_
  refine rx_aload_n Y dX2_init_22 rfl rfl ?_
  refine rx_sipush (v := 300) Y dX2_init_23 (by decide) ?_
  refine rx_newa (atype := .int) (ty := .int) (cn := 18) (n := 300) (t0 := 1) Y rfl ac_int (by decide +kernel) (by decide) rfl rfl zRA_i (by decide +kernel) (by decide) (hz 18 (by decide)) (by decide) (by decide) (by decide) (by decide) (by decide) dX2_init_26 (fun q3 => ?_)
  refine rx_putF (tl := []) (k := 2) (fs' := [.ref q1, .ref q2, .ref q3, .null, .null, .int 0]) Y cl_2 (by decide) fl_RX2_18 rfl hin rfl rfl rfl (zlt rfl) rfl dX2_init_28 ?_
  refine rx_aload_n Y dX2_init_31 rfl rfl ?_
  refine rx_sipush (v := 300) Y dX2_init_32 (by decide) ?_
  refine rx_newa (atype := .int) (ty := .int) (cn := 19) (n := 300) (t0 := 1) Y rfl ac_int (by decide +kernel) (by decide) rfl rfl zRA_i (by decide +kernel) (by decide) (hz 19 (by decide)) (by decide) (by decide) (by decide) (by decide) (by decide) dX2_init_35 (fun q4 => ?_)
  refine rx_putF (tl := []) (k := 3) (fs' := [.ref q1, .ref q2, .ref q3, .ref q4, .null, .int 0]) Y cl_2 (by decide) fl_RX2_21 rfl hin rfl rfl rfl (zlt rfl) rfl dX2_init_37 ?_
  refine rx_aload_n Y dX2_init_40 rfl rfl ?_
  refine rx_sipush (v := 300) Y dX2_init_41 (by decide) ?_
  refine rx_newa (atype := .int) (ty := .int) (cn := 20) (n := 300) (t0 := 1) Y rfl ac_int (by decide +kernel) (by decide) rfl rfl zRA_i (by decide +kernel) (by decide) (hz 20 (by decide)) (by decide) (by decide) (by decide) (by decide) (by decide) dX2_init_44 (fun q5 => ?_)
  refine rx_putF (tl := []) (k := 4) (fs' := [.ref q1, .ref q2, .ref q3, .ref q4, .ref q5, .int 0]) Y cl_2 (by decide) fl_RX2_24 rfl hin rfl rfl rfl (zlt rfl) rfl dX2_init_46 ?_
  refine rx_done (o := 15) (N := 6) (by decide +kernel) (by decide) (by decide +kernel) (by decide) (zlc (congrArg Value.ref rfl) (zlc (congrArg Value.ref rfl) (zlc (congrArg Value.ref rfl) (zlc (congrArg Value.ref rfl) (zlc (congrArg Value.ref rfl) (zlc (congrArg Value.int (hz 15 (by decide) 5)) rfl)))))) ?_
  exact rx_end Y rfl (zAd_keep (by decide) (zAd_keep (by decide) (zAd_keep (by decide) (zAd_keep (by decide) (zAd_keep (by decide) (zAd_keep (by decide) (fun _ _ => rfl))))))) rfl dX2_init_49
