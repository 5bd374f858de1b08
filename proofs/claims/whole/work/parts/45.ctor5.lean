theorem zhz {ls0 ls : List Nat} {M : zMem} (hs : ∀ b ∈ ls0, b ∈ ls) (h : ∀ c, c ∉ ls0 → ∀ i, M c i = 0) : ∀ c, c ∉ ls → ∀ i, M c i = 0 := fun c hc => h c (fun q => hc (hs c q))
theorem zhzU {ls : List Nat} {M : zMem} {c0 k : Nat} {v : Int32} (hc : c0 ∈ ls) (h : ∀ c, c ∉ ls → ∀ i, M c i = 0) : ∀ c, c ∉ ls → ∀ i, zUp M c0 k v c i = 0 := fun c hn i => by
  rw [zUp_off (fun e => hn (by rw [e]; exact hc))]
  exact h c hn i
section ZX5
variable {p : Program} {l : Launch} {e : Env} {R : Room} {s : State} {m : MethodId} {args : Array Value} {below : List Frame} {meth : Method} {c : Code} {B : zBs} {A : Nat → Prop} {cs ss : Nat} {Q : State → Prop} {own : String} {cc : ByteArray} {nL : Nat} {ret : Option FieldType} {ad : Nat → Nat} {ls : List Nat} {e0 : va_W} {pc : Nat} {lv : List (Option Value)} {st st0 : List Value} {M : zMem}
theorem rx_ctorA (Y : zCy p s m args meth c B A own cc nL ret) {y : MethodName} {bytes : ByteArray} {maxL n idx : Nat} {rm : Room} {mc ms ci o q : Nat} {bl : List Value} {ls1 : List Nat} {av : (Nat → Nat) → List Value} {M' : zMem} {As : List Value} (hM : zKc l y bytes maxL rm mc ms B ci bl ls ls1 o av M M') (hav : av ad = As) (W1 : Cond.code y bytes maxL none ∈ zW) (W2 : Cond.initialized y.cls ∈ zW) (W3 : y.cls ≠ "java/lang/invoke/MethodHandle" ∧ y.cls ≠ "java/lang/invoke/VarHandle" ∧ (parseMethodDescriptor y.desc).map (fun d => d.parameters.length) = some n) (W4 : Cond.methodLink own idx y ∈ zW) (W5 : Cond.instanceMethod y ∈ zW) (W6 : y.name = "<init>") (hrm : rm.cells = mc ∧ rm.slots = ms) (hR : rm.frames + 1 ≤ R.frames ∧ 8 + (maxL + 11) + rm.locals ≤ R.locals)
    (hn : As.length = n) (hlen : lv.length = nL) (hst : st0 = As.reverse ++ .ref q :: st) (hroom : (st.map fun v => v.category).sum ≤ 8) (hcs : cs + mc ≤ R.cells ∧ ss + ms ≤ R.slots) (d : decode cc pc = .ok (.invokespecial idx, 3))
    (h : ∀ ad' : Nat → Nat, (∀ b ∈ ls, ad' b = ad b) → ad' o = q → zRx p l e R s m args below meth c B A Q (cs + mc) (ss + ms) ad' ls1 e0 (pc + 3) lv st M') : zRx p l e R s m args below meth c B A Q cs ss ad ls (e0 ++ [(q, .inr (ci, bl))]) pc lv st0 M := by
  subst hav
  exact rx_ctor Y hM W1 W2 W3 W4 W5 W6 hrm hR hn hlen hst hroom hcs d h
theorem rx_ctorNA (Y : zCy p s m args meth c B A own cc nL ret) {y : MethodName} {bytes : ByteArray} {maxL n idx : Nat} {rm : Room} {mc ms ci o q : Nat} {bl : List Value} {ls1 : List Nat} {av : (Nat → Nat) → List Value} {M' : zMem} {As : List Value} {host : String} (hM : zKc l y bytes maxL rm mc ms B ci bl ls ls1 o av M M') (hav : av ad = As) (W1 : Cond.code y bytes maxL none ∈ zW) (W2 : Cond.initialized y.cls ∈ zW) (W3 : y.cls ≠ "java/lang/invoke/MethodHandle" ∧ y.cls ≠ "java/lang/invoke/VarHandle" ∧ (parseMethodDescriptor y.desc).map (fun d => d.parameters.length) = some n) (W4 : (own, idx, y, host) ∈ zNw) (W5 : Cond.instanceMethod y ∈ zW) (W6 : y.name = "<init>") (hrm : rm.cells = mc ∧ rm.slots = ms) (hR : rm.frames + 1 ≤ R.frames ∧ 8 + (maxL + 11) + rm.locals ≤ R.locals)
    (hn : As.length = n) (hlen : lv.length = nL) (hst : st0 = As.reverse ++ .ref q :: st) (hroom : (st.map fun v => v.category).sum ≤ 8) (hcs : cs + mc ≤ R.cells ∧ ss + ms ≤ R.slots) (d : decode cc pc = .ok (.invokespecial idx, 3))
    (h : ∀ ad' : Nat → Nat, (∀ b ∈ ls, ad' b = ad b) → ad' o = q → zRx p l e R s m args below meth c B A Q (cs + mc) (ss + ms) ad' ls1 e0 (pc + 3) lv st M') : zRx p l e R s m args below meth c B A Q cs ss ad ls (e0 ++ [(q, .inr (ci, bl))]) pc lv st0 M := by
  subst hav
  exact rx_ctorN Y hM W1 W2 W3 W4 W5 W6 hrm hR hn hlen hst hroom hcs d h
end ZX5
set_option maxRecDepth 100000 in
theorem kc_22 (l : Launch) (B : zBs) (M : zMem) (hz : ∀ c, c ∉ [40, 39, 38, 37, 15, 20, 19, 18, 17, 16, 14, 13, 8, 12, 11, 10, 9, 3, 7, 6, 5, 4, 1, 2] → ∀ i, M c i = 0) : zKc l yX0_init cX0_init 3 { frames := 1, cells := 2, slots := 48, locals := 20 } 2 48 B 0 [.null, .null, .null, .null, .int 0, .int 0, .int 0, .int 0] [40, 39, 38, 37, 15, 20, 19, 18, 17, 16, 14, 13, 8, 12, 11, 10, 9, 3, 7, 6, 5, 4, 1, 2] [22, 24, 23, 40, 39, 38, 37, 15, 20, 19, 18, 17, 16, 14, 13, 8, 12, 11, 10, 9, 3, 7, 6, 5, 4, 1, 2] 22 (fun ad => [.ref (ad 3), .ref (ad 14)]) M (zUp M 22 5 (-1)) := by
  refine zKc.of (by decide) (fun ad a => [some (.ref a), some (.ref (ad 3)), some (.ref (ad 14))]) (fun ad a => rfl) (fun ad a => zle rfl) (fun ad a v hv => by simp only [List.mem_cons, List.not_mem_nil, or_false] at hv; rcases hv with rfl | rfl | rfl <;> rfl) ?_
  intro p e s m args below meth c ad a Y hin
  refine rx_aload_n Y dX0_init_0 rfl rfl ?_
  refine rx_obj Y ol_RX0 im_obj cd_obj rfl (by decide) (zle rfl) dX0_init_1 ?_
  refine rx_aload_n Y dX0_init_4 rfl rfl ?_
  refine rx_bipush (v := 24) Y dX0_init_5 (by decide) ?_
  refine rx_newa (atype := .int) (ty := .int) (cn := 23) (n := 24) (t0 := 1) Y rfl ac_int (by decide +kernel) (by decide) rfl rfl zRA_i (by decide +kernel) (by decide) (hz 23 (by decide)) (by decide) (by decide) (by decide) (by decide) (by decide) dX0_init_7 (fun q1 => ?_)
  refine rx_putF (tl := []) (k := 2) (fs' := [.null, .null, .ref q1, .null, .int 0, .int 0, .int 0, .int 0]) Y cl_0 (by decide) fl_RX0_9 rfl hin rfl rfl rfl (zlt rfl) rfl dX0_init_9 ?_
  refine rx_aload_n Y dX0_init_12 rfl rfl ?_
  refine rx_bipush (v := 24) Y dX0_init_13 (by decide) ?_
  refine rx_newa (atype := .int) (ty := .int) (cn := 24) (n := 24) (t0 := 1) Y rfl ac_int (by decide +kernel) (by decide) rfl rfl zRA_i (by decide +kernel) (by decide) (hz 24 (by decide)) (by decide) (by decide) (by decide) (by decide) (by decide) dX0_init_15 (fun q2 => ?_)
  refine rx_putF (tl := []) (k := 3) (fs' := [.null, .null, .ref q1, .ref q2, .int 0, .int 0, .int 0, .int 0]) Y cl_0 (by decide) fl_RX0_15 rfl hin rfl rfl rfl (zlt rfl) rfl dX0_init_17 ?_
  refine rx_aload_n Y dX0_init_20 rfl rfl ?_
  refine rx_iconst (v := -1) Y dX0_init_21 (by decide) ?_
  refine rx_putV (tl := []) (k := 5) (fs' := [.null, .null, .ref q1, .ref q2, .int 0, .int (-1), .int 0, .int 0]) Y cl_0 (by decide) fl_RX0_18 rfl rfl rfl (zlt rfl) rfl dX0_init_22 ?_
  refine rx_aload_n Y dX0_init_25 rfl rfl ?_
  refine rx_aload_n Y dX0_init_26 rfl rfl ?_
  refine rx_putF (tl := []) (k := 0) (fs' := [.ref (ad 3), .null, .ref q1, .ref q2, .int 0, .int (-1), .int 0, .int 0]) Y cl_0 (by decide) fl_RX0_22 rfl hin rfl rfl rfl (zlt rfl) rfl dX0_init_27 ?_
  refine rx_aload_n Y dX0_init_30 rfl rfl ?_
  refine rx_aload_n Y dX0_init_31 rfl rfl ?_
  refine rx_putF (tl := []) (k := 1) (fs' := [.ref (ad 3), .ref (ad 14), .ref q1, .ref q2, .int 0, .int (-1), .int 0, .int 0]) Y cl_0 (by decide) fl_RX0_26 rfl hin rfl rfl rfl (zlt rfl) rfl dX0_init_32 ?_
  refine rx_mem (M2 := (zUp M 22 5 (-1))) (fun b hb => zUp_off (fun e => (by decide : 22 ∉ [24, 23, 40, 39, 38, 37, 15, 20, 19, 18, 17, 16, 14, 13, 8, 12, 11, 10, 9, 3, 7, 6, 5, 4, 1, 2]) (e ▸ hb))) ?_
  refine rx_done (o := 22) (N := 8) (by decide +kernel) (by decide) (by decide +kernel) (by decide) (zlc (congrArg Value.ref rfl) (zlc (congrArg Value.ref rfl) (zlc (congrArg Value.ref rfl) (zlc (congrArg Value.ref rfl) (zlc (congrArg Value.int (hz 22 (by decide) 4)) (zlc rfl (zlc (congrArg Value.int (hz 22 (by decide) 6)) (zlc (congrArg Value.int (hz 22 (by decide) 7)) rfl)))))))) ?_
  exact rx_end Y rfl (zAd_keep (by decide) (zAd_keep (by decide) (zAd_keep (by decide) (fun _ _ => rfl)))) rfl dX0_init_35

set_option maxRecDepth 100000 in
theorem kc_25 (l : Launch) (B : zBs) (M : zMem) (hz : ∀ c, c ∉ [22, 24, 23, 40, 39, 38, 37, 15, 20, 19, 18, 17, 16, 14, 13, 8, 12, 11, 10, 9, 3, 7, 6, 5, 4, 1, 2] → ∀ i, M c i = 0) : zKc l yX3_init cX3_init 2 { frames := 1, cells := 7, slots := 56, locals := 20 } 7 56 B 3 [.null, .null, .null, .null, .null, .null, .null, .null, .int 0] [22, 24, 23, 40, 39, 38, 37, 15, 20, 19, 18, 17, 16, 14, 13, 8, 12, 11, 10, 9, 3, 7, 6, 5, 4, 1, 2] [25, 32, 31, 30, 29, 28, 27, 26, 22, 24, 23, 40, 39, 38, 37, 15, 20, 19, 18, 17, 16, 14, 13, 8, 12, 11, 10, 9, 3, 7, 6, 5, 4, 1, 2] 25 (fun ad => [.ref (ad 3)]) M M := by
  refine zKc.of (by decide) (fun ad a => [some (.ref a), some (.ref (ad 3))]) (fun ad a => rfl) (fun ad a => zle rfl) (fun ad a v hv => by simp only [List.mem_cons, List.not_mem_nil, or_false] at hv; rcases hv with rfl | rfl <;> rfl) ?_
  intro p e s m args below meth c ad a Y hin
  refine rx_aload_n Y dX3_init_0 rfl rfl ?_
  refine rx_obj Y ol_RX3 im_obj cd_obj rfl (by decide) (zle rfl) dX3_init_1 ?_
  refine rx_aload_n Y dX3_init_4 rfl rfl ?_
  refine rx_bipush (v := 8) Y dX3_init_5 (by decide) ?_
  refine rx_newa (atype := .int) (ty := .int) (cn := 26) (n := 8) (t0 := 1) Y rfl ac_int (by decide +kernel) (by decide) rfl rfl zRA_i (by decide +kernel) (by decide) (hz 26 (by decide)) (by decide) (by decide) (by decide) (by decide) (by decide) dX3_init_7 (fun q1 => ?_)
  refine rx_putF (tl := []) (k := 1) (fs' := [.null, .ref q1, .null, .null, .null, .null, .null, .null, .int 0]) Y cl_3 (by decide) fl_RX3_9 rfl hin rfl rfl rfl (zlt rfl) rfl dX3_init_9 ?_
  refine rx_aload_n Y dX3_init_12 rfl rfl ?_
  refine rx_bipush (v := 8) Y dX3_init_13 (by decide) ?_
  refine rx_newa (atype := .int) (ty := .int) (cn := 27) (n := 8) (t0 := 1) Y rfl ac_int (by decide +kernel) (by decide) rfl rfl zRA_i (by decide +kernel) (by decide) (hz 27 (by decide)) (by decide) (by decide) (by decide) (by decide) (by decide) dX3_init_15 (fun q2 => ?_)
  refine rx_putF (tl := []) (k := 2) (fs' := [.null, .ref q1, .ref q2, .null, .null, .null, .null, .null, .int 0]) Y cl_3 (by decide) fl_RX3_15 rfl hin rfl rfl rfl (zlt rfl) rfl dX3_init_17 ?_
  refine rx_aload_n Y dX3_init_20 rfl rfl ?_
  refine rx_bipush (v := 8) Y dX3_init_21 (by decide) ?_
  refine rx_newa (atype := .int) (ty := .int) (cn := 28) (n := 8) (t0 := 1) Y rfl ac_int (by decide +kernel) (by decide) rfl rfl zRA_i (by decide +kernel) (by decide) (hz 28 (by decide)) (by decide) (by decide) (by decide) (by decide) (by decide) dX3_init_23 (fun q3 => ?_)
  refine rx_putF (tl := []) (k := 3) (fs' := [.null, .ref q1, .ref q2, .ref q3, .null, .null, .null, .null, .int 0]) Y cl_3 (by decide) fl_RX3_18 rfl hin rfl rfl rfl (zlt rfl) rfl dX3_init_25 ?_
  refine rx_aload_n Y dX3_init_28 rfl rfl ?_
  refine rx_bipush (v := 8) Y dX3_init_29 (by decide) ?_
  refine rx_newa (atype := .int) (ty := .int) (cn := 29) (n := 8) (t0 := 1) Y rfl ac_int (by decide +kernel) (by decide) rfl rfl zRA_i (by decide +kernel) (by decide) (hz 29 (by decide)) (by decide) (by decide) (by decide) (by decide) (by decide) dX3_init_31 (fun q4 => ?_)
  refine rx_putF (tl := []) (k := 4) (fs' := [.null, .ref q1, .ref q2, .ref q3, .ref q4, .null, .null, .null, .int 0]) Y cl_3 (by decide) fl_RX3_21 rfl hin rfl rfl rfl (zlt rfl) rfl dX3_init_33 ?_
  refine rx_aload_n Y dX3_init_36 rfl rfl ?_
  refine rx_bipush (v := 8) Y dX3_init_37 (by decide) ?_
  refine rx_newa (atype := .int) (ty := .int) (cn := 30) (n := 8) (t0 := 1) Y rfl ac_int (by decide +kernel) (by decide) rfl rfl zRA_i (by decide +kernel) (by decide) (hz 30 (by decide)) (by decide) (by decide) (by decide) (by decide) (by decide) dX3_init_39 (fun q5 => ?_)
  refine rx_putF (tl := []) (k := 5) (fs' := [.null, .ref q1, .ref q2, .ref q3, .ref q4, .ref q5, .null, .null, .int 0]) Y cl_3 (by decide) fl_RX3_24 rfl hin rfl rfl rfl (zlt rfl) rfl dX3_init_41 ?_
  refine rx_aload_n Y dX3_init_44 rfl rfl ?_
  refine rx_bipush (v := 8) Y dX3_init_45 (by decide) ?_
  refine rx_newa (atype := .boolean) (ty := .boolean) (cn := 31) (n := 8) (t0 := 2) Y rfl ac_bool (by decide +kernel) (by decide) rfl rfl zRA_z (by decide +kernel) (by decide) (hz 31 (by decide)) (by decide) (by decide) (by decide) (by decide) (by decide) dX3_init_47 (fun q6 => ?_)
  refine rx_putF (tl := []) (k := 6) (fs' := [.null, .ref q1, .ref q2, .ref q3, .ref q4, .ref q5, .ref q6, .null, .int 0]) Y cl_3 (by decide) fl_RX3_27 rfl hin rfl rfl rfl (zlt rfl) rfl dX3_init_49 ?_
  refine rx_aload_n Y dX3_init_52 rfl rfl ?_
  refine rx_bipush (v := 8) Y dX3_init_53 (by decide) ?_
  refine rx_newa (atype := .boolean) (ty := .boolean) (cn := 32) (n := 8) (t0 := 2) Y rfl ac_bool (by decide +kernel) (by decide) rfl rfl zRA_z (by decide +kernel) (by decide) (hz 32 (by decide)) (by decide) (by decide) (by decide) (by decide) (by decide) dX3_init_55 (fun q7 => ?_)
  refine rx_putF (tl := []) (k := 7) (fs' := [.null, .ref q1, .ref q2, .ref q3, .ref q4, .ref q5, .ref q6, .ref q7, .int 0]) Y cl_3 (by decide) fl_RX3_31 rfl hin rfl rfl rfl (zlt rfl) rfl dX3_init_57 ?_
  refine rx_aload_n Y dX3_init_60 rfl rfl ?_
  refine rx_aload_n Y dX3_init_61 rfl rfl ?_
  refine rx_putF (tl := []) (k := 0) (fs' := [.ref (ad 3), .ref q1, .ref q2, .ref q3, .ref q4, .ref q5, .ref q6, .ref q7, .int 0]) Y cl_3 (by decide) fl_RX3_34 rfl hin rfl rfl rfl (zlt rfl) rfl dX3_init_62 ?_
  refine rx_done (o := 25) (N := 9) (by decide +kernel) (by decide) (by decide +kernel) (by decide) (zlc (congrArg Value.ref rfl) (zlc (congrArg Value.ref rfl) (zlc (congrArg Value.ref rfl) (zlc (congrArg Value.ref rfl) (zlc (congrArg Value.ref rfl) (zlc (congrArg Value.ref rfl) (zlc (congrArg Value.ref rfl) (zlc (congrArg Value.ref rfl) (zlc (congrArg Value.int (hz 25 (by decide) 8)) rfl))))))))) ?_
  exact rx_end Y rfl (zAd_keep (by decide) (zAd_keep (by decide) (zAd_keep (by decide) (zAd_keep (by decide) (zAd_keep (by decide) (zAd_keep (by decide) (zAd_keep (by decide) (zAd_keep (by decide) (fun _ _ => rfl))))))))) rfl dX3_init_65

set_option maxRecDepth 100000 in
theorem kc_33 (l : Launch) (B : zBs) (M : zMem) (hz : ∀ c, c ∉ [25, 32, 31, 30, 29, 28, 27, 26, 22, 24, 23, 40, 39, 38, 37, 15, 20, 19, 18, 17, 16, 14, 13, 8, 12, 11, 10, 9, 3, 7, 6, 5, 4, 1, 2] → ∀ i, M c i = 0) : zKc l yX4_init cX4_init 1 { frames := 1, cells := 3, slots := 960, locals := 20 } 3 960 B 4 [.null, .null, .null, .int 0, .int 0, .int 0] [25, 32, 31, 30, 29, 28, 27, 26, 22, 24, 23, 40, 39, 38, 37, 15, 20, 19, 18, 17, 16, 14, 13, 8, 12, 11, 10, 9, 3, 7, 6, 5, 4, 1, 2] [33, 36, 35, 34, 25, 32, 31, 30, 29, 28, 27, 26, 22, 24, 23, 40, 39, 38, 37, 15, 20, 19, 18, 17, 16, 14, 13, 8, 12, 11, 10, 9, 3, 7, 6, 5, 4, 1, 2] 33 (fun _ => []) M M := by
  refine zKc.of (by decide) (fun ad a => [some (.ref a)]) (fun ad a => rfl) (fun ad a => zle rfl) (fun ad a v hv => by simp only [List.mem_cons, List.not_mem_nil, or_false] at hv; rcases hv with rfl <;> rfl) ?_
  intro p e s m args below meth c ad a Y hin
  refine rx_aload_n Y dX4_init_0 rfl rfl ?_
  refine rx_obj Y ol_RX4 im_obj cd_obj rfl (by decide) (zle rfl) dX4_init_1 ?_
  refine rx_aload_n Y dX4_init_4 rfl rfl ?_
  refine rx_sipush (v := 320) Y dX4_init_5 (by decide) ?_
  refine rx_newa (atype := .int) (ty := .int) (cn := 34) (n := 320) (t0 := 1) Y rfl ac_int (by decide +kernel) (by decide) rfl rfl zRA_i (by decide +kernel) (by decide) (hz 34 (by decide)) (by decide) (by decide) (by decide) (by decide) (by decide) dX4_init_8 (fun q1 => ?_)
  refine rx_putF (tl := []) (k := 0) (fs' := [.ref q1, .null, .null, .int 0, .int 0, .int 0]) Y cl_4 (by decide) fl_RX4_9 rfl hin rfl rfl rfl (zlt rfl) rfl dX4_init_10 ?_
  refine rx_aload_n Y dX4_init_13 rfl rfl ?_
  refine rx_sipush (v := 320) Y dX4_init_14 (by decide) ?_
  refine rx_newa (atype := .int) (ty := .int) (cn := 35) (n := 320) (t0 := 1) Y rfl ac_int (by decide +kernel) (by decide) rfl rfl zRA_i (by decide +kernel) (by decide) (hz 35 (by decide)) (by decide) (by decide) (by decide) (by decide) (by decide) dX4_init_17 (fun q2 => ?_)
  refine rx_putF (tl := []) (k := 1) (fs' := [.ref q1, .ref q2, .null, .int 0, .int 0, .int 0]) Y cl_4 (by decide) fl_RX4_15 rfl hin rfl rfl rfl (zlt rfl) rfl dX4_init_19 ?_
  refine rx_aload_n Y dX4_init_22 rfl rfl ?_
  refine rx_sipush (v := 320) Y dX4_init_23 (by decide) ?_
  refine rx_newa (atype := .int) (ty := .int) (cn := 36) (n := 320) (t0 := 1) Y rfl ac_int (by decide +kernel) (by decide) rfl rfl zRA_i (by decide +kernel) (by decide) (hz 36 (by decide)) (by decide) (by decide) (by decide) (by decide) (by decide) dX4_init_26 (fun q3 => ?_)
  refine rx_putF (tl := []) (k := 2) (fs' := [.ref q1, .ref q2, .ref q3, .int 0, .int 0, .int 0]) Y cl_4 (by decide) fl_RX4_18 rfl hin rfl rfl rfl (zlt rfl) rfl dX4_init_28 ?_
  refine rx_done (o := 33) (N := 6) (by decide +kernel) (by decide) (by decide +kernel) (by decide) (zlc (congrArg Value.ref rfl) (zlc (congrArg Value.ref rfl) (zlc (congrArg Value.ref rfl) (zlc (congrArg Value.int (hz 33 (by decide) 3)) (zlc (congrArg Value.int (hz 33 (by decide) 4)) (zlc (congrArg Value.int (hz 33 (by decide) 5)) rfl)))))) ?_
  exact rx_end Y rfl (zAd_keep (by decide) (zAd_keep (by decide) (zAd_keep (by decide) (zAd_keep (by decide) (fun _ _ => rfl))))) rfl dX4_init_31

set_option maxRecDepth 100000 in
theorem kc_21 (l : Launch) (B : zBs) (M : zMem) (hz : ∀ c, c ∉ [15, 20, 19, 18, 17, 16, 14, 13, 8, 12, 11, 10, 9, 3, 7, 6, 5, 4, 1, 2] → ∀ i, M c i = 0) {r1 : Int32} {M1 : zMem} (hf : f_X7_startAnew 21 (zUp M 22 5 (-1)) = some (r1, M1)) : zKc l yX7_init cX7_init 4 { frames := 3, cells := 19, slots := 2287, locals := 61 } 19 2287 B 7 [.null, .null, .null, .null, .null, .null, .null, .null, .null, .int 0, .int 0, .int 0, .int 0, .int 0, .int 0, .int 0] [15, 20, 19, 18, 17, 16, 14, 13, 8, 12, 11, 10, 9, 3, 7, 6, 5, 4, 1, 2] [21, 33, 36, 35, 34, 25, 32, 31, 30, 29, 28, 27, 26, 22, 24, 23, 40, 39, 38, 37, 15, 20, 19, 18, 17, 16, 14, 13, 8, 12, 11, 10, 9, 3, 7, 6, 5, 4, 1, 2] 21 (fun ad => [.ref (ad 3), .ref (ad 14), .ref (ad 15)]) M M1 := by
  refine zKc.of (by decide) (fun ad a => [some (.ref a), some (.ref (ad 3)), some (.ref (ad 14)), some (.ref (ad 15))]) (fun ad a => rfl) (fun ad a => zle rfl) (fun ad a v hv => by simp only [List.mem_cons, List.not_mem_nil, or_false] at hv; rcases hv with rfl | rfl | rfl | rfl <;> rfl) ?_
  intro p e s m args below meth c ad a Y hin
  refine rx_aload_n Y dX7_init_0 rfl rfl ?_
  refine rx_obj Y ol_RX7 im_obj cd_obj rfl (by decide) (zle rfl) dX7_init_1 ?_
  refine rx_aload_n Y dX7_init_4 rfl rfl ?_
  refine rx_sipush (v := 300) Y dX7_init_5 (by decide) ?_
  refine rx_newa (atype := .int) (ty := .int) (cn := 37) (n := 300) (t0 := 1) Y rfl ac_int (by decide +kernel) (by decide) rfl rfl zRA_i (by decide +kernel) (by decide) (hz 37 (by decide)) (by decide) (by decide) (by decide) (by decide) (by decide) dX7_init_8 (fun q1 => ?_)
  refine rx_putF (tl := []) (k := 5) (fs' := [.null, .null, .null, .null, .null, .ref q1, .null, .null, .null, .int 0, .int 0, .int 0, .int 0, .int 0, .int 0, .int 0]) Y cl_7 (by decide) fl_RX7_9 rfl hin rfl rfl rfl (zlt rfl) rfl dX7_init_10 ?_
  refine rx_aload_n Y dX7_init_13 rfl rfl ?_
  refine rx_sipush (v := 300) Y dX7_init_14 (by decide) ?_
  refine rx_newa (atype := .int) (ty := .int) (cn := 38) (n := 300) (t0 := 1) Y rfl ac_int (by decide +kernel) (by decide) rfl rfl zRA_i (by decide +kernel) (by decide) (hz 38 (by decide)) (by decide) (by decide) (by decide) (by decide) (by decide) dX7_init_17 (fun q2 => ?_)
  refine rx_putF (tl := []) (k := 6) (fs' := [.null, .null, .null, .null, .null, .ref q1, .ref q2, .null, .null, .int 0, .int 0, .int 0, .int 0, .int 0, .int 0, .int 0]) Y cl_7 (by decide) fl_RX7_15 rfl hin rfl rfl rfl (zlt rfl) rfl dX7_init_19 ?_
  refine rx_aload_n Y dX7_init_22 rfl rfl ?_
  refine rx_sipush (v := 300) Y dX7_init_23 (by decide) ?_
  refine rx_newa (atype := .boolean) (ty := .boolean) (cn := 39) (n := 300) (t0 := 2) Y rfl ac_bool (by decide +kernel) (by decide) rfl rfl zRA_z (by decide +kernel) (by decide) (hz 39 (by decide)) (by decide) (by decide) (by decide) (by decide) (by decide) dX7_init_26 (fun q3 => ?_)
  refine rx_putF (tl := []) (k := 7) (fs' := [.null, .null, .null, .null, .null, .ref q1, .ref q2, .ref q3, .null, .int 0, .int 0, .int 0, .int 0, .int 0, .int 0, .int 0]) Y cl_7 (by decide) fl_RX7_18 rfl hin rfl rfl rfl (zlt rfl) rfl dX7_init_28 ?_
  refine rx_aload_n Y dX7_init_31 rfl rfl ?_
  refine rx_sipush (v := 300) Y dX7_init_32 (by decide) ?_
  refine rx_newa (atype := .boolean) (ty := .boolean) (cn := 40) (n := 300) (t0 := 2) Y rfl ac_bool (by decide +kernel) (by decide) rfl rfl zRA_z (by decide +kernel) (by decide) (hz 40 (by decide)) (by decide) (by decide) (by decide) (by decide) (by decide) dX7_init_35 (fun q4 => ?_)
  refine rx_putF (tl := []) (k := 8) (fs' := [.null, .null, .null, .null, .null, .ref q1, .ref q2, .ref q3, .ref q4, .int 0, .int 0, .int 0, .int 0, .int 0, .int 0, .int 0]) Y cl_7 (by decide) fl_RX7_22 rfl hin rfl rfl rfl (zlt rfl) rfl dX7_init_37 ?_
  refine rx_aload_n Y dX7_init_40 rfl rfl ?_
  refine rx_aload_n Y dX7_init_41 rfl rfl ?_
  refine rx_putF (tl := []) (k := 0) (fs' := [.ref (ad 3), .null, .null, .null, .null, .ref q1, .ref q2, .ref q3, .ref q4, .int 0, .int 0, .int 0, .int 0, .int 0, .int 0, .int 0]) Y cl_7 (by decide) fl_RX7_25 rfl hin rfl rfl rfl (zlt rfl) rfl dX7_init_42 ?_
  refine rx_aload_n Y dX7_init_45 rfl rfl ?_
  refine rx_aload_n Y dX7_init_46 rfl rfl ?_
  refine rx_putF (tl := []) (k := 1) (fs' := [.ref (ad 3), .ref (ad 15), .null, .null, .null, .ref q1, .ref q2, .ref q3, .ref q4, .int 0, .int 0, .int 0, .int 0, .int 0, .int 0, .int 0]) Y cl_7 (by decide) fl_RX7_29 rfl hin rfl rfl rfl (zlt rfl) rfl dX7_init_47 ?_
  refine rx_aload_n Y dX7_init_50 rfl rfl ?_
  refine rx_new Y cl_0 kl_RX7_33 ib_RX0 iz_RX0 (by decide +kernel) [.null, .null, .null, .null, .int 0, .int 0, .int 0, .int 0] (by decide +kernel) (by decide) (by decide) dX7_init_51 (fun q5 => ?_)
  refine rx_dup Y dX7_init_54 rfl ?_
  refine rx_aload_n Y dX7_init_55 rfl rfl ?_
  refine rx_aload_n Y dX7_init_56 rfl rfl ?_
  have hz7 : ∀ c, c ∉ [40, 39, 38, 37, 15, 20, 19, 18, 17, 16, 14, 13, 8, 12, 11, 10, 9, 3, 7, 6, 5, 4, 1, 2] → ∀ i, M c i = 0 := zhz (by decide) hz
  refine rx_ctorA (n := 2) (e0 := [(a, .inr (7, [.ref (ad 3), .ref (ad 15), .null, .null, .null, .ref q1, .ref q2, .ref q3, .ref q4, .int 0, .int 0, .int 0, .int 0, .int 0, .int 0, .int 0]))]) (As := [.ref (ad 3), .ref (ad 14)]) Y (kc_22 l B M hz7) (zv2 rfl rfl) cd_X0_init iz_RX0 ⟨by decide, by decide, by decide⟩ ml_RX7_35 im_X0_init rfl ⟨rfl, rfl⟩ ⟨by decide, by decide⟩ rfl rfl rfl (zle rfl) ⟨by decide, by decide⟩ dX7_init_57 (fun ad6 k6 e6 => ?_)
  have hz8 : ∀ c, c ∉ [22, 24, 23, 40, 39, 38, 37, 15, 20, 19, 18, 17, 16, 14, 13, 8, 12, 11, 10, 9, 3, 7, 6, 5, 4, 1, 2] → ∀ i, (zUp M 22 5 (-1)) c i = 0 := zhzU (by decide) (zhz (by decide) hz7)
  refine rx_putF (tl := []) (k := 2) (fs' := [.ref (ad 3), .ref (ad 15), .ref q5, .null, .null, .ref q1, .ref q2, .ref q3, .ref q4, .int 0, .int 0, .int 0, .int 0, .int 0, .int 0, .int 0]) Y cl_7 (by decide) fl_RX7_38 rfl hin rfl rfl rfl (zlt rfl) rfl dX7_init_60 ?_
  refine rx_aload_n Y dX7_init_63 rfl rfl ?_
  refine rx_new Y cl_3 kl_RX7_42 ib_RX3 iz_RX3 (by decide +kernel) [.null, .null, .null, .null, .null, .null, .null, .null, .int 0] (by decide +kernel) (by decide) (by decide) dX7_init_64 (fun q9 => ?_)
  refine rx_dup Y dX7_init_67 rfl ?_
  refine rx_aload_n Y dX7_init_68 rfl rfl ?_
  have hz11 : ∀ c, c ∉ [22, 24, 23, 40, 39, 38, 37, 15, 20, 19, 18, 17, 16, 14, 13, 8, 12, 11, 10, 9, 3, 7, 6, 5, 4, 1, 2] → ∀ i, (zUp M 22 5 (-1)) c i = 0 := zhz (by decide) hz8
  refine rx_ctorA (n := 1) (e0 := [(a, .inr (7, [.ref (ad 3), .ref (ad 15), .ref q5, .null, .null, .ref q1, .ref q2, .ref q3, .ref q4, .int 0, .int 0, .int 0, .int 0, .int 0, .int 0, .int 0]))]) (As := [.ref (ad 3)]) Y (kc_25 l B (zUp M 22 5 (-1)) hz11) (zv1 ((k6 3 (by decide)).trans rfl)) cd_X3_init iz_RX3 ⟨by decide, by decide, by decide⟩ ml_RX7_44 im_X3_init rfl ⟨rfl, rfl⟩ ⟨by decide, by decide⟩ rfl rfl rfl (zle rfl) ⟨by decide, by decide⟩ dX7_init_69 (fun ad10 k10 e10 => ?_)
  have hz12 : ∀ c, c ∉ [25, 32, 31, 30, 29, 28, 27, 26, 22, 24, 23, 40, 39, 38, 37, 15, 20, 19, 18, 17, 16, 14, 13, 8, 12, 11, 10, 9, 3, 7, 6, 5, 4, 1, 2] → ∀ i, (zUp M 22 5 (-1)) c i = 0 := zhz (by decide) hz11
  refine rx_putF (tl := []) (k := 3) (fs' := [.ref (ad 3), .ref (ad 15), .ref q5, .ref q9, .null, .ref q1, .ref q2, .ref q3, .ref q4, .int 0, .int 0, .int 0, .int 0, .int 0, .int 0, .int 0]) Y cl_7 (by decide) fl_RX7_47 rfl hin rfl rfl rfl (zlt rfl) rfl dX7_init_72 ?_
  refine rx_aload_n Y dX7_init_75 rfl rfl ?_
  refine rx_new Y cl_4 kl_RX7_51 ib_RX4 iz_RX4 (by decide +kernel) [.null, .null, .null, .int 0, .int 0, .int 0] (by decide +kernel) (by decide) (by decide) dX7_init_76 (fun q13 => ?_)
  refine rx_dup Y dX7_init_79 rfl ?_
  have hz15 : ∀ c, c ∉ [25, 32, 31, 30, 29, 28, 27, 26, 22, 24, 23, 40, 39, 38, 37, 15, 20, 19, 18, 17, 16, 14, 13, 8, 12, 11, 10, 9, 3, 7, 6, 5, 4, 1, 2] → ∀ i, (zUp M 22 5 (-1)) c i = 0 := zhz (by decide) hz12
  refine rx_ctorNA (n := 0) (e0 := [(a, .inr (7, [.ref (ad 3), .ref (ad 15), .ref q5, .ref q9, .null, .ref q1, .ref q2, .ref q3, .ref q4, .int 0, .int 0, .int 0, .int 0, .int 0, .int 0, .int 0]))]) (As := []) Y (kc_33 l B (zUp M 22 5 (-1)) hz15) rfl cd_X4_init iz_RX4 ⟨by decide, by decide, by decide⟩ zN_2 im_X4_init rfl ⟨rfl, rfl⟩ ⟨by decide, by decide⟩ rfl rfl rfl (zle rfl) ⟨by decide, by decide⟩ dX7_init_80 (fun ad14 k14 e14 => ?_)
  have hz16 : ∀ c, c ∉ [33, 36, 35, 34, 25, 32, 31, 30, 29, 28, 27, 26, 22, 24, 23, 40, 39, 38, 37, 15, 20, 19, 18, 17, 16, 14, 13, 8, 12, 11, 10, 9, 3, 7, 6, 5, 4, 1, 2] → ∀ i, (zUp M 22 5 (-1)) c i = 0 := zhz (by decide) hz15
  refine rx_putF (tl := []) (k := 4) (fs' := [.ref (ad 3), .ref (ad 15), .ref q5, .ref q9, .ref q13, .ref q1, .ref q2, .ref q3, .ref q4, .int 0, .int 0, .int 0, .int 0, .int 0, .int 0, .int 0]) Y cl_7 (by decide) fl_RX7_54 rfl hin rfl rfl rfl (zlt rfl) rfl dX7_init_83 ?_
  refine rx_done (o := 21) (N := 16) (by decide +kernel) (by decide) (by decide +kernel) (by decide) (zlc (congrArg Value.ref ((k14 3 (by decide)).trans ((k10 3 (by decide)).trans ((k6 3 (by decide)).trans rfl)))) (zlc (congrArg Value.ref ((k14 15 (by decide)).trans ((k10 15 (by decide)).trans ((k6 15 (by decide)).trans rfl)))) (zlc (congrArg Value.ref ((k14 22 (by decide)).trans ((k10 22 (by decide)).trans e6))) (zlc (congrArg Value.ref ((k14 25 (by decide)).trans e10)) (zlc (congrArg Value.ref e14) (zlc (congrArg Value.ref ((k14 37 (by decide)).trans ((k10 37 (by decide)).trans ((k6 37 (by decide)).trans rfl)))) (zlc (congrArg Value.ref ((k14 38 (by decide)).trans ((k10 38 (by decide)).trans ((k6 38 (by decide)).trans rfl)))) (zlc (congrArg Value.ref ((k14 39 (by decide)).trans ((k10 39 (by decide)).trans ((k6 39 (by decide)).trans rfl)))) (zlc (congrArg Value.ref ((k14 40 (by decide)).trans ((k10 40 (by decide)).trans ((k6 40 (by decide)).trans rfl)))) (zlc (congrArg Value.int (hz16 21 (by decide) 9)) (zlc (congrArg Value.int (hz16 21 (by decide) 10)) (zlc (congrArg Value.int (hz16 21 (by decide) 11)) (zlc (congrArg Value.int (hz16 21 (by decide) 12)) (zlc (congrArg Value.int (hz16 21 (by decide) 13)) (zlc (congrArg Value.int (hz16 21 (by decide) 14)) (zlc (congrArg Value.int (hz16 21 (by decide) 15)) rfl)))))))))))))))) ?_
  refine rx_aload_n Y dX7_init_86 rfl rfl ?_
  refine rx_callVv (o := 21) Y (by decide +kernel) (lk_X7_startAnew l _ 21 (zKd_of (zL_m.mpr (by decide)) (by decide +kernel))) hf (ca_X7_startAnew (by decide) (by decide)) ml_RX7_58 im_X7_startAnew se_X7_startAnew cl_7 (zKd_of (zL_m.mpr (by decide)) (by decide +kernel)) rfl rfl rfl (zle rfl) ⟨by decide, by decide⟩ dX7_init_87 ?_
  exact rx_end Y rfl (zAd_keep (by decide) (zAd_tr (by decide) k14 (zAd_tr (by decide) k10 (zAd_tr (by decide) k6 (zAd_keep (by decide) (zAd_keep (by decide) (zAd_keep (by decide) (zAd_keep (by decide) (fun _ _ => rfl))))))))) rfl dX7_init_90

set_option maxRecDepth 100000 in
theorem kc_42 (l : Launch) (B : zBs) (M : zMem) (hz : ∀ c, c ∉ [60, 59, 58, 57, 21, 33, 36, 35, 34, 25, 32, 31, 30, 29, 28, 27, 26, 22, 24, 23, 40, 39, 38, 37, 15, 20, 19, 18, 17, 16, 14, 13, 8, 12, 11, 10, 9, 3, 7, 6, 5, 4, 1, 2] → ∀ i, M c i = 0) : zKc l yX0_init cX0_init 3 { frames := 1, cells := 2, slots := 48, locals := 20 } 2 48 B 0 [.null, .null, .null, .null, .int 0, .int 0, .int 0, .int 0] [60, 59, 58, 57, 21, 33, 36, 35, 34, 25, 32, 31, 30, 29, 28, 27, 26, 22, 24, 23, 40, 39, 38, 37, 15, 20, 19, 18, 17, 16, 14, 13, 8, 12, 11, 10, 9, 3, 7, 6, 5, 4, 1, 2] [42, 44, 43, 60, 59, 58, 57, 21, 33, 36, 35, 34, 25, 32, 31, 30, 29, 28, 27, 26, 22, 24, 23, 40, 39, 38, 37, 15, 20, 19, 18, 17, 16, 14, 13, 8, 12, 11, 10, 9, 3, 7, 6, 5, 4, 1, 2] 42 (fun ad => [.ref (ad 3), .ref (ad 14)]) M (zUp M 42 5 (-1)) := by
  refine zKc.of (by decide) (fun ad a => [some (.ref a), some (.ref (ad 3)), some (.ref (ad 14))]) (fun ad a => rfl) (fun ad a => zle rfl) (fun ad a v hv => by simp only [List.mem_cons, List.not_mem_nil, or_false] at hv; rcases hv with rfl | rfl | rfl <;> rfl) ?_
  intro p e s m args below meth c ad a Y hin
  refine rx_aload_n Y dX0_init_0 rfl rfl ?_
  refine rx_obj Y ol_RX0 im_obj cd_obj rfl (by decide) (zle rfl) dX0_init_1 ?_
  refine rx_aload_n Y dX0_init_4 rfl rfl ?_
  refine rx_bipush (v := 24) Y dX0_init_5 (by decide) ?_
  refine rx_newa (atype := .int) (ty := .int) (cn := 43) (n := 24) (t0 := 1) Y rfl ac_int (by decide +kernel) (by decide) rfl rfl zRA_i (by decide +kernel) (by decide) (hz 43 (by decide)) (by decide) (by decide) (by decide) (by decide) (by decide) dX0_init_7 (fun q1 => ?_)
  refine rx_putF (tl := []) (k := 2) (fs' := [.null, .null, .ref q1, .null, .int 0, .int 0, .int 0, .int 0]) Y cl_0 (by decide) fl_RX0_9 rfl hin rfl rfl rfl (zlt rfl) rfl dX0_init_9 ?_
  refine rx_aload_n Y dX0_init_12 rfl rfl ?_
  refine rx_bipush (v := 24) Y dX0_init_13 (by decide) ?_
  refine rx_newa (atype := .int) (ty := .int) (cn := 44) (n := 24) (t0 := 1) Y rfl ac_int (by decide +kernel) (by decide) rfl rfl zRA_i (by decide +kernel) (by decide) (hz 44 (by decide)) (by decide) (by decide) (by decide) (by decide) (by decide) dX0_init_15 (fun q2 => ?_)
  refine rx_putF (tl := []) (k := 3) (fs' := [.null, .null, .ref q1, .ref q2, .int 0, .int 0, .int 0, .int 0]) Y cl_0 (by decide) fl_RX0_15 rfl hin rfl rfl rfl (zlt rfl) rfl dX0_init_17 ?_
  refine rx_aload_n Y dX0_init_20 rfl rfl ?_
  refine rx_iconst (v := -1) Y dX0_init_21 (by decide) ?_
  refine rx_putV (tl := []) (k := 5) (fs' := [.null, .null, .ref q1, .ref q2, .int 0, .int (-1), .int 0, .int 0]) Y cl_0 (by decide) fl_RX0_18 rfl rfl rfl (zlt rfl) rfl dX0_init_22 ?_
  refine rx_aload_n Y dX0_init_25 rfl rfl ?_
  refine rx_aload_n Y dX0_init_26 rfl rfl ?_
  refine rx_putF (tl := []) (k := 0) (fs' := [.ref (ad 3), .null, .ref q1, .ref q2, .int 0, .int (-1), .int 0, .int 0]) Y cl_0 (by decide) fl_RX0_22 rfl hin rfl rfl rfl (zlt rfl) rfl dX0_init_27 ?_
  refine rx_aload_n Y dX0_init_30 rfl rfl ?_
  refine rx_aload_n Y dX0_init_31 rfl rfl ?_
  refine rx_putF (tl := []) (k := 1) (fs' := [.ref (ad 3), .ref (ad 14), .ref q1, .ref q2, .int 0, .int (-1), .int 0, .int 0]) Y cl_0 (by decide) fl_RX0_26 rfl hin rfl rfl rfl (zlt rfl) rfl dX0_init_32 ?_
  refine rx_mem (M2 := (zUp M 42 5 (-1))) (fun b hb => zUp_off (fun e => (by decide : 42 ∉ [44, 43, 60, 59, 58, 57, 21, 33, 36, 35, 34, 25, 32, 31, 30, 29, 28, 27, 26, 22, 24, 23, 40, 39, 38, 37, 15, 20, 19, 18, 17, 16, 14, 13, 8, 12, 11, 10, 9, 3, 7, 6, 5, 4, 1, 2]) (e ▸ hb))) ?_
  refine rx_done (o := 42) (N := 8) (by decide +kernel) (by decide) (by decide +kernel) (by decide) (zlc (congrArg Value.ref rfl) (zlc (congrArg Value.ref rfl) (zlc (congrArg Value.ref rfl) (zlc (congrArg Value.ref rfl) (zlc (congrArg Value.int (hz 42 (by decide) 4)) (zlc rfl (zlc (congrArg Value.int (hz 42 (by decide) 6)) (zlc (congrArg Value.int (hz 42 (by decide) 7)) rfl)))))))) ?_
  exact rx_end Y rfl (zAd_keep (by decide) (zAd_keep (by decide) (zAd_keep (by decide) (fun _ _ => rfl)))) rfl dX0_init_35

set_option maxRecDepth 100000 in
theorem kc_45 (l : Launch) (B : zBs) (M : zMem) (hz : ∀ c, c ∉ [42, 44, 43, 60, 59, 58, 57, 21, 33, 36, 35, 34, 25, 32, 31, 30, 29, 28, 27, 26, 22, 24, 23, 40, 39, 38, 37, 15, 20, 19, 18, 17, 16, 14, 13, 8, 12, 11, 10, 9, 3, 7, 6, 5, 4, 1, 2] → ∀ i, M c i = 0) : zKc l yX3_init cX3_init 2 { frames := 1, cells := 7, slots := 56, locals := 20 } 7 56 B 3 [.null, .null, .null, .null, .null, .null, .null, .null, .int 0] [42, 44, 43, 60, 59, 58, 57, 21, 33, 36, 35, 34, 25, 32, 31, 30, 29, 28, 27, 26, 22, 24, 23, 40, 39, 38, 37, 15, 20, 19, 18, 17, 16, 14, 13, 8, 12, 11, 10, 9, 3, 7, 6, 5, 4, 1, 2] [45, 52, 51, 50, 49, 48, 47, 46, 42, 44, 43, 60, 59, 58, 57, 21, 33, 36, 35, 34, 25, 32, 31, 30, 29, 28, 27, 26, 22, 24, 23, 40, 39, 38, 37, 15, 20, 19, 18, 17, 16, 14, 13, 8, 12, 11, 10, 9, 3, 7, 6, 5, 4, 1, 2] 45 (fun ad => [.ref (ad 3)]) M M := by
  refine zKc.of (by decide) (fun ad a => [some (.ref a), some (.ref (ad 3))]) (fun ad a => rfl) (fun ad a => zle rfl) (fun ad a v hv => by simp only [List.mem_cons, List.not_mem_nil, or_false] at hv; rcases hv with rfl | rfl <;> rfl) ?_
  intro p e s m args below meth c ad a Y hin
  refine rx_aload_n Y dX3_init_0 rfl rfl ?_
  refine rx_obj Y ol_RX3 im_obj cd_obj rfl (by decide) (zle rfl) dX3_init_1 ?_
  refine rx_aload_n Y dX3_init_4 rfl rfl ?_
  refine rx_bipush (v := 8) Y dX3_init_5 (by decide) ?_
  refine rx_newa (atype := .int) (ty := .int) (cn := 46) (n := 8) (t0 := 1) Y rfl ac_int (by decide +kernel) (by decide) rfl rfl zRA_i (by decide +kernel) (by decide) (hz 46 (by decide)) (by decide) (by decide) (by decide) (by decide) (by decide) dX3_init_7 (fun q1 => ?_)
  refine rx_putF (tl := []) (k := 1) (fs' := [.null, .ref q1, .null, .null, .null, .null, .null, .null, .int 0]) Y cl_3 (by decide) fl_RX3_9 rfl hin rfl rfl rfl (zlt rfl) rfl dX3_init_9 ?_
  refine rx_aload_n Y dX3_init_12 rfl rfl ?_
  refine rx_bipush (v := 8) Y dX3_init_13 (by decide) ?_
  refine rx_newa (atype := .int) (ty := .int) (cn := 47) (n := 8) (t0 := 1) Y rfl ac_int (by decide +kernel) (by decide) rfl rfl zRA_i (by decide +kernel) (by decide) (hz 47 (by decide)) (by decide) (by decide) (by decide) (by decide) (by decide) dX3_init_15 (fun q2 => ?_)
  refine rx_putF (tl := []) (k := 2) (fs' := [.null, .ref q1, .ref q2, .null, .null, .null, .null, .null, .int 0]) Y cl_3 (by decide) fl_RX3_15 rfl hin rfl rfl rfl (zlt rfl) rfl dX3_init_17 ?_
  refine rx_aload_n Y dX3_init_20 rfl rfl ?_
  refine rx_bipush (v := 8) Y dX3_init_21 (by decide) ?_
  refine rx_newa (atype := .int) (ty := .int) (cn := 48) (n := 8) (t0 := 1) Y rfl ac_int (by decide +kernel) (by decide) rfl rfl zRA_i (by decide +kernel) (by decide) (hz 48 (by decide)) (by decide) (by decide) (by decide) (by decide) (by decide) dX3_init_23 (fun q3 => ?_)
  refine rx_putF (tl := []) (k := 3) (fs' := [.null, .ref q1, .ref q2, .ref q3, .null, .null, .null, .null, .int 0]) Y cl_3 (by decide) fl_RX3_18 rfl hin rfl rfl rfl (zlt rfl) rfl dX3_init_25 ?_
  refine rx_aload_n Y dX3_init_28 rfl rfl ?_
  refine rx_bipush (v := 8) Y dX3_init_29 (by decide) ?_
  refine rx_newa (atype := .int) (ty := .int) (cn := 49) (n := 8) (t0 := 1) Y rfl ac_int (by decide +kernel) (by decide) rfl rfl zRA_i (by decide +kernel) (by decide) (hz 49 (by decide)) (by decide) (by decide) (by decide) (by decide) (by decide) dX3_init_31 (fun q4 => ?_)
  refine rx_putF (tl := []) (k := 4) (fs' := [.null, .ref q1, .ref q2, .ref q3, .ref q4, .null, .null, .null, .int 0]) Y cl_3 (by decide) fl_RX3_21 rfl hin rfl rfl rfl (zlt rfl) rfl dX3_init_33 ?_
  refine rx_aload_n Y dX3_init_36 rfl rfl ?_
  refine rx_bipush (v := 8) Y dX3_init_37 (by decide) ?_
  refine rx_newa (atype := .int) (ty := .int) (cn := 50) (n := 8) (t0 := 1) Y rfl ac_int (by decide +kernel) (by decide) rfl rfl zRA_i (by decide +kernel) (by decide) (hz 50 (by decide)) (by decide) (by decide) (by decide) (by decide) (by decide) dX3_init_39 (fun q5 => ?_)
  refine rx_putF (tl := []) (k := 5) (fs' := [.null, .ref q1, .ref q2, .ref q3, .ref q4, .ref q5, .null, .null, .int 0]) Y cl_3 (by decide) fl_RX3_24 rfl hin rfl rfl rfl (zlt rfl) rfl dX3_init_41 ?_
  refine rx_aload_n Y dX3_init_44 rfl rfl ?_
  refine rx_bipush (v := 8) Y dX3_init_45 (by decide) ?_
  refine rx_newa (atype := .boolean) (ty := .boolean) (cn := 51) (n := 8) (t0 := 2) Y rfl ac_bool (by decide +kernel) (by decide) rfl rfl zRA_z (by decide +kernel) (by decide) (hz 51 (by decide)) (by decide) (by decide) (by decide) (by decide) (by decide) dX3_init_47 (fun q6 => ?_)
  refine rx_putF (tl := []) (k := 6) (fs' := [.null, .ref q1, .ref q2, .ref q3, .ref q4, .ref q5, .ref q6, .null, .int 0]) Y cl_3 (by decide) fl_RX3_27 rfl hin rfl rfl rfl (zlt rfl) rfl dX3_init_49 ?_
  refine rx_aload_n Y dX3_init_52 rfl rfl ?_
  refine rx_bipush (v := 8) Y dX3_init_53 (by decide) ?_
  refine rx_newa (atype := .boolean) (ty := .boolean) (cn := 52) (n := 8) (t0 := 2) Y rfl ac_bool (by decide +kernel) (by decide) rfl rfl zRA_z (by decide +kernel) (by decide) (hz 52 (by decide)) (by decide) (by decide) (by decide) (by decide) (by decide) dX3_init_55 (fun q7 => ?_)
  refine rx_putF (tl := []) (k := 7) (fs' := [.null, .ref q1, .ref q2, .ref q3, .ref q4, .ref q5, .ref q6, .ref q7, .int 0]) Y cl_3 (by decide) fl_RX3_31 rfl hin rfl rfl rfl (zlt rfl) rfl dX3_init_57 ?_
  refine rx_aload_n Y dX3_init_60 rfl rfl ?_
  refine rx_aload_n Y dX3_init_61 rfl rfl ?_
  refine rx_putF (tl := []) (k := 0) (fs' := [.ref (ad 3), .ref q1, .ref q2, .ref q3, .ref q4, .ref q5, .ref q6, .ref q7, .int 0]) Y cl_3 (by decide) fl_RX3_34 rfl hin rfl rfl rfl (zlt rfl) rfl dX3_init_62 ?_
  refine rx_done (o := 45) (N := 9) (by decide +kernel) (by decide) (by decide +kernel) (by decide) (zlc (congrArg Value.ref rfl) (zlc (congrArg Value.ref rfl) (zlc (congrArg Value.ref rfl) (zlc (congrArg Value.ref rfl) (zlc (congrArg Value.ref rfl) (zlc (congrArg Value.ref rfl) (zlc (congrArg Value.ref rfl) (zlc (congrArg Value.ref rfl) (zlc (congrArg Value.int (hz 45 (by decide) 8)) rfl))))))))) ?_
  exact rx_end Y rfl (zAd_keep (by decide) (zAd_keep (by decide) (zAd_keep (by decide) (zAd_keep (by decide) (zAd_keep (by decide) (zAd_keep (by decide) (zAd_keep (by decide) (zAd_keep (by decide) (fun _ _ => rfl))))))))) rfl dX3_init_65

set_option maxRecDepth 100000 in
theorem kc_53 (l : Launch) (B : zBs) (M : zMem) (hz : ∀ c, c ∉ [45, 52, 51, 50, 49, 48, 47, 46, 42, 44, 43, 60, 59, 58, 57, 21, 33, 36, 35, 34, 25, 32, 31, 30, 29, 28, 27, 26, 22, 24, 23, 40, 39, 38, 37, 15, 20, 19, 18, 17, 16, 14, 13, 8, 12, 11, 10, 9, 3, 7, 6, 5, 4, 1, 2] → ∀ i, M c i = 0) : zKc l yX4_init cX4_init 1 { frames := 1, cells := 3, slots := 960, locals := 20 } 3 960 B 4 [.null, .null, .null, .int 0, .int 0, .int 0] [45, 52, 51, 50, 49, 48, 47, 46, 42, 44, 43, 60, 59, 58, 57, 21, 33, 36, 35, 34, 25, 32, 31, 30, 29, 28, 27, 26, 22, 24, 23, 40, 39, 38, 37, 15, 20, 19, 18, 17, 16, 14, 13, 8, 12, 11, 10, 9, 3, 7, 6, 5, 4, 1, 2] [53, 56, 55, 54, 45, 52, 51, 50, 49, 48, 47, 46, 42, 44, 43, 60, 59, 58, 57, 21, 33, 36, 35, 34, 25, 32, 31, 30, 29, 28, 27, 26, 22, 24, 23, 40, 39, 38, 37, 15, 20, 19, 18, 17, 16, 14, 13, 8, 12, 11, 10, 9, 3, 7, 6, 5, 4, 1, 2] 53 (fun _ => []) M M := by
  refine zKc.of (by decide) (fun ad a => [some (.ref a)]) (fun ad a => rfl) (fun ad a => zle rfl) (fun ad a v hv => by simp only [List.mem_cons, List.not_mem_nil, or_false] at hv; rcases hv with rfl <;> rfl) ?_
  intro p e s m args below meth c ad a Y hin
  refine rx_aload_n Y dX4_init_0 rfl rfl ?_
  refine rx_obj Y ol_RX4 im_obj cd_obj rfl (by decide) (zle rfl) dX4_init_1 ?_
  refine rx_aload_n Y dX4_init_4 rfl rfl ?_
  refine rx_sipush (v := 320) Y dX4_init_5 (by decide) ?_
  refine rx_newa (atype := .int) (ty := .int) (cn := 54) (n := 320) (t0 := 1) Y rfl ac_int (by decide +kernel) (by decide) rfl rfl zRA_i (by decide +kernel) (by decide) (hz 54 (by decide)) (by decide) (by decide) (by decide) (by decide) (by decide) dX4_init_8 (fun q1 => ?_)
  refine rx_putF (tl := []) (k := 0) (fs' := [.ref q1, .null, .null, .int 0, .int 0, .int 0]) Y cl_4 (by decide) fl_RX4_9 rfl hin rfl rfl rfl (zlt rfl) rfl dX4_init_10 ?_
  refine rx_aload_n Y dX4_init_13 rfl rfl ?_
  refine rx_sipush (v := 320) Y dX4_init_14 (by decide) ?_
  refine rx_newa (atype := .int) (ty := .int) (cn := 55) (n := 320) (t0 := 1) Y rfl ac_int (by decide +kernel) (by decide) rfl rfl zRA_i (by decide +kernel) (by decide) (hz 55 (by decide)) (by decide) (by decide) (by decide) (by decide) (by decide) dX4_init_17 (fun q2 => ?_)
  refine rx_putF (tl := []) (k := 1) (fs' := [.ref q1, .ref q2, .null, .int 0, .int 0, .int 0]) Y cl_4 (by decide) fl_RX4_15 rfl hin rfl rfl rfl (zlt rfl) rfl dX4_init_19 ?_
  refine rx_aload_n Y dX4_init_22 rfl rfl ?_
  refine rx_sipush (v := 320) Y dX4_init_23 (by decide) ?_
  refine rx_newa (atype := .int) (ty := .int) (cn := 56) (n := 320) (t0 := 1) Y rfl ac_int (by decide +kernel) (by decide) rfl rfl zRA_i (by decide +kernel) (by decide) (hz 56 (by decide)) (by decide) (by decide) (by decide) (by decide) (by decide) dX4_init_26 (fun q3 => ?_)
  refine rx_putF (tl := []) (k := 2) (fs' := [.ref q1, .ref q2, .ref q3, .int 0, .int 0, .int 0]) Y cl_4 (by decide) fl_RX4_18 rfl hin rfl rfl rfl (zlt rfl) rfl dX4_init_28 ?_
  refine rx_done (o := 53) (N := 6) (by decide +kernel) (by decide) (by decide +kernel) (by decide) (zlc (congrArg Value.ref rfl) (zlc (congrArg Value.ref rfl) (zlc (congrArg Value.ref rfl) (zlc (congrArg Value.int (hz 53 (by decide) 3)) (zlc (congrArg Value.int (hz 53 (by decide) 4)) (zlc (congrArg Value.int (hz 53 (by decide) 5)) rfl)))))) ?_
  exact rx_end Y rfl (zAd_keep (by decide) (zAd_keep (by decide) (zAd_keep (by decide) (zAd_keep (by decide) (fun _ _ => rfl))))) rfl dX4_init_31

set_option maxRecDepth 100000 in
theorem kc_41 (l : Launch) (B : zBs) (M : zMem) (hz : ∀ c, c ∉ [21, 33, 36, 35, 34, 25, 32, 31, 30, 29, 28, 27, 26, 22, 24, 23, 40, 39, 38, 37, 15, 20, 19, 18, 17, 16, 14, 13, 8, 12, 11, 10, 9, 3, 7, 6, 5, 4, 1, 2] → ∀ i, M c i = 0) {r1 : Int32} {M1 : zMem} (hf : f_X7_startAnew 41 (zUp M 42 5 (-1)) = some (r1, M1)) : zKc l yX7_init cX7_init 4 { frames := 3, cells := 19, slots := 2287, locals := 61 } 19 2287 B 7 [.null, .null, .null, .null, .null, .null, .null, .null, .null, .int 0, .int 0, .int 0, .int 0, .int 0, .int 0, .int 0] [21, 33, 36, 35, 34, 25, 32, 31, 30, 29, 28, 27, 26, 22, 24, 23, 40, 39, 38, 37, 15, 20, 19, 18, 17, 16, 14, 13, 8, 12, 11, 10, 9, 3, 7, 6, 5, 4, 1, 2] [41, 53, 56, 55, 54, 45, 52, 51, 50, 49, 48, 47, 46, 42, 44, 43, 60, 59, 58, 57, 21, 33, 36, 35, 34, 25, 32, 31, 30, 29, 28, 27, 26, 22, 24, 23, 40, 39, 38, 37, 15, 20, 19, 18, 17, 16, 14, 13, 8, 12, 11, 10, 9, 3, 7, 6, 5, 4, 1, 2] 41 (fun ad => [.ref (ad 3), .ref (ad 14), .ref (ad 15)]) M M1 := by
  refine zKc.of (by decide) (fun ad a => [some (.ref a), some (.ref (ad 3)), some (.ref (ad 14)), some (.ref (ad 15))]) (fun ad a => rfl) (fun ad a => zle rfl) (fun ad a v hv => by simp only [List.mem_cons, List.not_mem_nil, or_false] at hv; rcases hv with rfl | rfl | rfl | rfl <;> rfl) ?_
  intro p e s m args below meth c ad a Y hin
  refine rx_aload_n Y dX7_init_0 rfl rfl ?_
  refine rx_obj Y ol_RX7 im_obj cd_obj rfl (by decide) (zle rfl) dX7_init_1 ?_
  refine rx_aload_n Y dX7_init_4 rfl rfl ?_
  refine rx_sipush (v := 300) Y dX7_init_5 (by decide) ?_
  refine rx_newa (atype := .int) (ty := .int) (cn := 57) (n := 300) (t0 := 1) Y rfl ac_int (by decide +kernel) (by decide) rfl rfl zRA_i (by decide +kernel) (by decide) (hz 57 (by decide)) (by decide) (by decide) (by decide) (by decide) (by decide) dX7_init_8 (fun q1 => ?_)
  refine rx_putF (tl := []) (k := 5) (fs' := [.null, .null, .null, .null, .null, .ref q1, .null, .null, .null, .int 0, .int 0, .int 0, .int 0, .int 0, .int 0, .int 0]) Y cl_7 (by decide) fl_RX7_9 rfl hin rfl rfl rfl (zlt rfl) rfl dX7_init_10 ?_
  refine rx_aload_n Y dX7_init_13 rfl rfl ?_
  refine rx_sipush (v := 300) Y dX7_init_14 (by decide) ?_
  refine rx_newa (atype := .int) (ty := .int) (cn := 58) (n := 300) (t0 := 1) Y rfl ac_int (by decide +kernel) (by decide) rfl rfl zRA_i (by decide +kernel) (by decide) (hz 58 (by decide)) (by decide) (by decide) (by decide) (by decide) (by decide) dX7_init_17 (fun q2 => ?_)
  refine rx_putF (tl := []) (k := 6) (fs' := [.null, .null, .null, .null, .null, .ref q1, .ref q2, .null, .null, .int 0, .int 0, .int 0, .int 0, .int 0, .int 0, .int 0]) Y cl_7 (by decide) fl_RX7_15 rfl hin rfl rfl rfl (zlt rfl) rfl dX7_init_19 ?_
  refine rx_aload_n Y dX7_init_22 rfl rfl ?_
  refine rx_sipush (v := 300) Y dX7_init_23 (by decide) ?_
  refine rx_newa (atype := .boolean) (ty := .boolean) (cn := 59) (n := 300) (t0 := 2) Y rfl ac_bool (by decide +kernel) (by decide) rfl rfl zRA_z (by decide +kernel) (by decide) (hz 59 (by decide)) (by decide) (by decide) (by decide) (by decide) (by decide) dX7_init_26 (fun q3 => ?_)
  refine rx_putF (tl := []) (k := 7) (fs' := [.null, .null, .null, .null, .null, .ref q1, .ref q2, .ref q3, .null, .int 0, .int 0, .int 0, .int 0, .int 0, .int 0, .int 0]) Y cl_7 (by decide) fl_RX7_18 rfl hin rfl rfl rfl (zlt rfl) rfl dX7_init_28 ?_
  refine rx_aload_n Y dX7_init_31 rfl rfl ?_
  refine rx_sipush (v := 300) Y dX7_init_32 (by decide) ?_
  refine rx_newa (atype := .boolean) (ty := .boolean) (cn := 60) (n := 300) (t0 := 2) Y rfl ac_bool (by decide +kernel) (by decide) rfl rfl zRA_z (by decide +kernel) (by decide) (hz 60 (by decide)) (by decide) (by decide) (by decide) (by decide) (by decide) dX7_init_35 (fun q4 => ?_)
  refine rx_putF (tl := []) (k := 8) (fs' := [.null, .null, .null, .null, .null, .ref q1, .ref q2, .ref q3, .ref q4, .int 0, .int 0, .int 0, .int 0, .int 0, .int 0, .int 0]) Y cl_7 (by decide) fl_RX7_22 rfl hin rfl rfl rfl (zlt rfl) rfl dX7_init_37 ?_
  refine rx_aload_n Y dX7_init_40 rfl rfl ?_
  refine rx_aload_n Y dX7_init_41 rfl rfl ?_
  refine rx_putF (tl := []) (k := 0) (fs' := [.ref (ad 3), .null, .null, .null, .null, .ref q1, .ref q2, .ref q3, .ref q4, .int 0, .int 0, .int 0, .int 0, .int 0, .int 0, .int 0]) Y cl_7 (by decide) fl_RX7_25 rfl hin rfl rfl rfl (zlt rfl) rfl dX7_init_42 ?_
  refine rx_aload_n Y dX7_init_45 rfl rfl ?_
  refine rx_aload_n Y dX7_init_46 rfl rfl ?_
  refine rx_putF (tl := []) (k := 1) (fs' := [.ref (ad 3), .ref (ad 15), .null, .null, .null, .ref q1, .ref q2, .ref q3, .ref q4, .int 0, .int 0, .int 0, .int 0, .int 0, .int 0, .int 0]) Y cl_7 (by decide) fl_RX7_29 rfl hin rfl rfl rfl (zlt rfl) rfl dX7_init_47 ?_
  refine rx_aload_n Y dX7_init_50 rfl rfl ?_
  refine rx_new Y cl_0 kl_RX7_33 ib_RX0 iz_RX0 (by decide +kernel) [.null, .null, .null, .null, .int 0, .int 0, .int 0, .int 0] (by decide +kernel) (by decide) (by decide) dX7_init_51 (fun q5 => ?_)
  refine rx_dup Y dX7_init_54 rfl ?_
  refine rx_aload_n Y dX7_init_55 rfl rfl ?_
  refine rx_aload_n Y dX7_init_56 rfl rfl ?_
  have hz7 : ∀ c, c ∉ [60, 59, 58, 57, 21, 33, 36, 35, 34, 25, 32, 31, 30, 29, 28, 27, 26, 22, 24, 23, 40, 39, 38, 37, 15, 20, 19, 18, 17, 16, 14, 13, 8, 12, 11, 10, 9, 3, 7, 6, 5, 4, 1, 2] → ∀ i, M c i = 0 := zhz (by decide) hz
  refine rx_ctorA (n := 2) (e0 := [(a, .inr (7, [.ref (ad 3), .ref (ad 15), .null, .null, .null, .ref q1, .ref q2, .ref q3, .ref q4, .int 0, .int 0, .int 0, .int 0, .int 0, .int 0, .int 0]))]) (As := [.ref (ad 3), .ref (ad 14)]) Y (kc_42 l B M hz7) (zv2 rfl rfl) cd_X0_init iz_RX0 ⟨by decide, by decide, by decide⟩ ml_RX7_35 im_X0_init rfl ⟨rfl, rfl⟩ ⟨by decide, by decide⟩ rfl rfl rfl (zle rfl) ⟨by decide, by decide⟩ dX7_init_57 (fun ad6 k6 e6 => ?_)
  have hz8 : ∀ c, c ∉ [42, 44, 43, 60, 59, 58, 57, 21, 33, 36, 35, 34, 25, 32, 31, 30, 29, 28, 27, 26, 22, 24, 23, 40, 39, 38, 37, 15, 20, 19, 18, 17, 16, 14, 13, 8, 12, 11, 10, 9, 3, 7, 6, 5, 4, 1, 2] → ∀ i, (zUp M 42 5 (-1)) c i = 0 := zhzU (by decide) (zhz (by decide) hz7)
  refine rx_putF (tl := []) (k := 2) (fs' := [.ref (ad 3), .ref (ad 15), .ref q5, .null, .null, .ref q1, .ref q2, .ref q3, .ref q4, .int 0, .int 0, .int 0, .int 0, .int 0, .int 0, .int 0]) Y cl_7 (by decide) fl_RX7_38 rfl hin rfl rfl rfl (zlt rfl) rfl dX7_init_60 ?_
  refine rx_aload_n Y dX7_init_63 rfl rfl ?_
  refine rx_new Y cl_3 kl_RX7_42 ib_RX3 iz_RX3 (by decide +kernel) [.null, .null, .null, .null, .null, .null, .null, .null, .int 0] (by decide +kernel) (by decide) (by decide) dX7_init_64 (fun q9 => ?_)
  refine rx_dup Y dX7_init_67 rfl ?_
  refine rx_aload_n Y dX7_init_68 rfl rfl ?_
  have hz11 : ∀ c, c ∉ [42, 44, 43, 60, 59, 58, 57, 21, 33, 36, 35, 34, 25, 32, 31, 30, 29, 28, 27, 26, 22, 24, 23, 40, 39, 38, 37, 15, 20, 19, 18, 17, 16, 14, 13, 8, 12, 11, 10, 9, 3, 7, 6, 5, 4, 1, 2] → ∀ i, (zUp M 42 5 (-1)) c i = 0 := zhz (by decide) hz8
  refine rx_ctorA (n := 1) (e0 := [(a, .inr (7, [.ref (ad 3), .ref (ad 15), .ref q5, .null, .null, .ref q1, .ref q2, .ref q3, .ref q4, .int 0, .int 0, .int 0, .int 0, .int 0, .int 0, .int 0]))]) (As := [.ref (ad 3)]) Y (kc_45 l B (zUp M 42 5 (-1)) hz11) (zv1 ((k6 3 (by decide)).trans rfl)) cd_X3_init iz_RX3 ⟨by decide, by decide, by decide⟩ ml_RX7_44 im_X3_init rfl ⟨rfl, rfl⟩ ⟨by decide, by decide⟩ rfl rfl rfl (zle rfl) ⟨by decide, by decide⟩ dX7_init_69 (fun ad10 k10 e10 => ?_)
  have hz12 : ∀ c, c ∉ [45, 52, 51, 50, 49, 48, 47, 46, 42, 44, 43, 60, 59, 58, 57, 21, 33, 36, 35, 34, 25, 32, 31, 30, 29, 28, 27, 26, 22, 24, 23, 40, 39, 38, 37, 15, 20, 19, 18, 17, 16, 14, 13, 8, 12, 11, 10, 9, 3, 7, 6, 5, 4, 1, 2] → ∀ i, (zUp M 42 5 (-1)) c i = 0 := zhz (by decide) hz11
  refine rx_putF (tl := []) (k := 3) (fs' := [.ref (ad 3), .ref (ad 15), .ref q5, .ref q9, .null, .ref q1, .ref q2, .ref q3, .ref q4, .int 0, .int 0, .int 0, .int 0, .int 0, .int 0, .int 0]) Y cl_7 (by decide) fl_RX7_47 rfl hin rfl rfl rfl (zlt rfl) rfl dX7_init_72 ?_
  refine rx_aload_n Y dX7_init_75 rfl rfl ?_
  refine rx_new Y cl_4 kl_RX7_51 ib_RX4 iz_RX4 (by decide +kernel) [.null, .null, .null, .int 0, .int 0, .int 0] (by decide +kernel) (by decide) (by decide) dX7_init_76 (fun q13 => ?_)
  refine rx_dup Y dX7_init_79 rfl ?_
  have hz15 : ∀ c, c ∉ [45, 52, 51, 50, 49, 48, 47, 46, 42, 44, 43, 60, 59, 58, 57, 21, 33, 36, 35, 34, 25, 32, 31, 30, 29, 28, 27, 26, 22, 24, 23, 40, 39, 38, 37, 15, 20, 19, 18, 17, 16, 14, 13, 8, 12, 11, 10, 9, 3, 7, 6, 5, 4, 1, 2] → ∀ i, (zUp M 42 5 (-1)) c i = 0 := zhz (by decide) hz12
  refine rx_ctorNA (n := 0) (e0 := [(a, .inr (7, [.ref (ad 3), .ref (ad 15), .ref q5, .ref q9, .null, .ref q1, .ref q2, .ref q3, .ref q4, .int 0, .int 0, .int 0, .int 0, .int 0, .int 0, .int 0]))]) (As := []) Y (kc_53 l B (zUp M 42 5 (-1)) hz15) rfl cd_X4_init iz_RX4 ⟨by decide, by decide, by decide⟩ zN_2 im_X4_init rfl ⟨rfl, rfl⟩ ⟨by decide, by decide⟩ rfl rfl rfl (zle rfl) ⟨by decide, by decide⟩ dX7_init_80 (fun ad14 k14 e14 => ?_)
  have hz16 : ∀ c, c ∉ [53, 56, 55, 54, 45, 52, 51, 50, 49, 48, 47, 46, 42, 44, 43, 60, 59, 58, 57, 21, 33, 36, 35, 34, 25, 32, 31, 30, 29, 28, 27, 26, 22, 24, 23, 40, 39, 38, 37, 15, 20, 19, 18, 17, 16, 14, 13, 8, 12, 11, 10, 9, 3, 7, 6, 5, 4, 1, 2] → ∀ i, (zUp M 42 5 (-1)) c i = 0 := zhz (by decide) hz15
  refine rx_putF (tl := []) (k := 4) (fs' := [.ref (ad 3), .ref (ad 15), .ref q5, .ref q9, .ref q13, .ref q1, .ref q2, .ref q3, .ref q4, .int 0, .int 0, .int 0, .int 0, .int 0, .int 0, .int 0]) Y cl_7 (by decide) fl_RX7_54 rfl hin rfl rfl rfl (zlt rfl) rfl dX7_init_83 ?_
  refine rx_done (o := 41) (N := 16) (by decide +kernel) (by decide) (by decide +kernel) (by decide) (zlc (congrArg Value.ref ((k14 3 (by decide)).trans ((k10 3 (by decide)).trans ((k6 3 (by decide)).trans rfl)))) (zlc (congrArg Value.ref ((k14 15 (by decide)).trans ((k10 15 (by decide)).trans ((k6 15 (by decide)).trans rfl)))) (zlc (congrArg Value.ref ((k14 42 (by decide)).trans ((k10 42 (by decide)).trans e6))) (zlc (congrArg Value.ref ((k14 45 (by decide)).trans e10)) (zlc (congrArg Value.ref e14) (zlc (congrArg Value.ref ((k14 57 (by decide)).trans ((k10 57 (by decide)).trans ((k6 57 (by decide)).trans rfl)))) (zlc (congrArg Value.ref ((k14 58 (by decide)).trans ((k10 58 (by decide)).trans ((k6 58 (by decide)).trans rfl)))) (zlc (congrArg Value.ref ((k14 59 (by decide)).trans ((k10 59 (by decide)).trans ((k6 59 (by decide)).trans rfl)))) (zlc (congrArg Value.ref ((k14 60 (by decide)).trans ((k10 60 (by decide)).trans ((k6 60 (by decide)).trans rfl)))) (zlc (congrArg Value.int (hz16 41 (by decide) 9)) (zlc (congrArg Value.int (hz16 41 (by decide) 10)) (zlc (congrArg Value.int (hz16 41 (by decide) 11)) (zlc (congrArg Value.int (hz16 41 (by decide) 12)) (zlc (congrArg Value.int (hz16 41 (by decide) 13)) (zlc (congrArg Value.int (hz16 41 (by decide) 14)) (zlc (congrArg Value.int (hz16 41 (by decide) 15)) rfl)))))))))))))))) ?_
  refine rx_aload_n Y dX7_init_86 rfl rfl ?_
  refine rx_callVv (o := 41) Y (by decide +kernel) (lk_X7_startAnew l _ 41 (zKd_of (zL_m.mpr (by decide)) (by decide +kernel))) hf (ca_X7_startAnew (by decide) (by decide)) ml_RX7_58 im_X7_startAnew se_X7_startAnew cl_7 (zKd_of (zL_m.mpr (by decide)) (by decide +kernel)) rfl rfl rfl (zle rfl) ⟨by decide, by decide⟩ dX7_init_87 ?_
  exact rx_end Y rfl (zAd_keep (by decide) (zAd_tr (by decide) k14 (zAd_tr (by decide) k10 (zAd_tr (by decide) k6 (zAd_keep (by decide) (zAd_keep (by decide) (zAd_keep (by decide) (zAd_keep (by decide) (fun _ _ => rfl))))))))) rfl dX7_init_90

set_option maxRecDepth 100000 in
theorem kc_61 (l : Launch) (B : zBs) (M : zMem) (hz : ∀ c, c ∉ [41, 53, 56, 55, 54, 45, 52, 51, 50, 49, 48, 47, 46, 42, 44, 43, 60, 59, 58, 57, 21, 33, 36, 35, 34, 25, 32, 31, 30, 29, 28, 27, 26, 22, 24, 23, 40, 39, 38, 37, 15, 20, 19, 18, 17, 16, 14, 13, 8, 12, 11, 10, 9, 3, 7, 6, 5, 4, 1, 2] → ∀ i, M c i = 0) : zKc l yX0_init cX0_init 3 { frames := 1, cells := 2, slots := 48, locals := 20 } 2 48 B 0 [.null, .null, .null, .null, .int 0, .int 0, .int 0, .int 0] [41, 53, 56, 55, 54, 45, 52, 51, 50, 49, 48, 47, 46, 42, 44, 43, 60, 59, 58, 57, 21, 33, 36, 35, 34, 25, 32, 31, 30, 29, 28, 27, 26, 22, 24, 23, 40, 39, 38, 37, 15, 20, 19, 18, 17, 16, 14, 13, 8, 12, 11, 10, 9, 3, 7, 6, 5, 4, 1, 2] [61, 63, 62, 41, 53, 56, 55, 54, 45, 52, 51, 50, 49, 48, 47, 46, 42, 44, 43, 60, 59, 58, 57, 21, 33, 36, 35, 34, 25, 32, 31, 30, 29, 28, 27, 26, 22, 24, 23, 40, 39, 38, 37, 15, 20, 19, 18, 17, 16, 14, 13, 8, 12, 11, 10, 9, 3, 7, 6, 5, 4, 1, 2] 61 (fun ad => [.ref (ad 3), .ref (ad 14)]) M (zUp M 61 5 (-1)) := by
  refine zKc.of (by decide) (fun ad a => [some (.ref a), some (.ref (ad 3)), some (.ref (ad 14))]) (fun ad a => rfl) (fun ad a => zle rfl) (fun ad a v hv => by simp only [List.mem_cons, List.not_mem_nil, or_false] at hv; rcases hv with rfl | rfl | rfl <;> rfl) ?_
  intro p e s m args below meth c ad a Y hin
  refine rx_aload_n Y dX0_init_0 rfl rfl ?_
  refine rx_obj Y ol_RX0 im_obj cd_obj rfl (by decide) (zle rfl) dX0_init_1 ?_
  refine rx_aload_n Y dX0_init_4 rfl rfl ?_
  refine rx_bipush (v := 24) Y dX0_init_5 (by decide) ?_
  refine rx_newa (atype := .int) (ty := .int) (cn := 62) (n := 24) (t0 := 1) Y rfl ac_int (by decide +kernel) (by decide) rfl rfl zRA_i (by decide +kernel) (by decide) (hz 62 (by decide)) (by decide) (by decide) (by decide) (by decide) (by decide) dX0_init_7 (fun q1 => ?_)
  refine rx_putF (tl := []) (k := 2) (fs' := [.null, .null, .ref q1, .null, .int 0, .int 0, .int 0, .int 0]) Y cl_0 (by decide) fl_RX0_9 rfl hin rfl rfl rfl (zlt rfl) rfl dX0_init_9 ?_
  refine rx_aload_n Y dX0_init_12 rfl rfl ?_
  refine rx_bipush (v := 24) Y dX0_init_13 (by decide) ?_
  refine rx_newa (atype := .int) (ty := .int) (cn := 63) (n := 24) (t0 := 1) Y rfl ac_int (by decide +kernel) (by decide) rfl rfl zRA_i (by decide +kernel) (by decide) (hz 63 (by decide)) (by decide) (by decide) (by decide) (by decide) (by decide) dX0_init_15 (fun q2 => ?_)
  refine rx_putF (tl := []) (k := 3) (fs' := [.null, .null, .ref q1, .ref q2, .int 0, .int 0, .int 0, .int 0]) Y cl_0 (by decide) fl_RX0_15 rfl hin rfl rfl rfl (zlt rfl) rfl dX0_init_17 ?_
  refine rx_aload_n Y dX0_init_20 rfl rfl ?_
  refine rx_iconst (v := -1) Y dX0_init_21 (by decide) ?_
  refine rx_putV (tl := []) (k := 5) (fs' := [.null, .null, .ref q1, .ref q2, .int 0, .int (-1), .int 0, .int 0]) Y cl_0 (by decide) fl_RX0_18 rfl rfl rfl (zlt rfl) rfl dX0_init_22 ?_
  refine rx_aload_n Y dX0_init_25 rfl rfl ?_
  refine rx_aload_n Y dX0_init_26 rfl rfl ?_
  refine rx_putF (tl := []) (k := 0) (fs' := [.ref (ad 3), .null, .ref q1, .ref q2, .int 0, .int (-1), .int 0, .int 0]) Y cl_0 (by decide) fl_RX0_22 rfl hin rfl rfl rfl (zlt rfl) rfl dX0_init_27 ?_
  refine rx_aload_n Y dX0_init_30 rfl rfl ?_
  refine rx_aload_n Y dX0_init_31 rfl rfl ?_
  refine rx_putF (tl := []) (k := 1) (fs' := [.ref (ad 3), .ref (ad 14), .ref q1, .ref q2, .int 0, .int (-1), .int 0, .int 0]) Y cl_0 (by decide) fl_RX0_26 rfl hin rfl rfl rfl (zlt rfl) rfl dX0_init_32 ?_
  refine rx_mem (M2 := (zUp M 61 5 (-1))) (fun b hb => zUp_off (fun e => (by decide : 61 ∉ [63, 62, 41, 53, 56, 55, 54, 45, 52, 51, 50, 49, 48, 47, 46, 42, 44, 43, 60, 59, 58, 57, 21, 33, 36, 35, 34, 25, 32, 31, 30, 29, 28, 27, 26, 22, 24, 23, 40, 39, 38, 37, 15, 20, 19, 18, 17, 16, 14, 13, 8, 12, 11, 10, 9, 3, 7, 6, 5, 4, 1, 2]) (e ▸ hb))) ?_
  refine rx_done (o := 61) (N := 8) (by decide +kernel) (by decide) (by decide +kernel) (by decide) (zlc (congrArg Value.ref rfl) (zlc (congrArg Value.ref rfl) (zlc (congrArg Value.ref rfl) (zlc (congrArg Value.ref rfl) (zlc (congrArg Value.int (hz 61 (by decide) 4)) (zlc rfl (zlc (congrArg Value.int (hz 61 (by decide) 6)) (zlc (congrArg Value.int (hz 61 (by decide) 7)) rfl)))))))) ?_
  exact rx_end Y rfl (zAd_keep (by decide) (zAd_keep (by decide) (zAd_keep (by decide) (fun _ _ => rfl)))) rfl dX0_init_35
