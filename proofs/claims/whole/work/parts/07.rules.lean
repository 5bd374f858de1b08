/-! ===== one rule an instruction, for trees ===== -/
section ZR
variable {p : Program} {l : Launch} {e : Env} {R : Room} {s : State} {m : MethodId} {args : Array Value} {below : List Frame} {meth : Method} {c : Code} {w : zWD} {A : Nat → Prop} {cs ss : Nat} {Qe : Int32 → zMem → State → Prop} {own : String} {cc : ByteArray} {nL : Nat} {ret : Option FieldType} {pc : Nat} {lv lv' : List (Option Value)} {st : List Value} {M : zMem} {t u : zTr} {f : zMem → zTr}
theorem re_none : zRe p l e R s m args below meth c w A cs ss Qe pc lv st M none := fun _ _ h => by cases h
theorem re_ck {q : Prop} [Decidable q] (h : q → zRe p l e R s m args below meth c w A cs ss Qe pc lv st M t) : zRe p l e R s m args below meth c w A cs ss Qe pc lv st M (zCk q t) := by
  by_cases hq : q
  · rw [zCk, if_pos hq]; exact h hq
  · rw [zCk, if_neg hq]; exact re_none
theorem re_sub (h : zRe p l e R s m args below meth c w A cs ss Qe pc lv' st M t) (hs : zSub lv' lv) : zRe p l e R s m args below meth c w A cs ss Qe pc lv st M t :=
  fun r M' ht H locs ls hR hS hL => h r M' ht H locs ls hR hS (hL.sub hs)
theorem re_iload_n (X : zCx p s m args meth c w A own cc nL ret) {k : Fin 4} {i : Nat} {x : Int32} (d : decode cc pc = .ok (.iload_n k, 1)) (hk : (k : Nat) = i) (hv : lv[i]? = some (some (.int x))) (h : zRe p l e R s m args below meth c w A cs ss Qe (pc + 1) lv (.int x :: st) M t) : zRe p l e R s m args below meth c w A cs ss Qe pc lv st M t :=
  fun r M' ht H locs ls hR hS hL => lv_iload_n X.1 X.2.1 d hk (hL.2.2 i _ hv).1 (h r M' ht H locs ls hR hS hL)
theorem re_iload (X : zCx p s m args meth c w A own cc nL ret) {i : Nat} {x : Int32} (d : decode cc pc = .ok (.iload i, 2)) (hv : lv[i]? = some (some (.int x))) (h : zRe p l e R s m args below meth c w A cs ss Qe (pc + 2) lv (.int x :: st) M t) : zRe p l e R s m args below meth c w A cs ss Qe pc lv st M t :=
  fun r M' ht H locs ls hR hS hL => lv_iload X.1 X.2.1 d (hL.2.2 i _ hv).1 (h r M' ht H locs ls hR hS hL)
theorem re_aload_n (X : zCx p s m args meth c w A own cc nL ret) {k : Fin 4} {i : Nat} {x : Nat} (d : decode cc pc = .ok (.aload_n k, 1)) (hk : (k : Nat) = i) (hv : lv[i]? = some (some (.ref x))) (h : zRe p l e R s m args below meth c w A cs ss Qe (pc + 1) lv (.ref x :: st) M t) : zRe p l e R s m args below meth c w A cs ss Qe pc lv st M t :=
  fun r M' ht H locs ls hR hS hL => lv_aload_n X.1 X.2.1 d hk (hL.2.2 i _ hv).1 (h r M' ht H locs ls hR hS hL)
theorem re_aload (X : zCx p s m args meth c w A own cc nL ret) {i : Nat} {x : Nat} (d : decode cc pc = .ok (.aload i, 2)) (hv : lv[i]? = some (some (.ref x))) (h : zRe p l e R s m args below meth c w A cs ss Qe (pc + 2) lv (.ref x :: st) M t) : zRe p l e R s m args below meth c w A cs ss Qe pc lv st M t :=
  fun r M' ht H locs ls hR hS hL => lv_aload X.1 X.2.1 d (hL.2.2 i _ hv).1 (h r M' ht H locs ls hR hS hL)
theorem re_istore_n (X : zCx p s m args meth c w A own cc nL ret) {k : Fin 4} {i : Nat} {x : Int32} (d : decode cc pc = .ok (.istore_n k, 1)) (hk : (k : Nat) = i) (hi : i < lv.length) (hl : lv.set i (some (.int x)) = lv') (h : zRe p l e R s m args below meth c w A cs ss Qe (pc + 1) lv' st M t) : zRe p l e R s m args below meth c w A cs ss Qe pc lv (.int x :: st) M t :=
  fun r M' ht H locs ls hR hS hL => lv_istore_n X.1 X.2.1 d hk hL.has hi rfl (fun ls' hl' => h r M' ht H locs ls' hR hS (hL.store hi rfl hl hl'))
theorem re_istore (X : zCx p s m args meth c w A own cc nL ret) {i : Nat} {x : Int32} (d : decode cc pc = .ok (.istore i, 2)) (hi : i < lv.length) (hl : lv.set i (some (.int x)) = lv') (h : zRe p l e R s m args below meth c w A cs ss Qe (pc + 2) lv' st M t) : zRe p l e R s m args below meth c w A cs ss Qe pc lv (.int x :: st) M t :=
  fun r M' ht H locs ls hR hS hL => lv_istore X.1 X.2.1 d hL.has hi rfl (fun ls' hl' => h r M' ht H locs ls' hR hS (hL.store hi rfl hl hl'))
theorem re_iinc (X : zCx p s m args meth c w A own cc nL ret) {i : Nat} {n : Int} {x v : Int32} (d : decode cc pc = .ok (.iinc i n, 3)) (hx : lv[i]? = some (some (.int x))) (hn : Int32.ofInt n = v) (hl : lv.set i (some (.int (x + v))) = lv') (h : zRe p l e R s m args below meth c w A cs ss Qe (pc + 3) lv' st M t) : zRe p l e R s m args below meth c w A cs ss Qe pc lv st M t :=
  fun r M' ht H locs ls hR hS hL => by
    have hi : i < lv.length := (List.getElem?_eq_some_iff.mp hx).1
    obtain ⟨k, hk⟩ := List.getElem?_of_mem (zPr_mem (lv := lv) (q := (i, .int x)).mpr hx)
    exact lv_iinc X.1 X.2.1 d hL.has hk (by rw [hn]) hi rfl (fun ls' hl' => h r M' ht H locs ls' hR hS (hL.store hi rfl hl hl'))
theorem re_iconst (X : zCx p s m args meth c w A own cc nL ret) {n : Int} {v : Int32} (d : decode cc pc = .ok (.iconst n, 1)) (hv : Int32.ofInt n = v) (h : zRe p l e R s m args below meth c w A cs ss Qe (pc + 1) lv (.int v :: st) M t) : zRe p l e R s m args below meth c w A cs ss Qe pc lv st M t :=
  fun r M' ht H locs ls hR hS hL => lv_iconst X.1 X.2.1 d hv (h r M' ht H locs ls hR hS hL)
theorem re_bipush (X : zCx p s m args meth c w A own cc nL ret) {n : Int} {v : Int32} (d : decode cc pc = .ok (.bipush n, 2)) (hv : (Int8.ofInt n).toInt32 = v) (h : zRe p l e R s m args below meth c w A cs ss Qe (pc + 2) lv (.int v :: st) M t) : zRe p l e R s m args below meth c w A cs ss Qe pc lv st M t :=
  fun r M' ht H locs ls hR hS hL => lv_bipush X.1 X.2.1 d hv (h r M' ht H locs ls hR hS hL)
theorem re_sipush (X : zCx p s m args meth c w A own cc nL ret) {n : Int} {v : Int32} (d : decode cc pc = .ok (.sipush n, 3)) (hv : (Int16.ofInt n).toInt32 = v) (h : zRe p l e R s m args below meth c w A cs ss Qe (pc + 3) lv (.int v :: st) M t) : zRe p l e R s m args below meth c w A cs ss Qe pc lv st M t :=
  fun r M' ht H locs ls hR hS hL => lv_sipush X.1 X.2.1 d hv (h r M' ht H locs ls hR hS hL)
theorem re_ldc (X : zCx p s m args meth c w A own cc nL ret) {i : Nat} {v : Int32} (hc : Cond.constant own i v ∈ zW) (d : decode cc pc = .ok (.ldc i, 2)) (h : zRe p l e R s m args below meth c w A cs ss Qe (pc + 2) lv (.int v :: st) M t) : zRe p l e R s m args below meth c w A cs ss Qe pc lv st M t :=
  fun r M' ht H locs ls hR hS hL => lv_ldc X.1 X.2.1 X.ow (X.ts _ hc) d (h r M' ht H locs ls hR hS hL)
theorem re_ldcw (X : zCx p s m args meth c w A own cc nL ret) {i : Nat} {v : Int32} (hc : Cond.constant own i v ∈ zW) (d : decode cc pc = .ok (.ldc_w i, 3)) (h : zRe p l e R s m args below meth c w A cs ss Qe (pc + 3) lv (.int v :: st) M t) : zRe p l e R s m args below meth c w A cs ss Qe pc lv st M t :=
  fun r M' ht H locs ls hR hS hL => lv_ldcw X.1 X.2.1 X.ow (X.ts _ hc) d (h r M' ht H locs ls hR hS hL)
theorem re_dup (X : zCx p s m args meth c w A own cc nL ret) {v : Value} (d : decode cc pc = .ok (.dup, 1)) (hv : v.category = 1) (h : zRe p l e R s m args below meth c w A cs ss Qe (pc + 1) lv (v :: v :: st) M t) : zRe p l e R s m args below meth c w A cs ss Qe pc lv (v :: st) M t :=
  fun r M' ht H locs ls hR hS hL => lv_dup X.1 X.2.1 d hv (h r M' ht H locs ls hR hS hL)
theorem re_dup2 (X : zCx p s m args meth c w A own cc nL ret) {v v2 : Value} (d : decode cc pc = .ok (.dup2, 1)) (hv : v.category = 1) (hv2 : v2.category = 1) (h : zRe p l e R s m args below meth c w A cs ss Qe (pc + 1) lv (v :: v2 :: v :: v2 :: st) M t) : zRe p l e R s m args below meth c w A cs ss Qe pc lv (v :: v2 :: st) M t :=
  fun r M' ht H locs ls hR hS hL => lv_dup2_11 X.1 X.2.1 d hv hv2 (h r M' ht H locs ls hR hS hL)
theorem re_pop (X : zCx p s m args meth c w A own cc nL ret) {v : Value} (d : decode cc pc = .ok (.pop, 1)) (hv : v.category = 1) (h : zRe p l e R s m args below meth c w A cs ss Qe (pc + 1) lv st M t) : zRe p l e R s m args below meth c w A cs ss Qe pc lv (v :: st) M t :=
  fun r M' ht H locs ls hR hS hL => lv_pop X.1 X.2.1 d hv (h r M' ht H locs ls hR hS hL)
theorem re_goto (X : zCx p s m args meth c w A own cc nL ret) {off : Int} {tgt : Nat} (d : decode cc pc = .ok (.goto off, 3)) (hg : (pc : Int) + off = (tgt : Int)) (h : zRe p l e R s m args below meth c w A cs ss Qe tgt lv st M t) : zRe p l e R s m args below meth c w A cs ss Qe pc lv st M t :=
  fun r M' ht H locs ls hR hS hL => lv_goto X.1 X.2.1 d hg (h r M' ht H locs ls hR hS hL)
theorem re_iadd (X : zCx p s m args meth c w A own cc nL ret) {x y : Int32} (d : decode cc pc = .ok (.iadd, 1)) (h : zRe p l e R s m args below meth c w A cs ss Qe (pc + 1) lv (.int (x + y) :: st) M t) : zRe p l e R s m args below meth c w A cs ss Qe pc lv (.int y :: .int x :: st) M t :=
  fun r M' ht H locs ls hR hS hL => lv_iadd X.1 X.2.1 d (h r M' ht H locs ls hR hS hL)
theorem re_isub (X : zCx p s m args meth c w A own cc nL ret) {x y : Int32} (d : decode cc pc = .ok (.isub, 1)) (h : zRe p l e R s m args below meth c w A cs ss Qe (pc + 1) lv (.int (x - y) :: st) M t) : zRe p l e R s m args below meth c w A cs ss Qe pc lv (.int y :: .int x :: st) M t :=
  fun r M' ht H locs ls hR hS hL => lv_isub X.1 X.2.1 d (h r M' ht H locs ls hR hS hL)
theorem re_imul (X : zCx p s m args meth c w A own cc nL ret) {x y : Int32} (d : decode cc pc = .ok (.imul, 1)) (h : zRe p l e R s m args below meth c w A cs ss Qe (pc + 1) lv (.int (x * y) :: st) M t) : zRe p l e R s m args below meth c w A cs ss Qe pc lv (.int y :: .int x :: st) M t :=
  fun r M' ht H locs ls hR hS hL => lv_imul X.1 X.2.1 d (h r M' ht H locs ls hR hS hL)
theorem re_iand (X : zCx p s m args meth c w A own cc nL ret) {x y : Int32} (d : decode cc pc = .ok (.iand, 1)) (h : zRe p l e R s m args below meth c w A cs ss Qe (pc + 1) lv (.int (x &&& y) :: st) M t) : zRe p l e R s m args below meth c w A cs ss Qe pc lv (.int y :: .int x :: st) M t :=
  fun r M' ht H locs ls hR hS hL => lv_iand X.1 X.2.1 d (h r M' ht H locs ls hR hS hL)
theorem re_ior (X : zCx p s m args meth c w A own cc nL ret) {x y : Int32} (d : decode cc pc = .ok (.ior, 1)) (h : zRe p l e R s m args below meth c w A cs ss Qe (pc + 1) lv (.int (x ||| y) :: st) M t) : zRe p l e R s m args below meth c w A cs ss Qe pc lv (.int y :: .int x :: st) M t :=
  fun r M' ht H locs ls hR hS hL => lv_ior X.1 X.2.1 d (h r M' ht H locs ls hR hS hL)
theorem re_ixor (X : zCx p s m args meth c w A own cc nL ret) {x y : Int32} (d : decode cc pc = .ok (.ixor, 1)) (h : zRe p l e R s m args below meth c w A cs ss Qe (pc + 1) lv (.int (x ^^^ y) :: st) M t) : zRe p l e R s m args below meth c w A cs ss Qe pc lv (.int y :: .int x :: st) M t :=
  fun r M' ht H locs ls hR hS hL => lv_ixor X.1 X.2.1 d (h r M' ht H locs ls hR hS hL)
theorem re_ishl (X : zCx p s m args meth c w A own cc nL ret) {x y : Int32} (d : decode cc pc = .ok (.ishl, 1)) (h : zRe p l e R s m args below meth c w A cs ss Qe (pc + 1) lv (.int (x <<< (y &&& 31)) :: st) M t) : zRe p l e R s m args below meth c w A cs ss Qe pc lv (.int y :: .int x :: st) M t :=
  fun r M' ht H locs ls hR hS hL => lv_ishl X.1 X.2.1 d (h r M' ht H locs ls hR hS hL)
theorem re_ishr (X : zCx p s m args meth c w A own cc nL ret) {x y : Int32} (d : decode cc pc = .ok (.ishr, 1)) (h : zRe p l e R s m args below meth c w A cs ss Qe (pc + 1) lv (.int (x >>> (y &&& 31)) :: st) M t) : zRe p l e R s m args below meth c w A cs ss Qe pc lv (.int y :: .int x :: st) M t :=
  fun r M' ht H locs ls hR hS hL => lv_ishr X.1 X.2.1 d (h r M' ht H locs ls hR hS hL)
abbrev zUsr (x y : Int32) : Int32 := (x.toUInt32 >>> (y.toUInt32 &&& Int32.toUInt32 31)).toInt32
theorem re_iushr (X : zCx p s m args meth c w A own cc nL ret) {x y : Int32} (d : decode cc pc = .ok (.iushr, 1)) (h : zRe p l e R s m args below meth c w A cs ss Qe (pc + 1) lv (.int (zUsr x y) :: st) M t) : zRe p l e R s m args below meth c w A cs ss Qe pc lv (.int y :: .int x :: st) M t :=
  fun r M' ht H locs ls hR hS hL => lv_iushr X.1 X.2.1 d rfl (h r M' ht H locs ls hR hS hL)
theorem re_i2b (X : zCx p s m args meth c w A own cc nL ret) {x : Int32} (d : decode cc pc = .ok (.i2b, 1)) (h : zRe p l e R s m args below meth c w A cs ss Qe (pc + 1) lv (.int x.toInt8.toInt32 :: st) M t) : zRe p l e R s m args below meth c w A cs ss Qe pc lv (.int x :: st) M t :=
  fun r M' ht H locs ls hR hS hL => lv_i2b X.1 X.2.1 d rfl (h r M' ht H locs ls hR hS hL)
theorem re_idivK (X : zCx p s m args meth c w A own cc nL ret) {x y : Int32} (hy : ¬ y = 0) (d : decode cc pc = .ok (.idiv, 1)) (h : zRe p l e R s m args below meth c w A cs ss Qe (pc + 1) lv (.int (x / y) :: st) M t) : zRe p l e R s m args below meth c w A cs ss Qe pc lv (.int y :: .int x :: st) M t :=
  fun r M' ht H locs ls hR hS hL => lv_idiv X.1 X.2.1 d hy (h r M' ht H locs ls hR hS hL)
theorem re_idiv (X : zCx p s m args meth c w A own cc nL ret) {x y : Int32} (d : decode cc pc = .ok (.idiv, 1)) (h : zRe p l e R s m args below meth c w A cs ss Qe (pc + 1) lv (.int (x / y) :: st) M t) : zRe p l e R s m args below meth c w A cs ss Qe pc lv (.int y :: .int x :: st) M (zCk (¬ y = 0) t) :=
  re_ck fun hy => re_idivK X hy d h
theorem re_iremK (X : zCx p s m args meth c w A own cc nL ret) {x y : Int32} (hy : ¬ y = 0) (d : decode cc pc = .ok (.irem, 1)) (h : zRe p l e R s m args below meth c w A cs ss Qe (pc + 1) lv (.int (x - x / y * y) :: st) M t) : zRe p l e R s m args below meth c w A cs ss Qe pc lv (.int y :: .int x :: st) M t :=
  fun r M' ht H locs ls hR hS hL => lv_irem X.1 X.2.1 d hy (h r M' ht H locs ls hR hS hL)
theorem re_irem (X : zCx p s m args meth c w A own cc nL ret) {x y : Int32} (d : decode cc pc = .ok (.irem, 1)) (h : zRe p l e R s m args below meth c w A cs ss Qe (pc + 1) lv (.int (x - x / y * y) :: st) M t) : zRe p l e R s m args below meth c w A cs ss Qe pc lv (.int y :: .int x :: st) M (zCk (¬ y = 0) t) :=
  re_ck fun hy => re_iremK X hy d h
theorem re_icmp_eq (X : zCx p s m args meth c w A own cc nL ret) {x y : Int32} {off : Int} {tgt : Nat} (d : decode cc pc = .ok (.if_icmp .eq off, 3)) (hg : (pc : Int) + off = (tgt : Int)) (h1 : x = y → zRe p l e R s m args below meth c w A cs ss Qe tgt lv st M t) (h2 : ¬ (x = y) → zRe p l e R s m args below meth c w A cs ss Qe (pc + 3) lv st M u) : zRe p l e R s m args below meth c w A cs ss Qe pc lv (.int y :: .int x :: st) M (if x = y then t else u) := by
  intro r M' ht H locs ls hR hS hL
  exact lv_icmp_eq X.1 X.2.1 d hg (fun q => by rw [if_pos q] at ht; exact h1 q r M' ht H locs ls hR hS hL) (fun q => by rw [if_neg q] at ht; exact h2 q r M' ht H locs ls hR hS hL)
theorem re_if_eq (X : zCx p s m args meth c w A own cc nL ret) {x : Int32} {off : Int} {tgt : Nat} (d : decode cc pc = .ok (.ifCond .eq off, 3)) (hg : (pc : Int) + off = (tgt : Int)) (h1 : x = 0 → zRe p l e R s m args below meth c w A cs ss Qe tgt lv st M t) (h2 : ¬ (x = 0) → zRe p l e R s m args below meth c w A cs ss Qe (pc + 3) lv st M u) : zRe p l e R s m args below meth c w A cs ss Qe pc lv (.int x :: st) M (if x = 0 then t else u) := by
  intro r M' ht H locs ls hR hS hL
  exact lv_if_eq X.1 X.2.1 d hg (fun q => by rw [if_pos q] at ht; exact h1 q r M' ht H locs ls hR hS hL) (fun q => by rw [if_neg q] at ht; exact h2 q r M' ht H locs ls hR hS hL)
theorem re_icmp_ne (X : zCx p s m args meth c w A own cc nL ret) {x y : Int32} {off : Int} {tgt : Nat} (d : decode cc pc = .ok (.if_icmp .ne off, 3)) (hg : (pc : Int) + off = (tgt : Int)) (h1 : x = y → zRe p l e R s m args below meth c w A cs ss Qe (pc + 3) lv st M t) (h2 : ¬ (x = y) → zRe p l e R s m args below meth c w A cs ss Qe tgt lv st M u) : zRe p l e R s m args below meth c w A cs ss Qe pc lv (.int y :: .int x :: st) M (if x = y then t else u) := by
  intro r M' ht H locs ls hR hS hL
  exact lv_icmp_ne X.1 X.2.1 d hg (fun q => by rw [if_neg q] at ht; exact h2 q r M' ht H locs ls hR hS hL) (fun q => by rw [if_pos q] at ht; exact h1 q r M' ht H locs ls hR hS hL)
theorem re_if_ne (X : zCx p s m args meth c w A own cc nL ret) {x : Int32} {off : Int} {tgt : Nat} (d : decode cc pc = .ok (.ifCond .ne off, 3)) (hg : (pc : Int) + off = (tgt : Int)) (h1 : x = 0 → zRe p l e R s m args below meth c w A cs ss Qe (pc + 3) lv st M t) (h2 : ¬ (x = 0) → zRe p l e R s m args below meth c w A cs ss Qe tgt lv st M u) : zRe p l e R s m args below meth c w A cs ss Qe pc lv (.int x :: st) M (if x = 0 then t else u) := by
  intro r M' ht H locs ls hR hS hL
  exact lv_if_ne X.1 X.2.1 d hg (fun q => by rw [if_neg q] at ht; exact h2 q r M' ht H locs ls hR hS hL) (fun q => by rw [if_pos q] at ht; exact h1 q r M' ht H locs ls hR hS hL)
theorem re_icmp_lt (X : zCx p s m args meth c w A own cc nL ret) {x y : Int32} {off : Int} {tgt : Nat} (d : decode cc pc = .ok (.if_icmp .lt off, 3)) (hg : (pc : Int) + off = (tgt : Int)) (h1 : x < y → zRe p l e R s m args below meth c w A cs ss Qe tgt lv st M t) (h2 : ¬ (x < y) → zRe p l e R s m args below meth c w A cs ss Qe (pc + 3) lv st M u) : zRe p l e R s m args below meth c w A cs ss Qe pc lv (.int y :: .int x :: st) M (if x < y then t else u) := by
  intro r M' ht H locs ls hR hS hL
  exact lv_icmp_lt X.1 X.2.1 d hg (fun q => by rw [if_pos q] at ht; exact h1 q r M' ht H locs ls hR hS hL) (fun q => by rw [if_neg q] at ht; exact h2 q r M' ht H locs ls hR hS hL)
theorem re_if_lt (X : zCx p s m args meth c w A own cc nL ret) {x : Int32} {off : Int} {tgt : Nat} (d : decode cc pc = .ok (.ifCond .lt off, 3)) (hg : (pc : Int) + off = (tgt : Int)) (h1 : x < 0 → zRe p l e R s m args below meth c w A cs ss Qe tgt lv st M t) (h2 : ¬ (x < 0) → zRe p l e R s m args below meth c w A cs ss Qe (pc + 3) lv st M u) : zRe p l e R s m args below meth c w A cs ss Qe pc lv (.int x :: st) M (if x < 0 then t else u) := by
  intro r M' ht H locs ls hR hS hL
  exact lv_if_lt X.1 X.2.1 d hg (fun q => by rw [if_pos q] at ht; exact h1 q r M' ht H locs ls hR hS hL) (fun q => by rw [if_neg q] at ht; exact h2 q r M' ht H locs ls hR hS hL)
theorem re_icmp_ge (X : zCx p s m args meth c w A own cc nL ret) {x y : Int32} {off : Int} {tgt : Nat} (d : decode cc pc = .ok (.if_icmp .ge off, 3)) (hg : (pc : Int) + off = (tgt : Int)) (h1 : y ≤ x → zRe p l e R s m args below meth c w A cs ss Qe tgt lv st M t) (h2 : ¬ (y ≤ x) → zRe p l e R s m args below meth c w A cs ss Qe (pc + 3) lv st M u) : zRe p l e R s m args below meth c w A cs ss Qe pc lv (.int y :: .int x :: st) M (if y ≤ x then t else u) := by
  intro r M' ht H locs ls hR hS hL
  exact lv_icmp_ge X.1 X.2.1 d hg (fun q => by rw [if_pos q] at ht; exact h1 q r M' ht H locs ls hR hS hL) (fun q => by rw [if_neg q] at ht; exact h2 q r M' ht H locs ls hR hS hL)
theorem re_if_ge (X : zCx p s m args meth c w A own cc nL ret) {x : Int32} {off : Int} {tgt : Nat} (d : decode cc pc = .ok (.ifCond .ge off, 3)) (hg : (pc : Int) + off = (tgt : Int)) (h1 : 0 ≤ x → zRe p l e R s m args below meth c w A cs ss Qe tgt lv st M t) (h2 : ¬ (0 ≤ x) → zRe p l e R s m args below meth c w A cs ss Qe (pc + 3) lv st M u) : zRe p l e R s m args below meth c w A cs ss Qe pc lv (.int x :: st) M (if 0 ≤ x then t else u) := by
  intro r M' ht H locs ls hR hS hL
  exact lv_if_ge X.1 X.2.1 d hg (fun q => by rw [if_pos q] at ht; exact h1 q r M' ht H locs ls hR hS hL) (fun q => by rw [if_neg q] at ht; exact h2 q r M' ht H locs ls hR hS hL)
theorem re_icmp_gt (X : zCx p s m args meth c w A own cc nL ret) {x y : Int32} {off : Int} {tgt : Nat} (d : decode cc pc = .ok (.if_icmp .gt off, 3)) (hg : (pc : Int) + off = (tgt : Int)) (h1 : y < x → zRe p l e R s m args below meth c w A cs ss Qe tgt lv st M t) (h2 : ¬ (y < x) → zRe p l e R s m args below meth c w A cs ss Qe (pc + 3) lv st M u) : zRe p l e R s m args below meth c w A cs ss Qe pc lv (.int y :: .int x :: st) M (if y < x then t else u) := by
  intro r M' ht H locs ls hR hS hL
  exact lv_icmp_gt X.1 X.2.1 d hg (fun q => by rw [if_pos q] at ht; exact h1 q r M' ht H locs ls hR hS hL) (fun q => by rw [if_neg q] at ht; exact h2 q r M' ht H locs ls hR hS hL)
theorem re_if_gt (X : zCx p s m args meth c w A own cc nL ret) {x : Int32} {off : Int} {tgt : Nat} (d : decode cc pc = .ok (.ifCond .gt off, 3)) (hg : (pc : Int) + off = (tgt : Int)) (h1 : 0 < x → zRe p l e R s m args below meth c w A cs ss Qe tgt lv st M t) (h2 : ¬ (0 < x) → zRe p l e R s m args below meth c w A cs ss Qe (pc + 3) lv st M u) : zRe p l e R s m args below meth c w A cs ss Qe pc lv (.int x :: st) M (if 0 < x then t else u) := by
  intro r M' ht H locs ls hR hS hL
  exact lv_if_gt X.1 X.2.1 d hg (fun q => by rw [if_pos q] at ht; exact h1 q r M' ht H locs ls hR hS hL) (fun q => by rw [if_neg q] at ht; exact h2 q r M' ht H locs ls hR hS hL)
theorem re_icmp_le (X : zCx p s m args meth c w A own cc nL ret) {x y : Int32} {off : Int} {tgt : Nat} (d : decode cc pc = .ok (.if_icmp .le off, 3)) (hg : (pc : Int) + off = (tgt : Int)) (h1 : x ≤ y → zRe p l e R s m args below meth c w A cs ss Qe tgt lv st M t) (h2 : ¬ (x ≤ y) → zRe p l e R s m args below meth c w A cs ss Qe (pc + 3) lv st M u) : zRe p l e R s m args below meth c w A cs ss Qe pc lv (.int y :: .int x :: st) M (if x ≤ y then t else u) := by
  intro r M' ht H locs ls hR hS hL
  exact lv_icmp_le X.1 X.2.1 d hg (fun q => by rw [if_pos q] at ht; exact h1 q r M' ht H locs ls hR hS hL) (fun q => by rw [if_neg q] at ht; exact h2 q r M' ht H locs ls hR hS hL)
theorem re_if_le (X : zCx p s m args meth c w A own cc nL ret) {x : Int32} {off : Int} {tgt : Nat} (d : decode cc pc = .ok (.ifCond .le off, 3)) (hg : (pc : Int) + off = (tgt : Int)) (h1 : x ≤ 0 → zRe p l e R s m args below meth c w A cs ss Qe tgt lv st M t) (h2 : ¬ (x ≤ 0) → zRe p l e R s m args below meth c w A cs ss Qe (pc + 3) lv st M u) : zRe p l e R s m args below meth c w A cs ss Qe pc lv (.int x :: st) M (if x ≤ 0 then t else u) := by
  intro r M' ht H locs ls hR hS hL
  exact lv_if_le X.1 X.2.1 d hg (fun q => by rw [if_pos q] at ht; exact h1 q r M' ht H locs ls hR hS hL) (fun q => by rw [if_neg q] at ht; exact h2 q r M' ht H locs ls hR hS hL)
end ZR
