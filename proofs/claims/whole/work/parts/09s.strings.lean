section ZS
variable {p : Program} {l : Launch} {e : Env} {R : Room} {s : State} {m : MethodId} {args : Array Value} {below : List Frame} {meth : Method} {c : Code} {w : zWD} {A : Nat → Prop} {cs ss : Nat} {Qe : Int32 → zMem → State → Prop} {own : String} {cc : ByteArray} {nL : Nat} {ret : Option FieldType} {pc : Nat} {lv lv' : List (Option Value)} {st st0 : List Value} {M : zMem} {t u : zTr} {f : zMem → zTr} {g : Int32 → zMem → zTr}
def zSlenN (k : Nat) : Nat := zSl.getD k 0
def zSlen (k : Nat) : Int32 := Int32.ofNat (zSlenN k)
def zScha (k : Nat) (i : Int32) : Int32 := (zSb.getD k []).getD (zIx i) 0
theorem zScha_ok (k : Nat) (i : Int32) : ((zScha k i &&& 255).toUInt32 % 65536).toInt32 = zScha k i ∧ narrow .char (.int (zScha k i)) = .int (zScha k i) := by
  have h : ∀ x : Int32, (x ∈ (0 : Int32) :: zSb.flatten) → ((x &&& 255).toUInt32 % 65536).toInt32 = x ∧ narrow .char (.int x) = .int x := by decide +kernel
  apply h
  unfold zScha
  rw [List.getD_eq_getElem?_getD, List.getD_eq_getElem?_getD]
  cases h1 : zSb[k]? with
  | none => exact List.mem_cons_self
  | some L =>
    simp only [Option.getD_some]
    cases h2 : L[zIx i]? with
    | none => exact List.mem_cons_self
    | some x => exact List.mem_cons_of_mem _ (List.mem_flatten.mpr ⟨L, List.mem_of_getElem? h1, List.mem_of_getElem? h2⟩)
theorem fs_value : Cond.fieldLink RJ0 9 "java/lang/String" "value" "[B" ∈ zW := zW_of 1442 (by decide +kernel) rfl
theorem fs_coder : Cond.fieldLink RJ0 15 "java/lang/String" "coder" "B" ∈ zW := zW_of 1443 (by decide +kernel) rfl
theorem fs_compact : Cond.fieldLink RJ0 38 "java/lang/String" "COMPACT_STRINGS" "Z" ∈ zW := zW_of 496 (by decide +kernel) rfl
theorem fs_form : Cond.fieldLink RJ0 1053 "jdk/internal/util/Preconditions" "SIOOBE_FORMATTER" "Ljava/util/function/BiFunction;" ∈ zW := zW_of 512 (by decide +kernel) rfl
theorem re_sval (X : zCx p s m args meth c w A own cc nL ret) {k idx : Nat} (hk : k < zNS) (L : Cond.fieldLink own idx "java/lang/String" "value" "[B" ∈ zW) (d : decode cc pc = .ok (.getfield idx, 3)) (h : zRe p l e R s m args below meth c w A cs ss Qe (pc + 3) lv (.ref (zV w k) :: st) M t) : zRe p l e R s m args below meth c w A cs ss Qe pc lv (.ref (zK w k) :: st) M t :=
  fun r M' ht H locs ls hR hS hL => vk_getf X.1 X.2.1 (X.kk.sx k hk).2.2.1 hS X.ow (X.ts _ L) (fun _ q => q) d (h r M' ht H locs ls hR hS hL)
theorem re_scod (X : zCx p s m args meth c w A own cc nL ret) {k idx : Nat} (hk : k < zNS) (L : Cond.fieldLink own idx "java/lang/String" "coder" "B" ∈ zW) (d : decode cc pc = .ok (.getfield idx, 3)) (h : zRe p l e R s m args below meth c w A cs ss Qe (pc + 3) lv (.int 0 :: st) M t) : zRe p l e R s m args below meth c w A cs ss Qe pc lv (.ref (zK w k) :: st) M t :=
  fun r M' ht H locs ls hR hS hL => vk_getf X.1 X.2.1 (X.kk.sx k hk).2.1 hS X.ow (X.ts _ L) (fun _ q => q) d (h r M' ht H locs ls hR hS hL)
theorem re_gcs (X : zCx p s m args meth c w A own cc nL ret) {idx : Nat} (L : Cond.fieldLink own idx "java/lang/String" "COMPACT_STRINGS" "Z" ∈ zW) (d : decode cc pc = .ok (.getstatic idx, 3)) (h : zRe p l e R s m args below meth c w A cs ss Qe (pc + 3) lv (.int 1 :: st) M t) : zRe p l e R s m args below meth c w A cs ss Qe pc lv st M t :=
  fun r M' ht H locs ls hR hS hL => va_gets X.1 X.2.1 X.kk.cs hS X.ow (X.ts _ L) (fun _ q => q) d (h r M' ht H locs ls hR hS hL)
theorem re_gfm (X : zCx p s m args meth c w A own cc nL ret) {idx : Nat} (L : Cond.fieldLink own idx "jdk/internal/util/Preconditions" "SIOOBE_FORMATTER" "Ljava/util/function/BiFunction;" ∈ zW) (d : decode cc pc = .ok (.getstatic idx, 3)) (h : ∀ v : Value, v.category = 1 → zRe p l e R s m args below meth c w A cs ss Qe (pc + 3) lv (v :: st) M t) : zRe p l e R s m args below meth c w A cs ss Qe pc lv st M t := by
  intro r M' ht H locs ls hR hS hL
  rcases X.kk.fm with hZ | ⟨q, hZ⟩
  · exact va_gets X.1 X.2.1 hZ hS X.ow (X.ts _ L) (fun _ q => q) d (h _ rfl r M' ht H locs ls hR hS hL)
  · exact va_gets X.1 X.2.1 hZ hS X.ow (X.ts _ L) (fun _ q => q) d (h _ rfl r M' ht H locs ls hR hS hL)
theorem re_slena (X : zCx p s m args meth c w A own cc nL ret) {k : Nat} (hk : k < zNS) (d : decode cc pc = .ok (.arraylength, 1)) (h : zRe p l e R s m args below meth c w A cs ss Qe (pc + 1) lv (.int (zSlen k) :: st) M t) : zRe p l e R s m args below meth c w A cs ss Qe pc lv (.ref (zV w k) :: st) M t :=
  fun r M' ht H locs ls hR hS hL => va_tlen X.1 X.2.1 (X.kk.sx k hk).2.2.2 hS rfl d (h r M' ht H locs ls hR hS hL)
theorem re_sbald (X : zCx p s m args meth c w A own cc nL ret) {k : Nat} {i : Int32} (hk : k < zNS) (hin : zIn i (zSlenN k)) (d : decode cc pc = .ok (.baload, 1)) (h : zRe p l e R s m args below meth c w A cs ss Qe (pc + 1) lv (.int (zScha k i) :: st) M t) : zRe p l e R s m args below meth c w A cs ss Qe pc lv (.int i :: .ref (zV w k) :: st) M t :=
  fun r M' ht H locs ls hR hS hL => va_tb X.1 X.2.1 (X.kk.sx k hk).2.2.2 hS (zIn_vp hin) rfl d (h r M' ht H locs ls hR hS hL)
theorem re_i2c (X : zCx p s m args meth c w A own cc nL ret) {x : Int32} (d : decode cc pc = .ok (.i2c, 1)) (h : zRe p l e R s m args below meth c w A cs ss Qe (pc + 1) lv (.int (x.toUInt32 % 65536).toInt32 :: st) M t) : zRe p l e R s m args below meth c w A cs ss Qe pc lv (.int x :: st) M t :=
  fun r M' ht H locs ls hR hS hL => lv_i2c X.1 X.2.1 d rfl (h r M' ht H locs ls hR hS hL)
theorem re_aloadV (X : zCx p s m args meth c w A own cc nL ret) {k : Fin 4} {i x : Nat} (d : decode cc pc = .ok (.aload_n k, 1)) (hk : (k : Nat) = i) (hv : lv[i]? = some (some (.ref x))) (h : zRe p l e R s m args below meth c w A cs ss Qe (pc + 1) lv (.ref x :: st) M t) : zRe p l e R s m args below meth c w A cs ss Qe pc lv st M t := re_aload_n X d hk hv h
theorem re_nret {ty : FieldType} (X : zCx p s m args meth c w (zFree w) own cc nL (some ty)) {x : Int32} (hn : narrow ty (.int x) = .int x) (d : decode cc pc = .ok (.ireturn, 1)) : zRm p l e R s m args below meth c w 1 pc lv [.int x] M (some (x, M)) := by
  intro r M' ht H locs ls hR hS hL
  cases ht
  have hlocks := X.locks
  exact W.zret X.1 X.2.1 X.rt hn (fun t ht hW => ⟨rfl, trivial, by rw [ht]; exact hR, hS.F ht⟩) hS.2.2 d
theorem re_eqF (X : zCx p s m args meth c w A own cc nL ret) {x : Int32} {off : Int} (tgt : Nat) (hx : ¬ x = 0) (d : decode cc pc = .ok (.ifCond .eq off, 3)) (hg : (pc : Int) + off = (tgt : Int)) (h : zRe p l e R s m args below meth c w A cs ss Qe (pc + 3) lv st M t) : zRe p l e R s m args below meth c w A cs ss Qe pc lv (.int x :: st) M t := by
  have := re_if_eq (t := t) X d hg (fun q => absurd q hx) (fun _ => h)
  rwa [if_neg hx] at this
theorem re_neF (X : zCx p s m args meth c w A own cc nL ret) {x : Int32} {off : Int} (tgt : Nat) (hx : x = 0) (d : decode cc pc = .ok (.ifCond .ne off, 3)) (hg : (pc : Int) + off = (tgt : Int)) (h : zRe p l e R s m args below meth c w A cs ss Qe (pc + 3) lv st M t) : zRe p l e R s m args below meth c w A cs ss Qe pc lv (.int x :: st) M t := by
  have := re_if_ne (u := t) X d hg (fun _ => h) (fun q => absurd hx q)
  rwa [if_pos hx] at this
theorem re_ltF (X : zCx p s m args meth c w A own cc nL ret) {x : Int32} {off : Int} (tgt : Nat) (hx : ¬ x < 0) (d : decode cc pc = .ok (.ifCond .lt off, 3)) (hg : (pc : Int) + off = (tgt : Int)) (h : zRe p l e R s m args below meth c w A cs ss Qe (pc + 3) lv st M t) : zRe p l e R s m args below meth c w A cs ss Qe pc lv (.int x :: st) M t := by
  have := re_if_lt (t := t) X d hg (fun q => absurd q hx) (fun _ => h)
  rwa [if_neg hx] at this
theorem re_cltT (X : zCx p s m args meth c w A own cc nL ret) {x y : Int32} {off : Int} (tgt : Nat) (hx : x < y) (d : decode cc pc = .ok (.if_icmp .lt off, 3)) (hg : (pc : Int) + off = (tgt : Int)) (h : zRe p l e R s m args below meth c w A cs ss Qe tgt lv st M t) : zRe p l e R s m args below meth c w A cs ss Qe pc lv (.int y :: .int x :: st) M t := by
  have := re_icmp_lt (u := t) X d hg (fun _ => h) (fun q => absurd hx q)
  rwa [if_pos hx] at this
/-- a call on a text constant -/
theorem re_callT (X : zCx p s m args meth c w A own cc nL ret) {y : MethodName} {bytes : ByteArray} {maxL n idx k : Nat} {ret' : Option FieldType} {rm : Room} {o : Nat} {As : List Value} (hM : zMt l w y bytes maxL ret' rm k (.ref (zK w o) :: As) f) (Ha : zCa y bytes maxL ret' rm R n) (L : Cond.methodLink own idx y ∈ zW) (I : Cond.instanceMethod y ∈ zW) (S : Cond.selects "java/lang/String" y y ∈ zW) (ho : o < zNS)
    (hn : As.length = n) (hlen : lv.length = nL) (hst : st0 = As.reverse ++ .ref (zK w o) :: st) (hroom : (st.map fun v => v.category).sum ≤ 8) (hcs : cs ≤ R.cells ∧ ss ≤ R.slots) (d : decode cc pc = .ok (.invokevirtual idx, 3)) (h : ∀ r M1, zOk k r → zRe p l e R s m args below meth c w A cs ss Qe (pc + 3) lv ((zRv w k r).toList ++ st) M1 (g r M1)) : zRe p l e R s m args below meth c w A cs ss Qe pc lv st0 M (zBd (f M) g) := by
  intro r M' ht H locs ls hR hS hL
  cases hf : f M with
  | none => rw [hf] at ht; cases ht
  | some q =>
    obtain ⟨r1, M1⟩ := q
    rw [hf] at ht
    subst hst
    have hrec : ∃ cell : Cell, H[zK w o]? = some cell ∧ cell.vm.isStatics = false ∧ s.vm.findClass "java/lang/String" = some cell.cls := by
      obtain ⟨cell, h1, h2, h3, -⟩ := (X.kk.sx o ho).1.kept hS.2.1
      exact ⟨cell, h1, h2, h3⟩
    refine re_run (va_runV (C := "java/lang/String") (As := As) (rest := st) (zFix X) (hM M r1 M1 hf) ⟨zB X Ha L, X.ts _ I, X.ts _ S⟩ ⟨zBlind, hrec, zPre X hR hS⟩ rfl hn (hL.1.trans hlen) rfl (lv_room hroom) d hcs) hS X.sub (fun H1 locs1 hok hR1 hS1 => h r1 M1 hok r M' ht H1 locs1 ls hR1 hS1 hL)
theorem re_callTK (X : zCx p s m args meth c w A own cc nL ret) {y : MethodName} {bytes : ByteArray} {maxL n idx k : Nat} {ret' : Option FieldType} {rm : Room} {o : Nat} {As : List Value} (hM : zMt l w y bytes maxL ret' rm k (.ref (zK w o) :: As) f) (Ha : zCa y bytes maxL ret' rm R n) (L : Cond.methodLink own idx y ∈ zW) (I : Cond.instanceMethod y ∈ zW) (S : Cond.selects "java/lang/String" y y ∈ zW) (ho : o < zNS)
    (hn : As.length = n) (hlen : lv.length = nL) (hst : st0 = As.reverse ++ .ref (zK w o) :: st) (hroom : (st.map fun v => v.category).sum ≤ 8) (hcs : cs ≤ R.cells ∧ ss ≤ R.slots) (d : decode cc pc = .ok (.invokevirtual idx, 3)) {r1 : Int32} {M1 : zMem} (hf : f M = some (r1, M1)) (h : zOk k r1 → zRe p l e R s m args below meth c w A cs ss Qe (pc + 3) lv ((zRv w k r1).toList ++ st) M1 t) : zRe p l e R s m args below meth c w A cs ss Qe pc lv st0 M t := by
  intro r M' ht H locs ls hR hS hL
  subst hst
  have hrec : ∃ cell : Cell, H[zK w o]? = some cell ∧ cell.vm.isStatics = false ∧ s.vm.findClass "java/lang/String" = some cell.cls := by
    obtain ⟨cell, h1, h2, h3, -⟩ := (X.kk.sx o ho).1.kept hS.2.1
    exact ⟨cell, h1, h2, h3⟩
  refine re_run (va_runV (C := "java/lang/String") (As := As) (rest := st) (zFix X) (hM M r1 M1 hf) ⟨zB X Ha L, X.ts _ I, X.ts _ S⟩ ⟨zBlind, hrec, zPre X hR hS⟩ rfl hn (hL.1.trans hlen) rfl (lv_room hroom) d hcs) hS X.sub (fun H1 locs1 hok hR1 hS1 => h hok r M' ht H1 locs1 ls hR1 hS1 hL)
end ZS
abbrev rm_s (a b : Nat) : Room := { frames := a, cells := 0, slots := 0, locals := b }
theorem lk_coder (l : Launch) (w : zWD) (k : Nat) (hk : k < zNS) : zMt l w yJ0_coder_7d493 cJ0_coder_7d493 1 (some .byte) (rm_s 0 0) 1 [.ref (zK w k)] (fun M => some (0, M)) := by
  refine zMt.of (by decide) [some (.ref (zK w k))] rfl (zle rfl) (by intro v hv; simp only [List.mem_cons, List.not_mem_nil, or_false] at hv; subst hv; rfl) ?_
  intro p e s m args below meth c X M
  refine re_gcs X fs_compact dJ0_coder_7d493_0 ?_
  refine re_eqF X 13 (by decide) dJ0_coder_7d493_3 (by decide) ?_
  refine re_aload_n X dJ0_coder_7d493_6 rfl rfl ?_
  refine re_scod X hk fs_coder dJ0_coder_7d493_7 ?_
  refine re_goto (tgt := 14) X dJ0_coder_7d493_10 (by decide) ?_
  exact re_nret X (by decide +kernel) dJ0_coder_7d493_14
theorem lk_latin (l : Launch) (w : zWD) (k : Nat) (hk : k < zNS) : zMt l w yJ0_isLatin1_aae02 cJ0_isLatin1_aae02 1 (some .boolean) (rm_s 0 0) 2 [.ref (zK w k)] (fun M => some (1, M)) := by
  refine zMt.of (by decide) [some (.ref (zK w k))] rfl (zle rfl) (by intro v hv; simp only [List.mem_cons, List.not_mem_nil, or_false] at hv; subst hv; rfl) ?_
  intro p e s m args below meth c X M
  refine re_gcs X fs_compact dJ0_isLatin1_aae02_0 ?_
  refine re_eqF X 17 (by decide) dJ0_isLatin1_aae02_3 (by decide) ?_
  refine re_aload_n X dJ0_isLatin1_aae02_6 rfl rfl ?_
  refine re_scod X hk fs_coder dJ0_isLatin1_aae02_7 ?_
  refine re_neF X 17 rfl dJ0_isLatin1_aae02_10 (by decide) ?_
  refine re_iconst (v := 1) X dJ0_isLatin1_aae02_13 (by decide) ?_
  refine re_goto (tgt := 18) X dJ0_isLatin1_aae02_14 (by decide) ?_
  exact re_zret X (Or.inr rfl) dJ0_isLatin1_aae02_18
theorem zCa_of {y : MethodName} {bytes : ByteArray} {maxL : Nat} {ret' : Option FieldType} {a b n : Nat} {R : Room} (h1 : Cond.code y bytes maxL ret' ∈ zW) (h2 : Cond.initialized y.cls ∈ zW) (h3 : y.cls ≠ "java/lang/invoke/MethodHandle" ∧ y.cls ≠ "java/lang/invoke/VarHandle" ∧ (parseMethodDescriptor y.desc).map (fun d => d.parameters.length) = some n) (h4 : a + 1 ≤ R.frames) (h5 : 8 + (maxL + 11) + b ≤ R.locals) : zCa y bytes maxL ret' (rm_s a b) R n := ⟨h1, h2, h3, rfl, rfl, h4, h5⟩
theorem lk_length (l : Launch) (w : zWD) (k : Nat) (hk : k < zNS) : zMt l w yJ0_length_8abf5 cJ0_length_8abf5 1 (some .int) (rm_s 1 20) 1 [.ref (zK w k)] (fun M => some (zSlen k, M)) := by
  refine zMt.of (by decide) [some (.ref (zK w k))] rfl (zle rfl) (by intro v hv; simp only [List.mem_cons, List.not_mem_nil, or_false] at hv; subst hv; rfl) ?_
  intro p e s m args below meth c X M
  refine re_aload_n X dJ0_length_8abf5_0 rfl rfl ?_
  refine re_sval X hk fs_value dJ0_length_8abf5_1 ?_
  refine re_slena X hk dJ0_length_8abf5_4 ?_
  refine re_aload_n X dJ0_length_8abf5_5 rfl rfl ?_
  have key : (some (zSlen k, M) : zTr) = zBd (some (0, M)) (fun r M1 => some (zSlen k >>> (r &&& 31), M1)) := by
    show _ = some (zSlen k >>> ((0 : Int32) &&& 31), M)
    rw [sb_shr0]
  rw [key]
  refine re_callT (f := fun M => some (0, M)) X (lk_coder l w k hk) (zCa_of cd_J0_coder_7d493 iz_RJ0 ⟨by decide, by decide, by decide⟩ (by decide) (by decide)) ml_RJ0_335 im_J0_coder_7d493 se_J0_coder_7d493 hk rfl rfl rfl (zle rfl) zRo dJ0_length_8abf5_6 (fun r M1 _ => ?_)
  refine re_ishr (x := zSlen k) (y := r) X dJ0_length_8abf5_9 ?_
  exact re_iret X dJ0_length_8abf5_10
theorem lk_preck (l : Launch) (w : zWD) (i n : Int32) (v : Value) (hv : v.category = 1) (h0 : ¬ i < 0) (h1 : i < n) : zMt l w yJ3_checkIndex_8e157 cJ3_checkIndex_8e157 3 (some .int) (rm_s 0 0) 1 [.int i, .int n, v] (fun M => some (i, M)) := by
  refine zMt.of (by decide) [some (.int i), some (.int n), some v] rfl (zle rfl) (by intro u hu; simp only [List.mem_cons, List.not_mem_nil, or_false] at hu; rcases hu with rfl | rfl | rfl; rfl; rfl; exact hv) ?_
  intro p e s m args below meth c X M
  refine re_iload_n X dJ3_checkIndex_8e157_0 rfl rfl ?_
  refine re_ltF X 9 h0 dJ3_checkIndex_8e157_1 (by decide) ?_
  refine re_iload_n X dJ3_checkIndex_8e157_4 rfl rfl ?_
  refine re_iload_n X dJ3_checkIndex_8e157_5 rfl rfl ?_
  refine re_cltT X 16 h1 dJ3_checkIndex_8e157_6 (by decide) ?_
  refine re_iload_n X dJ3_checkIndex_8e157_16 rfl rfl ?_
  exact re_iret X dJ3_checkIndex_8e157_17
theorem lk_chk (l : Launch) (w : zWD) (i n : Int32) (h0 : ¬ i < 0) (h1 : i < n) : zMt l w yJ0_checkIndex_df160 cJ0_checkIndex_df160 2 none (rm_s 1 22) 0 [.int i, .int n] (fun M => some (0, M)) := by
  refine zMt.of (by decide) [some (.int i), some (.int n)] rfl (zle rfl) (by intro u hu; simp only [List.mem_cons, List.not_mem_nil, or_false] at hu; rcases hu with rfl | rfl <;> rfl) ?_
  intro p e s m args below meth c X M
  refine re_iload_n X dJ0_checkIndex_df160_0 rfl rfl ?_
  refine re_iload_n X dJ0_checkIndex_df160_1 rfl rfl ?_
  refine re_gfm X fs_form dJ0_checkIndex_df160_2 (fun v hv => ?_)
  have key : (some (0, M) : zTr) = zBd (some (i, M)) (fun _ M1 => some (0, M1)) := rfl
  rw [key]
  refine re_callSi (f := fun M => some (i, M)) X (lk_preck l w i n v hv h0 h1) (zCa_of (n := 3) cd_J3_checkIndex_8e157 iz_RJ3 ⟨by decide, by decide, by decide⟩ (by decide) (by decide)) ml_RJ0_1059 sm_J3_checkIndex_8e157 rfl rfl rfl (zle rfl) zRo dJ0_checkIndex_df160_5 (fun r M1 _ => ?_)
  refine re_pop X dJ0_checkIndex_df160_8 rfl ?_
  exact re_vret X dJ0_checkIndex_df160_9
theorem zSlen_lt {k : Nat} {i : Int32} (hk : k < zNS) (h : zIn i (zSlenN k)) : ¬ i < 0 ∧ i < zSlen k := by
  have hb : zSlenN k < 100 := (by decide +kernel : ∀ k, k < zNS → zSlenN k < 100) k hk
  have e : (zSlen k).toInt = (zSlenN k : Int) := nI_toInt (n := zSlenN k) (by omega)
  refine ⟨fun q => ?_, ?_⟩
  · rw [Int32.lt_iff_toInt_lt] at q
    have : (0 : Int32).toInt = 0 := rfl
    omega
  · rw [Int32.lt_iff_toInt_lt, e]
    exact h.2
theorem lk_lcha (l : Launch) (w : zWD) (k : Nat) (i : Int32) (hk : k < zNS) (hi : zIn i (zSlenN k)) : zMt l w yJ1_charAt_3b067 cJ1_charAt_3b067 2 (some .char) (rm_s 2 43) 1 [.ref (zV w k), .int i] (fun M => some (zScha k i, M)) := by
  refine zMt.of (by decide) [some (.ref (zV w k)), some (.int i)] rfl (zle rfl) (by intro u hu; simp only [List.mem_cons, List.not_mem_nil, or_false] at hu; rcases hu with rfl | rfl <;> rfl) ?_
  intro p e s m args below meth c X M
  refine re_iload_n X dJ1_charAt_3b067_0 rfl rfl ?_
  refine re_aload_n X dJ1_charAt_3b067_1 rfl rfl ?_
  refine re_slena X hk dJ1_charAt_3b067_2 ?_
  have key : (some (zScha k i, M) : zTr) = zBd (some (0, M)) (fun _ M1 => some (zScha k i, M1)) := rfl
  rw [key]
  refine re_callSv (f := fun M => some (0, M)) X (lk_chk l w i (zSlen k) (zSlen_lt hk hi).1 (zSlen_lt hk hi).2) (zCa_of (n := 2) cd_J0_checkIndex_df160 iz_RJ0 ⟨by decide, by decide, by decide⟩ (by decide) (by decide)) ml_RJ1_9 sm_J0_checkIndex_df160 rfl rfl rfl (zle rfl) zRo dJ1_charAt_3b067_3 (fun r M1 _ => ?_)
  refine re_aload_n X dJ1_charAt_3b067_6 rfl rfl ?_
  refine re_iload_n X dJ1_charAt_3b067_7 rfl rfl ?_
  refine re_sbald X hk hi dJ1_charAt_3b067_8 ?_
  refine re_sipush (v := 255) X dJ1_charAt_3b067_9 (by decide) ?_
  refine re_iand X dJ1_charAt_3b067_12 ?_
  refine re_i2c X dJ1_charAt_3b067_13 ?_
  rw [(zScha_ok k i).1]
  exact re_nret X (zScha_ok k i).2 dJ1_charAt_3b067_14
theorem lk_charAt (l : Launch) (w : zWD) (k : Nat) (i : Int32) (hk : k < zNS) (hi : zIn i (zSlenN k)) : zMt l w yJ0_charAt_5068e cJ0_charAt_5068e 2 (some .char) (rm_s 3 64) 1 [.ref (zK w k), .int i] (fun M => some (zScha k i, M)) := by
  refine zMt.of (by decide) [some (.ref (zK w k)), some (.int i)] rfl (zle rfl) (by intro u hu; simp only [List.mem_cons, List.not_mem_nil, or_false] at hu; rcases hu with rfl | rfl <;> rfl) ?_
  intro p e s m args below meth c X M
  refine re_aload_n X dJ0_charAt_5068e_0 rfl rfl ?_
  have key : (some (zScha k i, M) : zTr) = zBd (some (1, M)) (fun r M1 => if r = 0 then none else zBd (some (zScha k i, M1)) (fun r2 M2 => if r2 = zScha k i then some (r2, M2) else none)) := by
    show _ = if (1 : Int32) = 0 then none else if zScha k i = zScha k i then some (zScha k i, M) else none
    rw [if_neg (by decide), if_pos rfl]
  rw [key]
  refine re_callT (f := fun M => some (1, M)) (k := 2) X (lk_latin l w k hk) (zCa_of cd_J0_isLatin1_aae02 iz_RJ0 ⟨by decide, by decide, by decide⟩ (by decide) (by decide)) ml_RJ0_492 im_J0_isLatin1_aae02 se_J0_isLatin1_aae02 hk rfl rfl rfl (zle rfl) zRo dJ0_charAt_5068e_1 (fun r M1 _ => ?_)
  refine re_if_eq (x := r) (st := []) (tgt := 16) X dJ0_charAt_5068e_4 (by decide) (fun _ => re_none) (fun _ => ?_)
  refine re_aload_n X dJ0_charAt_5068e_7 rfl rfl ?_
  refine re_sval X hk fs_value dJ0_charAt_5068e_8 ?_
  refine re_iload_n X dJ0_charAt_5068e_11 rfl rfl ?_
  refine re_callSi (f := fun M => some (zScha k i, M)) X (lk_lcha l w k i hk hi) (zCa_of (n := 2) cd_J1_charAt_3b067 iz_RJ1 ⟨by decide, by decide, by decide⟩ (by decide) (by decide)) ml_RJ0_495 sm_J1_charAt_3b067 rfl rfl rfl (zle rfl) zRo dJ0_charAt_5068e_12 (fun r2 M2 _ => ?_)
  refine re_if (fun q => ?_) (fun _ => re_none)
  subst q
  exact re_nret X (zScha_ok k i).2 dJ0_charAt_5068e_15
section ZS2
variable {p : Program} {l : Launch} {e : Env} {R : Room} {s : State} {m : MethodId} {args : Array Value} {below : List Frame} {meth : Method} {c : Code} {w : zWD} {A : Nat → Prop} {cs ss : Nat} {Qe : Int32 → zMem → State → Prop} {own : String} {cc : ByteArray} {nL : Nat} {ret : Option FieldType} {pc : Nat} {lv lv' : List (Option Value)} {st st0 : List Value} {M : zMem} {t u : zTr}
theorem re_slen (X : zCx p s m args meth c w A own cc nL ret) {k idx : Nat} (hk : k < zNS) (L : Cond.methodLink own idx yJ0_length_8abf5 ∈ zW) (h1 : 2 ≤ R.frames) (h2 : 40 ≤ R.locals) (hlen : lv.length = nL) (hroom : (st.map fun v => v.category).sum ≤ 8) (hcs : cs ≤ R.cells ∧ ss ≤ R.slots) (d : decode cc pc = .ok (.invokevirtual idx, 3)) (h : zRe p l e R s m args below meth c w A cs ss Qe (pc + 3) lv (.int (zSlen k) :: st) M t) : zRe p l e R s m args below meth c w A cs ss Qe pc lv (.ref (zK w k) :: st) M t := by
  refine re_callTK (f := fun M => some (zSlen k, M)) (k := 1) (As := []) X (lk_length l w k hk) (zCa_of cd_J0_length_8abf5 iz_RJ0 ⟨by decide, by decide, by decide⟩ h1 h2) L im_J0_length_8abf5 se_J0_length_8abf5 hk rfl hlen rfl hroom hcs d rfl (fun _ => h)
theorem re_schr (X : zCx p s m args meth c w A own cc nL ret) {k idx : Nat} {i : Int32} (hk : k < zNS) (hi : zIn i (zSlenN k)) (L : Cond.methodLink own idx yJ0_charAt_5068e ∈ zW) (h1 : 4 ≤ R.frames) (h2 : 85 ≤ R.locals) (hlen : lv.length = nL) (hroom : (st.map fun v => v.category).sum ≤ 8) (hcs : cs ≤ R.cells ∧ ss ≤ R.slots) (d : decode cc pc = .ok (.invokevirtual idx, 3)) (h : zRe p l e R s m args below meth c w A cs ss Qe (pc + 3) lv (.int (zScha k i) :: st) M t) : zRe p l e R s m args below meth c w A cs ss Qe pc lv (.int i :: .ref (zK w k) :: st) M t := by
  refine re_callTK (f := fun M => some (zScha k i, M)) (k := 1) (As := [.int i]) X (lk_charAt l w k i hk hi) (zCa_of (n := 1) cd_J0_charAt_5068e iz_RJ0 ⟨by decide, by decide, by decide⟩ h1 h2) L im_J0_charAt_5068e se_J0_charAt_5068e hk rfl hlen rfl hroom hcs d rfl (fun _ => h)
end ZS2
