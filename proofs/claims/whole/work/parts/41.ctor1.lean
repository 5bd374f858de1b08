theorem zKb_up {B : zBs} {ad : Nat → Nat} {ls : List Nat} {A : Nat → Prop} {ex : va_W} {U : State} {H : Heap} (h : zKK (zWm B (fun _ => 0) []) A U H) (hD : zDx ad ls A ex) (hc : zCL ls = true) : zKK (zWm B ad ls) A U H :=
  ⟨h.1, fun c c' _ _ hl hl' he => hD.1 c c' (zL_m.mp hl) (zL_m.mp hl') he, zClo_of hc, h.2.2.2⟩
theorem zDx_add {B : zBs} {ad : Nat → Nat} {ls : List Nat} {A : Nat → Prop} {ex : va_W} {M : zMem} {q c : Nat} {e : va_E} (h : zDx ad ls A ex) (hcl : zCL ls = true) (hD : va_D A ((zWl (zWm B ad ls) M ++ ex) ++ [(q, e)])) (hc : c ∉ ls) : zDx (zAd ad c q) (c :: ls) A ex := by
  obtain ⟨h1, h2, h3, h4, h5⟩ := h
  obtain ⟨d1, d2⟩ := va_D_last hD
  have hq : ∀ b ∈ ls, ad b ≠ q := fun b hb => d1 (ad b, zEn (zWm B ad ls) M b) (List.mem_append_left _ (zWl_in (w := zWm B ad ls) (zCL_lt hcl hb).1 (zL_m.mpr hb)))
  have hne : ∀ b ∈ ls, b ≠ c := fun b hb q => hc (q ▸ hb)
  refine ⟨fun a b ha hb hab => ?_, fun b x hb hx => ?_, h3, fun b hb => ?_, h5⟩
  · rcases List.mem_cons.mp ha with rfl | ha' <;> rcases List.mem_cons.mp hb with rfl | hb'
    · rfl
    · rw [zAd_s, zAd_n (hne b hb')] at hab
      exact absurd hab.symm (hq b hb')
    · rw [zAd_s, zAd_n (hne a ha')] at hab
      exact absurd hab (hq a ha')
    · rw [zAd_n (hne a ha'), zAd_n (hne b hb')] at hab
      exact h1 a b ha' hb' hab
  · rcases List.mem_cons.mp hb with rfl | hb'
    · rw [zAd_s]
      exact fun q => d1 x (List.mem_append_right _ hx) q.symm
    · rw [zAd_n (hne b hb')]
      exact h2 b x hb' hx
  · rcases List.mem_cons.mp hb with rfl | hb'
    · rw [zAd_s]; exact d2
    · rw [zAd_n (hne b hb')]; exact h4 b hb'
theorem zP_add {B : zBs} {ad : Nat → Nat} {ls : List Nat} {ex : va_W} {M : zMem} {q c : Nat} {x : va_E} {H : Heap} (hcl : zCL ls = true) (hc : c ∉ ls) (he : zEn (zWm B (zAd ad c q) (c :: ls)) M c = x) (hP : va_P B.1 vwCl ((zWl (zWm B ad ls) M ++ ex) ++ [(q, x)]) H) : va_P B.1 vwCl (zWl (zWm B (zAd ad c q) (c :: ls)) M ++ ex) H := by
  refine va_P_mem hP (fun y hy => ?_)
  rcases List.mem_append.mp hy with h | h
  · obtain ⟨b, hb, hl, rfl⟩ := zWl_mem h
    rcases List.mem_cons.mp (zL_m.mp hl) with rfl | hb'
    · refine List.mem_append_right _ (List.mem_singleton.mpr ?_)
      rw [he]
      show (zAd ad b q b, x) = (q, x)
      rw [zAd_s]
    · have hne : b ≠ c := fun q => hc (q ▸ hb')
      refine List.mem_append_left _ (List.mem_append_left _ ?_)
      have hkeep : ∀ d ∈ ls, zAd ad c q d = ad d := fun d hd => zAd_n (fun e => hc (by rw [← e]; exact hd))
      rw [zEn_keep (ls := ls) (ad := ad) hcl hkeep hb']
      have e1 : zA (zWm B (zAd ad c q) (c :: ls)) b = ad b := zAd_n hne
      rw [e1]
      exact zWl_in (w := zWm B ad ls) hb (zL_m.mpr hb')
  · exact List.mem_append_left _ (List.mem_append_right _ h)
/-- what is fixed while a constructor runs -/
def zCy (p : Program) (s : State) (m : MethodId) (args : Array Value) (meth : Method) (c : Code) (B : zBs) (A : Nat → Prop) (own : String) (cc : ByteArray) (nL : Nat) (ret : Option FieldType) : Prop :=
  p.tables.exec = Jvm.exec ∧ c.code = cc ∧ c.maxLocals = nL ∧ s.vm.findClass own = some m.cls ∧ (∀ q ∈ zW, q.before args s = true) ∧ meth.locks = false ∧ meth.sig.returnType = ret ∧ zKK (zWm B (fun _ => 0) []) A s s.heap ∧ (∀ q, s.heap.size ≤ q → A q) ∧ zAO s
/-- a constructor's walk -/
def zRx (p : Program) (l : Launch) (e : Env) (R : Room) (s : State) (m : MethodId) (args : Array Value) (below : List Frame) (meth : Method) (c : Code) (B : zBs) (A : Nat → Prop) (Q : State → Prop) (cs ss : Nat) (ad : Nat → Nat) (ls : List Nat) (ex : va_W) (pc : Nat) (lv : List (Option Value)) (st : List Value) (M : zMem) : Prop :=
  ∀ (H : Heap) (locs : List Loc) (lsl : Array Slot), va_P B.1 vwCl (zWl (zWm B ad ls) M ++ ex) H → zDx ad ls A ex → va_S A s.heap H locs → zLo lsl lv → W p l e R s m args below meth c H locs cs ss Q (F0 m pc lsl st)
section ZX
variable {p : Program} {l : Launch} {e : Env} {R : Room} {s : State} {m : MethodId} {args : Array Value} {below : List Frame} {meth : Method} {c : Code} {B : zBs} {A : Nat → Prop} {cs ss : Nat} {Q : State → Prop} {own : String} {cc : ByteArray} {nL : Nat} {ret : Option FieldType} {ad : Nat → Nat} {ls : List Nat} {ex : va_W} {pc : Nat} {lv : List (Option Value)} {st : List Value} {M : zMem}
theorem rx_aload_n (Y : zCy p s m args meth c B A own cc nL ret) {k : Fin 4} {i : Nat} {x : Nat} (d : decode cc pc = .ok (.aload_n k, 1)) (hk : (k : Nat) = i) (hv : lv[i]? = some (some (.ref x))) (h : zRx p l e R s m args below meth c B A Q cs ss ad ls ex (pc + 1) lv (.ref x :: st) M) : zRx p l e R s m args below meth c B A Q cs ss ad ls ex pc lv st M :=
  fun H locs lsl hP hD hS hL => lv_aload_n Y.1 Y.2.1 d hk (hL.2.2 i _ hv).1 (h H locs lsl hP hD hS hL)
theorem rx_iconst (Y : zCy p s m args meth c B A own cc nL ret) {n : Int} {v : Int32} (d : decode cc pc = .ok (.iconst n, 1)) (hv : Int32.ofInt n = v) (h : zRx p l e R s m args below meth c B A Q cs ss ad ls ex (pc + 1) lv (.int v :: st) M) : zRx p l e R s m args below meth c B A Q cs ss ad ls ex pc lv st M :=
  fun H locs lsl hP hD hS hL => lv_iconst Y.1 Y.2.1 d hv (h H locs lsl hP hD hS hL)
theorem rx_bipush (Y : zCy p s m args meth c B A own cc nL ret) {n : Int} {v : Int32} (d : decode cc pc = .ok (.bipush n, 2)) (hv : (Int8.ofInt n).toInt32 = v) (h : zRx p l e R s m args below meth c B A Q cs ss ad ls ex (pc + 2) lv (.int v :: st) M) : zRx p l e R s m args below meth c B A Q cs ss ad ls ex pc lv st M :=
  fun H locs lsl hP hD hS hL => lv_bipush Y.1 Y.2.1 d hv (h H locs lsl hP hD hS hL)
theorem rx_sipush (Y : zCy p s m args meth c B A own cc nL ret) {n : Int} {v : Int32} (d : decode cc pc = .ok (.sipush n, 3)) (hv : (Int16.ofInt n).toInt32 = v) (h : zRx p l e R s m args below meth c B A Q cs ss ad ls ex (pc + 3) lv (.int v :: st) M) : zRx p l e R s m args below meth c B A Q cs ss ad ls ex pc lv st M :=
  fun H locs lsl hP hD hS hL => lv_sipush Y.1 Y.2.1 d hv (h H locs lsl hP hD hS hL)
theorem rx_dup (Y : zCy p s m args meth c B A own cc nL ret) {v : Value} (d : decode cc pc = .ok (.dup, 1)) (hv : v.category = 1) (h : zRx p l e R s m args below meth c B A Q cs ss ad ls ex (pc + 1) lv (v :: v :: st) M) : zRx p l e R s m args below meth c B A Q cs ss ad ls ex pc lv (v :: st) M :=
  fun H locs lsl hP hD hS hL => lv_dup Y.1 Y.2.1 d hv (h H locs lsl hP hD hS hL)
theorem rx_astore_n (Y : zCy p s m args meth c B A own cc nL ret) {k : Fin 4} {i : Nat} {x : Nat} {lv' : List (Option Value)} (d : decode cc pc = .ok (.astore_n k, 1)) (hk : (k : Nat) = i) (hi : i < lv.length) (hl : lv.set i (some (.ref x)) = lv') (h : zRx p l e R s m args below meth c B A Q cs ss ad ls ex (pc + 1) lv' st M) : zRx p l e R s m args below meth c B A Q cs ss ad ls ex pc lv (.ref x :: st) M :=
  fun H locs lsl hP hD hS hL => lv_astore_n Y.1 Y.2.1 d hk hL.has hi rfl (fun ls' hl' => h H locs ls' hP hD hS (hL.store hi rfl hl hl'))
theorem rx_istore_n (Y : zCy p s m args meth c B A own cc nL ret) {k : Fin 4} {i : Nat} {x : Int32} {lv' : List (Option Value)} (d : decode cc pc = .ok (.istore_n k, 1)) (hk : (k : Nat) = i) (hi : i < lv.length) (hl : lv.set i (some (.int x)) = lv') (h : zRx p l e R s m args below meth c B A Q cs ss ad ls ex (pc + 1) lv' st M) : zRx p l e R s m args below meth c B A Q cs ss ad ls ex pc lv (.int x :: st) M :=
  fun H locs lsl hP hD hS hL => lv_istore_n Y.1 Y.2.1 d hk hL.has hi rfl (fun ls' hl' => h H locs ls' hP hD hS (hL.store hi rfl hl hl'))
theorem rx_obj (Y : zCy p s m args meth c B A own cc nL ret) {idx a : Nat} (L : Cond.methodLink own idx Lib.objectInit ∈ zW) (I : Cond.instanceMethod Lib.objectInit ∈ zW) (C : Cond.code Lib.objectInit ⟨#[0xb1]⟩ 1 none ∈ zW) (hlen : lv.length = nL) (h1 : 1 ≤ R.frames) (h2 : (st.map fun v => v.category).sum + 12 ≤ R.locals) (d : decode cc pc = .ok (.invokespecial idx, 3)) (h : zRx p l e R s m args below meth c B A Q cs ss ad ls ex (pc + 3) lv st M) : zRx p l e R s m args below meth c B A Q cs ss ad ls ex pc lv (.ref a :: st) M :=
  fun H locs lsl hP hD hS hL => W.objInit Y.1 Y.2.1 Y.2.2.2.1 (Y.2.2.2.2.1 _ L) (Y.2.2.2.2.1 _ I) (Y.2.2.2.2.1 _ C) rfl (hL.1.trans (hlen.trans Y.2.2.1.symm)) rfl d h1 (by show 2 * 0 + _ + 12 ≤ _; omega) (h H locs lsl hP hD hS hL)
theorem rx_newa (Y : zCy p s m args meth c B A own cc nL ret) {atype : ArrayType} {ty : FieldType} {k n cn t0 : Nat} {v : Int32} (hty : newarray.typeOf atype = ty) (hw : Cond.arrayClass ty ∈ zW) (hkd : zKd0 cn = (k, n)) (hk : 11 ≤ k ∧ k < 14) (ht0 : (zTys (zWm B ad ls))[t0]? = some (B.2.1 k, ty)) (hdef : defaultValue ty = .int 0) (hra : ∀ (U : State) (a b : ClassId), va_RA U a ty → va_RA U b ty → a = b) (hcl : zCL ls = true) (hc : cn ∉ ls) (hz : ∀ i, M cn i = 0)
    (hn : ¬ v < 0) (hN : v.toNatClampNeg = n) (hby : n * componentBytes ty ≤ 536870912) (hcs : cs + 1 ≤ R.cells) (hss : ss + n ≤ R.slots) (d : decode cc pc = .ok (.newarray atype, 2)) (h : ∀ q, zRx p l e R s m args below meth c B A Q (cs + 1) (ss + n) (zAd ad cn q) (cn :: ls) ex (pc + 2) lv (.ref q :: st) M) : zRx p l e R s m args below meth c B A Q cs ss ad ls ex pc lv (.int v :: st) M := by
  intro H locs lsl hP hD hS hL
  have hKK := Y.2.2.2.2.2.2.2.1
  have hK : va_K B.1 vwCl (zTys (zWm B ad ls)) s := hKK.1
  refine va_newa (a0 := (n, .inl (fun _ => 0))) Y.1 Y.2.1 (by rw [hty]; exact Y.2.2.2.2.1 _ hw) hty hK hP hD.D hS Y.2.2.2.2.2.2.2.2.1 (fun cA => by rw [vp_cell_i, hdef]) hn hN hby hcs hss d (fun q cA H1 hK1 hP1 hD1 hS1 => ?_)
  have e1 : cA = B.2.1 k := hra s _ _ (hK1.2 5 (cA, ty) rfl).2 (hK.2 t0 _ ht0).2
  subst e1
  refine h q H1 locs lsl (zP_add hcl hc ?_ hP1) (zDx_add hD hcl hD1 hc) hS1 hL
  rw [zEn_arr hkd hk.1 hk.2]
  have : M cn = fun _ => 0 := funext hz
  rw [this]
  rfl
end ZX
theorem zRA_i (U : State) (a b : ClassId) (h1 : va_RA U a .int) (h2 : va_RA U b .int) : a = b := Option.some.inj (h1.symm.trans h2)
theorem zRA_z (U : State) (a b : ClassId) (h1 : va_RA U a .boolean) (h2 : va_RA U b .boolean) : a = b := Option.some.inj (h1.symm.trans h2)
theorem zRA_b (U : State) (a b : ClassId) (h1 : va_RA U a .byte) (h2 : va_RA U b .byte) : a = b := Option.some.inj (h1.symm.trans h2)
