section ZR3
variable {p : Program} {l : Launch} {e : Env} {R : Room} {s : State} {m : MethodId} {args : Array Value} {below : List Frame} {meth : Method} {c : Code} {w : zWD} {A : Nat → Prop} {cs ss : Nat} {Qe : Int32 → zMem → State → Prop} {own : String} {cc : ByteArray} {nL : Nat} {ret : Option FieldType} {pc : Nat} {lv lv' : List (Option Value)} {st st0 : List Value} {M : zMem} {t u : zTr} {f : zMem → zTr} {g : Int32 → zMem → zTr}
/-! calls -/
theorem re_run {H : Heap} {locs : List Loc} {Q : State → Prop} {ls : Array Slot} {k : Nat} {r : Int32} {M1 : zMem} {a : Array Value} (hr : va_Run p l e R s m args below meth c H locs cs ss 0 0 (F0 m pc ls st0) st (zQc w k r M1 a) (zFree w)) (hS : va_S A s.heap H locs) (hsub : ∀ q, zFree w q → A q)
    (kk : ∀ (H1 : Heap) (locs1 : List Loc), zOk k r → zRep w M1 H1 → va_S A s.heap H1 locs1 → W p l e R s m args below meth c H1 locs1 cs ss Q (F0 m (pc + 3) ls ((zRv w k r).toList ++ st))) : W p l e R s m args below meth c H locs cs ss Q (F0 m pc ls st0) := by
  intro T hT X
  obtain ⟨v, st₀, t, T', L, h0, X', hL, e1, e2, ⟨hv, hok, hR, hz, hk⟩, stp⟩ := hr T hT X
  cases hv
  rw [h0] at hz hk
  have hR : zRep w M1 T'.heap := by rw [e1]; exact hR
  obtain ⟨t2, a1, b1⟩ := kk T'.heap (locs ++ L) hok hR
    ⟨Nat.le_trans hS.1 (by rw [e1]; exact hz), fun q h1 h2 => by rw [e1, hk q (Nat.lt_of_lt_of_le h1 hS.1) (fun z => h2 (hsub q z))]; exact hS.2.1 q h1 h2, fun q hq => by
      rcases List.mem_append.mp hq with h | h
      · exact hS.2.2 q h
      · exact hsub _ (hL q h)⟩ T' rfl X'
  exact ⟨t2, stp t2 a1, b1⟩
/-- what a call rests on: the callee's names, and its room -/
def zCa (y : MethodName) (bytes : ByteArray) (maxL : Nat) (ret' : Option FieldType) (rm R : Room) (n : Nat) : Prop :=
  Cond.code y bytes maxL ret' ∈ zW ∧ Cond.initialized y.cls ∈ zW ∧ (y.cls ≠ "java/lang/invoke/MethodHandle" ∧ y.cls ≠ "java/lang/invoke/VarHandle" ∧ (parseMethodDescriptor y.desc).map (fun d => d.parameters.length) = some n) ∧ rm.cells = 0 ∧ rm.slots = 0 ∧ rm.frames + 1 ≤ R.frames ∧ 8 + (maxL + 11) + rm.locals ≤ R.locals
theorem zCa.good {y : MethodName} {bytes : ByteArray} {maxL : Nat} {ret' : Option FieldType} (h : Cond.code y bytes maxL ret' ∈ zW) : GoodIn zW (Cond.code y bytes maxL ret' :: zW) := fun w hw => by
  rcases List.mem_cons.mp hw with rfl | hw
  · exact ⟨h, zW_good _ h⟩
  · exact ⟨hw, zW_good _ hw⟩
theorem zBlind {av : List Value} {M : zMem} : FrameBlind (zPc w av M) := fun a U g mk h => ⟨h.1, h.2.1, zKK.same (u := U) (U := U.calling g mk a) rfl rfl h.2.2⟩
theorem zPre (X : zCx p s m args meth c w A own cc nL ret) {H : Heap} {locs : List Loc} {av : List Value} (hR : zRep w M H) (hS : va_S A s.heap H locs) : ∀ U : State, U.heap = H → s.WarmedH U.vm → zPc w av M av.toArray U :=
  fun U hU hW => ⟨rfl, by rw [hU]; exact hR, (zKK.go hW hS hU X.kk).narrow X.sub⟩
theorem zFix (X : zCx p s m args meth c w A own cc nL ret) : CallFix p m c cc nL s args zW own := ⟨X.1, X.2.1, X.2.2.1, X.ow, X.ts⟩
theorem zB {y : MethodName} {bytes : ByteArray} {maxL n idx : Nat} {ret' : Option FieldType} {rm : Room} (X : zCx p s m args meth c w A own cc nL ret) (Ha : zCa y bytes maxL ret' rm R n) (L : Cond.methodLink own idx y ∈ zW) : CallB R s args own idx y bytes maxL ret' (Cond.code y bytes maxL ret' :: zW) rm 0 0 n := by
  obtain ⟨a1, a2, a3, a4, a5, a6, a7⟩ := Ha
  exact callB_of n X.ts (zCa.good a1) rfl a4 a5 (X.ts _ a2) (X.ts _ L) a3 ⟨a6, a7⟩
theorem zRec (X : zCx p s m args meth c w A own cc nL ret) {H : Heap} {ci N o : Nat} {C : String} {T : u_T} {ty : Nat → FieldType} (B : zCl ci N C T ty) (ho : zKd w o = (ci, N)) (hR : zRep w M H) : ∃ cellB : Cell, H[zA w o]? = some cellB ∧ cellB.vm.isStatics = false ∧ s.vm.findClass C = some cellB.cls := by
  have b2 := B.2.1
  obtain ⟨hlv, ho0⟩ := zKd_live ho (by omega)
  obtain ⟨pk, hpk⟩ := zLi_mem (zKd0_lt ho0 (by omega)) hlv
  have hP := hR pk _ (zWl_get w M hpk)
  rw [zEn_obj ho0 b2] at hP
  obtain ⟨r, h1, cell, h2, h3, h4, -⟩ := hP
  have hr : r = (C, T, N) := Option.some.inj (h1.symm.trans B.1)
  subst hr
  refine ⟨cell, h2, by rw [h4]; rfl, ?_⟩
  rw [h3]
  exact (X.kk.1.1 ci _ B.1).2.1
theorem re_callV (X : zCx p s m args meth c w A own cc nL ret) {y : MethodName} {bytes : ByteArray} {maxL n idx k : Nat} {ret' : Option FieldType} {rm : Room} {ci N o : Nat} {T : u_T} {ty : Nat → FieldType} {As : List Value} (hM : zMt l w y bytes maxL ret' rm k (.ref (zA w o) :: As) f) (Ha : zCa y bytes maxL ret' rm R n) (L : Cond.methodLink own idx y ∈ zW) (I : Cond.instanceMethod y ∈ zW) (S : Cond.selects y.cls y y ∈ zW) (B : zCl ci N y.cls T ty) (ho : zKd w o = (ci, N))
    (hn : As.length = n) (hlen : lv.length = nL) (hst : st0 = As.reverse ++ .ref (zA w o) :: st) (hroom : (st.map fun v => v.category).sum ≤ 8) (hcs : cs ≤ R.cells ∧ ss ≤ R.slots) (d : decode cc pc = .ok (.invokevirtual idx, 3)) (h : ∀ r M1, zOk k r → zRe p l e R s m args below meth c w A cs ss Qe (pc + 3) lv ((zRv w k r).toList ++ st) M1 (g r M1)) : zRe p l e R s m args below meth c w A cs ss Qe pc lv st0 M (zBd (f M) g) := by
  intro r M' ht H locs ls hR hS hL
  cases hf : f M with
  | none => rw [hf] at ht; cases ht
  | some q =>
    obtain ⟨r1, M1⟩ := q
    rw [hf] at ht
    subst hst
    refine re_run (va_runV (As := As) (rest := st) (zFix X) (hM M r1 M1 hf) ⟨zB X Ha L, X.ts _ I, X.ts _ S⟩ ⟨zBlind, zRec X B ho hR, zPre X hR hS⟩ rfl hn (hL.1.trans hlen) rfl (lv_room hroom) d hcs) hS X.sub (fun H1 locs1 hok hR1 hS1 => h r1 M1 hok r M' ht H1 locs1 ls hR1 hS1 hL)
theorem re_callS (X : zCx p s m args meth c w A own cc nL ret) {y : MethodName} {bytes : ByteArray} {maxL n idx k : Nat} {ret' : Option FieldType} {rm : Room} {As : List Value} (hM : zMt l w y bytes maxL ret' rm k As f) (Ha : zCa y bytes maxL ret' rm R n) (L : Cond.methodLink own idx y ∈ zW) (I : Cond.static y ∈ zW)
    (hn : As.length = n) (hlen : lv.length = nL) (hst : st0 = As.reverse ++ st) (hroom : (st.map fun v => v.category).sum ≤ 8) (hcs : cs ≤ R.cells ∧ ss ≤ R.slots) (d : decode cc pc = .ok (.invokestatic idx, 3)) (h : ∀ r M1, zOk k r → zRe p l e R s m args below meth c w A cs ss Qe (pc + 3) lv ((zRv w k r).toList ++ st) M1 (g r M1)) : zRe p l e R s m args below meth c w A cs ss Qe pc lv st0 M (zBd (f M) g) := by
  intro r M' ht H locs ls hR hS hL
  cases hf : f M with
  | none => rw [hf] at ht; cases ht
  | some q =>
    obtain ⟨r1, M1⟩ := q
    rw [hf] at ht
    subst hst
    refine re_run (va_runS (As := As) (rest := st) (zFix X) (hM M r1 M1 hf) ⟨zB X Ha L, X.ts _ I⟩ ⟨zBlind, zPre X hR hS⟩ rfl hn (hL.1.trans hlen) rfl (lv_room hroom) d hcs) hS X.sub (fun H1 locs1 hok hR1 hS1 => h r1 M1 hok r M' ht H1 locs1 ls hR1 hS1 hL)
/-- a private static of the nest's host -/
theorem re_callN (X : zCx p s m args meth c w A own cc nL ret) {y : MethodName} {bytes : ByteArray} {maxL n idx k : Nat} {ret' : Option FieldType} {rm : Room} {As : List Value} {host : String} (hM : zMt l w y bytes maxL ret' rm k As f) (Ha : zCa y bytes maxL ret' rm R n) (L : (own, idx, y, host) ∈ zNw) (I : Cond.static y ∈ zW)
    (hn : As.length = n) (hlen : lv.length = nL) (hst : st0 = As.reverse ++ st) (hroom : (st.map fun v => v.category).sum ≤ 8) (hcs : cs ≤ R.cells ∧ ss ≤ R.slots) (d : decode cc pc = .ok (.invokestatic idx, 3)) (h : ∀ r M1, zOk k r → zRe p l e R s m args below meth c w A cs ss Qe (pc + 3) lv ((zRv w k r).toList ++ st) M1 (g r M1)) : zRe p l e R s m args below meth c w A cs ss Qe pc lv st0 M (zBd (f M) g) := by
  intro r M' ht H locs ls hR hS hL
  cases hf : f M with
  | none => rw [hf] at ht; cases ht
  | some q =>
    obtain ⟨r1, M1⟩ := q
    rw [hf] at ht
    subst hst
    obtain ⟨a1, a2, a3, a4, a5, a6, a7⟩ := Ha
    refine re_run (va_runSN (As := As) (rest := st) (zFix X) (hM M r1 M1 hf) ⟨va_cnB (host := host) n X.ts (zCa.good a1) rfl a4 a5 (X.kk.nw _ L) (X.ts _ a2) a3 ⟨a6, a7⟩, X.ts _ I, trivial⟩ ⟨zBlind, zPre X hR hS⟩ rfl hn (hL.1.trans hlen) rfl (lv_room hroom) d hcs) hS X.sub (fun H1 locs1 hok hR1 hS1 => h r1 M1 hok r M' ht H1 locs1 ls hR1 hS1 hL)
theorem re_callVv (X : zCx p s m args meth c w A own cc nL ret) {y : MethodName} {bytes : ByteArray} {maxL n idx : Nat} {ret' : Option FieldType} {rm : Room} {ci N o : Nat} {T : u_T} {ty : Nat → FieldType} {As : List Value} (hM : zMt l w y bytes maxL ret' rm 0 (.ref (zA w o) :: As) f) (Ha : zCa y bytes maxL ret' rm R n) (L : Cond.methodLink own idx y ∈ zW) (I : Cond.instanceMethod y ∈ zW) (S : Cond.selects y.cls y y ∈ zW) (B : zCl ci N y.cls T ty) (ho : zKd w o = (ci, N))
    (hn : As.length = n) (hlen : lv.length = nL) (hst : st0 = As.reverse ++ .ref (zA w o) :: st) (hroom : (st.map fun v => v.category).sum ≤ 8) (hcs : cs ≤ R.cells ∧ ss ≤ R.slots) (d : decode cc pc = .ok (.invokevirtual idx, 3)) (h : ∀ r M1, zOk 0 r → zRe p l e R s m args below meth c w A cs ss Qe (pc + 3) lv st M1 (g r M1)) : zRe p l e R s m args below meth c w A cs ss Qe pc lv st0 M (zBd (f M) g) :=
  re_callV X hM Ha L I S B ho hn hlen hst hroom hcs d h
theorem re_callVi (X : zCx p s m args meth c w A own cc nL ret) {y : MethodName} {bytes : ByteArray} {maxL n idx : Nat} {ret' : Option FieldType} {rm : Room} {ci N o : Nat} {T : u_T} {ty : Nat → FieldType} {As : List Value} (hM : zMt l w y bytes maxL ret' rm 1 (.ref (zA w o) :: As) f) (Ha : zCa y bytes maxL ret' rm R n) (L : Cond.methodLink own idx y ∈ zW) (I : Cond.instanceMethod y ∈ zW) (S : Cond.selects y.cls y y ∈ zW) (B : zCl ci N y.cls T ty) (ho : zKd w o = (ci, N))
    (hn : As.length = n) (hlen : lv.length = nL) (hst : st0 = As.reverse ++ .ref (zA w o) :: st) (hroom : (st.map fun v => v.category).sum ≤ 8) (hcs : cs ≤ R.cells ∧ ss ≤ R.slots) (d : decode cc pc = .ok (.invokevirtual idx, 3)) (h : ∀ r M1, zOk 1 r → zRe p l e R s m args below meth c w A cs ss Qe (pc + 3) lv (.int r :: st) M1 (g r M1)) : zRe p l e R s m args below meth c w A cs ss Qe pc lv st0 M (zBd (f M) g) :=
  re_callV X hM Ha L I S B ho hn hlen hst hroom hcs d h
theorem re_callVz (X : zCx p s m args meth c w A own cc nL ret) {y : MethodName} {bytes : ByteArray} {maxL n idx : Nat} {ret' : Option FieldType} {rm : Room} {ci N o : Nat} {T : u_T} {ty : Nat → FieldType} {As : List Value} (hM : zMt l w y bytes maxL ret' rm 2 (.ref (zA w o) :: As) f) (Ha : zCa y bytes maxL ret' rm R n) (L : Cond.methodLink own idx y ∈ zW) (I : Cond.instanceMethod y ∈ zW) (S : Cond.selects y.cls y y ∈ zW) (B : zCl ci N y.cls T ty) (ho : zKd w o = (ci, N))
    (hn : As.length = n) (hlen : lv.length = nL) (hst : st0 = As.reverse ++ .ref (zA w o) :: st) (hroom : (st.map fun v => v.category).sum ≤ 8) (hcs : cs ≤ R.cells ∧ ss ≤ R.slots) (d : decode cc pc = .ok (.invokevirtual idx, 3)) (h : ∀ r M1, zOk 2 r → zRe p l e R s m args below meth c w A cs ss Qe (pc + 3) lv (.int r :: st) M1 (g r M1)) : zRe p l e R s m args below meth c w A cs ss Qe pc lv st0 M (zBd (f M) g) :=
  re_callV X hM Ha L I S B ho hn hlen hst hroom hcs d h
theorem re_callVs (X : zCx p s m args meth c w A own cc nL ret) {y : MethodName} {bytes : ByteArray} {maxL n idx : Nat} {ret' : Option FieldType} {rm : Room} {ci N o : Nat} {T : u_T} {ty : Nat → FieldType} {As : List Value} (hM : zMt l w y bytes maxL ret' rm 3 (.ref (zA w o) :: As) f) (Ha : zCa y bytes maxL ret' rm R n) (L : Cond.methodLink own idx y ∈ zW) (I : Cond.instanceMethod y ∈ zW) (S : Cond.selects y.cls y y ∈ zW) (B : zCl ci N y.cls T ty) (ho : zKd w o = (ci, N))
    (hn : As.length = n) (hlen : lv.length = nL) (hst : st0 = As.reverse ++ .ref (zA w o) :: st) (hroom : (st.map fun v => v.category).sum ≤ 8) (hcs : cs ≤ R.cells ∧ ss ≤ R.slots) (d : decode cc pc = .ok (.invokevirtual idx, 3)) (h : ∀ r M1, zOk 3 r → zRe p l e R s m args below meth c w A cs ss Qe (pc + 3) lv (.ref (zK w (zIx r)) :: st) M1 (g r M1)) : zRe p l e R s m args below meth c w A cs ss Qe pc lv st0 M (zBd (f M) g) :=
  re_callV X hM Ha L I S B ho hn hlen hst hroom hcs d h
theorem re_callSv (X : zCx p s m args meth c w A own cc nL ret) {y : MethodName} {bytes : ByteArray} {maxL n idx : Nat} {ret' : Option FieldType} {rm : Room} {As : List Value} (hM : zMt l w y bytes maxL ret' rm 0 As f) (Ha : zCa y bytes maxL ret' rm R n) (L : Cond.methodLink own idx y ∈ zW) (I : Cond.static y ∈ zW)
    (hn : As.length = n) (hlen : lv.length = nL) (hst : st0 = As.reverse ++ st) (hroom : (st.map fun v => v.category).sum ≤ 8) (hcs : cs ≤ R.cells ∧ ss ≤ R.slots) (d : decode cc pc = .ok (.invokestatic idx, 3)) (h : ∀ r M1, zOk 0 r → zRe p l e R s m args below meth c w A cs ss Qe (pc + 3) lv st M1 (g r M1)) : zRe p l e R s m args below meth c w A cs ss Qe pc lv st0 M (zBd (f M) g) :=
  re_callS X hM Ha L I hn hlen hst hroom hcs d h
theorem re_callSi (X : zCx p s m args meth c w A own cc nL ret) {y : MethodName} {bytes : ByteArray} {maxL n idx : Nat} {ret' : Option FieldType} {rm : Room} {As : List Value} (hM : zMt l w y bytes maxL ret' rm 1 As f) (Ha : zCa y bytes maxL ret' rm R n) (L : Cond.methodLink own idx y ∈ zW) (I : Cond.static y ∈ zW)
    (hn : As.length = n) (hlen : lv.length = nL) (hst : st0 = As.reverse ++ st) (hroom : (st.map fun v => v.category).sum ≤ 8) (hcs : cs ≤ R.cells ∧ ss ≤ R.slots) (d : decode cc pc = .ok (.invokestatic idx, 3)) (h : ∀ r M1, zOk 1 r → zRe p l e R s m args below meth c w A cs ss Qe (pc + 3) lv (.int r :: st) M1 (g r M1)) : zRe p l e R s m args below meth c w A cs ss Qe pc lv st0 M (zBd (f M) g) :=
  re_callS X hM Ha L I hn hlen hst hroom hcs d h
theorem re_callSz (X : zCx p s m args meth c w A own cc nL ret) {y : MethodName} {bytes : ByteArray} {maxL n idx : Nat} {ret' : Option FieldType} {rm : Room} {As : List Value} (hM : zMt l w y bytes maxL ret' rm 2 As f) (Ha : zCa y bytes maxL ret' rm R n) (L : Cond.methodLink own idx y ∈ zW) (I : Cond.static y ∈ zW)
    (hn : As.length = n) (hlen : lv.length = nL) (hst : st0 = As.reverse ++ st) (hroom : (st.map fun v => v.category).sum ≤ 8) (hcs : cs ≤ R.cells ∧ ss ≤ R.slots) (d : decode cc pc = .ok (.invokestatic idx, 3)) (h : ∀ r M1, zOk 2 r → zRe p l e R s m args below meth c w A cs ss Qe (pc + 3) lv (.int r :: st) M1 (g r M1)) : zRe p l e R s m args below meth c w A cs ss Qe pc lv st0 M (zBd (f M) g) :=
  re_callS X hM Ha L I hn hlen hst hroom hcs d h
theorem re_callSs (X : zCx p s m args meth c w A own cc nL ret) {y : MethodName} {bytes : ByteArray} {maxL n idx : Nat} {ret' : Option FieldType} {rm : Room} {As : List Value} (hM : zMt l w y bytes maxL ret' rm 3 As f) (Ha : zCa y bytes maxL ret' rm R n) (L : Cond.methodLink own idx y ∈ zW) (I : Cond.static y ∈ zW)
    (hn : As.length = n) (hlen : lv.length = nL) (hst : st0 = As.reverse ++ st) (hroom : (st.map fun v => v.category).sum ≤ 8) (hcs : cs ≤ R.cells ∧ ss ≤ R.slots) (d : decode cc pc = .ok (.invokestatic idx, 3)) (h : ∀ r M1, zOk 3 r → zRe p l e R s m args below meth c w A cs ss Qe (pc + 3) lv (.ref (zK w (zIx r)) :: st) M1 (g r M1)) : zRe p l e R s m args below meth c w A cs ss Qe pc lv st0 M (zBd (f M) g) :=
  re_callS X hM Ha L I hn hlen hst hroom hcs d h
theorem re_callNv (X : zCx p s m args meth c w A own cc nL ret) {y : MethodName} {bytes : ByteArray} {maxL n idx : Nat} {ret' : Option FieldType} {rm : Room} {As : List Value} {host : String} (hM : zMt l w y bytes maxL ret' rm 0 As f) (Ha : zCa y bytes maxL ret' rm R n) (L : (own, idx, y, host) ∈ zNw) (I : Cond.static y ∈ zW)
    (hn : As.length = n) (hlen : lv.length = nL) (hst : st0 = As.reverse ++ st) (hroom : (st.map fun v => v.category).sum ≤ 8) (hcs : cs ≤ R.cells ∧ ss ≤ R.slots) (d : decode cc pc = .ok (.invokestatic idx, 3)) (h : ∀ r M1, zOk 0 r → zRe p l e R s m args below meth c w A cs ss Qe (pc + 3) lv st M1 (g r M1)) : zRe p l e R s m args below meth c w A cs ss Qe pc lv st0 M (zBd (f M) g) :=
  re_callN X hM Ha L I hn hlen hst hroom hcs d h
theorem re_callNi (X : zCx p s m args meth c w A own cc nL ret) {y : MethodName} {bytes : ByteArray} {maxL n idx : Nat} {ret' : Option FieldType} {rm : Room} {As : List Value} {host : String} (hM : zMt l w y bytes maxL ret' rm 1 As f) (Ha : zCa y bytes maxL ret' rm R n) (L : (own, idx, y, host) ∈ zNw) (I : Cond.static y ∈ zW)
    (hn : As.length = n) (hlen : lv.length = nL) (hst : st0 = As.reverse ++ st) (hroom : (st.map fun v => v.category).sum ≤ 8) (hcs : cs ≤ R.cells ∧ ss ≤ R.slots) (d : decode cc pc = .ok (.invokestatic idx, 3)) (h : ∀ r M1, zOk 1 r → zRe p l e R s m args below meth c w A cs ss Qe (pc + 3) lv (.int r :: st) M1 (g r M1)) : zRe p l e R s m args below meth c w A cs ss Qe pc lv st0 M (zBd (f M) g) :=
  re_callN X hM Ha L I hn hlen hst hroom hcs d h
theorem re_callNz (X : zCx p s m args meth c w A own cc nL ret) {y : MethodName} {bytes : ByteArray} {maxL n idx : Nat} {ret' : Option FieldType} {rm : Room} {As : List Value} {host : String} (hM : zMt l w y bytes maxL ret' rm 2 As f) (Ha : zCa y bytes maxL ret' rm R n) (L : (own, idx, y, host) ∈ zNw) (I : Cond.static y ∈ zW)
    (hn : As.length = n) (hlen : lv.length = nL) (hst : st0 = As.reverse ++ st) (hroom : (st.map fun v => v.category).sum ≤ 8) (hcs : cs ≤ R.cells ∧ ss ≤ R.slots) (d : decode cc pc = .ok (.invokestatic idx, 3)) (h : ∀ r M1, zOk 2 r → zRe p l e R s m args below meth c w A cs ss Qe (pc + 3) lv (.int r :: st) M1 (g r M1)) : zRe p l e R s m args below meth c w A cs ss Qe pc lv st0 M (zBd (f M) g) :=
  re_callN X hM Ha L I hn hlen hst hroom hcs d h
theorem re_callNs (X : zCx p s m args meth c w A own cc nL ret) {y : MethodName} {bytes : ByteArray} {maxL n idx : Nat} {ret' : Option FieldType} {rm : Room} {As : List Value} {host : String} (hM : zMt l w y bytes maxL ret' rm 3 As f) (Ha : zCa y bytes maxL ret' rm R n) (L : (own, idx, y, host) ∈ zNw) (I : Cond.static y ∈ zW)
    (hn : As.length = n) (hlen : lv.length = nL) (hst : st0 = As.reverse ++ st) (hroom : (st.map fun v => v.category).sum ≤ 8) (hcs : cs ≤ R.cells ∧ ss ≤ R.slots) (d : decode cc pc = .ok (.invokestatic idx, 3)) (h : ∀ r M1, zOk 3 r → zRe p l e R s m args below meth c w A cs ss Qe (pc + 3) lv (.ref (zK w (zIx r)) :: st) M1 (g r M1)) : zRe p l e R s m args below meth c w A cs ss Qe pc lv st0 M (zBd (f M) g) :=
  re_callN X hM Ha L I hn hlen hst hroom hcs d h
/-! text constants -/
theorem re_ldcS (X : zCx p s m args meth c w A own cc nL ret) {i k : Nat} {tx : String} (hc : (own, i, tx, k) ∈ zSt) (d : decode cc pc = .ok (.ldc i, 2)) (h : zRe p l e R s m args below meth c w A cs ss Qe (pc + 2) lv (.ref (zK w k) :: st) M t) : zRe p l e R s m args below meth c w A cs ss Qe pc lv st M t :=
  fun r M' ht H locs ls hR hS hL => va_ldcS X.1 X.2.1 X.ow (X.kk.st _ hc) d (h r M' ht H locs ls hR hS hL)
theorem re_sret (X : zCx p s m args meth c w (zFree w) own cc nL (some (.object "java/lang/String"))) {k : Nat} {x : Int32} (hx : zIx x = k) (hk : k < zNS) (d : decode cc pc = .ok (.areturn, 1)) : zRm p l e R s m args below meth c w 3 pc lv [.ref (zK w k)] M (some (x, M)) := by
  intro r M' ht H locs ls hR hS hL
  cases ht
  subst hx
  have hlocks := X.locks
  exact W.aret X.1 X.2.1 X.rt (Or.inl ⟨_, rfl⟩) (Or.inr ⟨_, rfl⟩) (fun t ht hW => ⟨rfl, hk, by rw [ht]; exact hR, hS.F ht⟩) hS.2.2 d
/-! switches -/
theorem re_sw_in (X : zCx p s m args meth c w A own cc nL ret) {dflt lo hi off : Int} {offs : Array Int} {len tgt : Nat} {x v : Int32} (d : decode cc pc = .ok (.tableswitch dflt lo hi offs, len)) (hx : x = v) (h1 : ¬ v.toInt < lo) (h2 : ¬ hi < v.toInt) (ho : offs[(v.toInt - lo).toNat]? = some off) (hg : (pc : Int) + off = (tgt : Int)) (h : zRe p l e R s m args below meth c w A cs ss Qe tgt lv st M t) : zRe p l e R s m args below meth c w A cs ss Qe pc lv (.int x :: st) M t := by
  subst hx
  exact fun r M' ht H locs ls hR hS hL => lv_tableIn X.1 X.2.1 d h1 h2 ho hg (h r M' ht H locs ls hR hS hL)
theorem re_sw_out (X : zCx p s m args meth c w A own cc nL ret) {dflt lo hi : Int} {offs : Array Int} {len tgt : Nat} {x : Int32} (d : decode cc pc = .ok (.tableswitch dflt lo hi offs, len)) (hx : x.toInt < lo ∨ hi < x.toInt) (hg : (pc : Int) + dflt = (tgt : Int)) (h : zRe p l e R s m args below meth c w A cs ss Qe tgt lv st M t) : zRe p l e R s m args below meth c w A cs ss Qe pc lv (.int x :: st) M t :=
  fun r M' ht H locs ls hR hS hL => lv_tableOut X.1 X.2.1 d hx hg (h r M' ht H locs ls hR hS hL)
theorem re_lsw (X : zCx p s m args meth c w A own cc nL ret) {dflt off : Int} {ps : Array (Int × Int)} {len tgt : Nat} {x : Int32} (d : decode cc pc = .ok (.lookupswitch dflt ps, len)) (hp : (ps.toList.zip (ps.toList.drop 1)).all (fun (a, next) => a.1 < next.1) = true) (ho : Op.lookupswitch.offset ps.toList dflt x.toInt = off) (hg : (pc : Int) + off = (tgt : Int)) (h : zRe p l e R s m args below meth c w A cs ss Qe tgt lv st M t) : zRe p l e R s m args below meth c w A cs ss Qe pc lv (.int x :: st) M t :=
  fun r M' ht H locs ls hR hS hL => lv_lookup X.1 X.2.1 d hp ho hg (h r M' ht H locs ls hR hS hL)
theorem zRo {R : Room} : 0 ≤ R.cells ∧ 0 ≤ R.slots := ⟨Nat.zero_le _, Nat.zero_le _⟩
theorem zIx_lt {i : Int32} {n : Nat} (h : zIn i n) : zIx i < n := by
  have := zIn_vp h
  simp only [vp_in, not_or, Nat.not_le] at this
  exact this.2
/-- how often a loop may go round -/
def zFu : Nat := 2000
theorem re_if {q : Prop} [Decidable q] (h1 : q → zRe p l e R s m args below meth c w A cs ss Qe pc lv st M t) (h2 : ¬ q → zRe p l e R s m args below meth c w A cs ss Qe pc lv st M u) : zRe p l e R s m args below meth c w A cs ss Qe pc lv st M (if q then t else u) := by
  by_cases hq : q
  · rw [if_pos hq]; exact h1 hq
  · rw [if_neg hq]; exact h2 hq
end ZR3
theorem cl_0 : zCl 0 8 RX0 TX0 tyX0 := ⟨rfl, by omega, tyX0_ok, nmX0, inX0⟩
theorem cl_1 : zCl 1 4 RX1 TX1 tyX1 := ⟨rfl, by omega, tyX1_ok, nmX1, inX1⟩
theorem cl_2 : zCl 2 6 RX2 TX2 tyX2 := ⟨rfl, by omega, tyX2_ok, nmX2, inX2⟩
theorem cl_3 : zCl 3 9 RX3 TX3 tyX3 := ⟨rfl, by omega, tyX3_ok, nmX3, inX3⟩
theorem cl_4 : zCl 4 6 RX4 TX4 tyX4 := ⟨rfl, by omega, tyX4_ok, nmX4, inX4⟩
theorem cl_5 : zCl 5 5 RX5 TX5 tyX5 := ⟨rfl, by omega, tyX5_ok, nmX5, inX5⟩
theorem cl_6 : zCl 6 8 RX6 TX6 tyX6 := ⟨rfl, by omega, tyX6_ok, nmX6, inX6⟩
theorem cl_7 : zCl 7 16 RX7 TX7 tyX7 := ⟨rfl, by omega, tyX7_ok, nmX7, inX7⟩
theorem cl_8 : zCl 8 2 RX8 TX8 tyX8 := ⟨rfl, by omega, tyX8_ok, nmX8, inX8⟩
theorem cl_9 : zCl 9 10 RX9 TX9 tyX9 := ⟨rfl, by omega, tyX9_ok, nmX9, inX9⟩
theorem cl_10 : zCl 10 61 RX10 TX10 tyX10 := ⟨rfl, by omega, tyX10_ok, nmX10, inX10⟩
