/-- what a constructor may touch: what was there, its object, what it makes -/
def zFa (ad : Nat → Nat) (ls : List Nat) (a sz : Nat) : Nat → Prop := fun q => (∃ c, c ∈ ls ∧ q = ad c) ∨ q = a ∨ sz ≤ q
def zQk (B : zBs) (ls0 ls1 : List Nat) (o : Nat) (M' : zMem) (ad : Nat → Nat) (a sz : Nat) : Array Value → State → Outcome → State → Prop := fun _ st oc t => oc = .returned none ∧ (∃ ad' : Nat → Nat, (∀ c ∈ ls0, ad' c = ad c) ∧ ad' o = a ∧ va_P B.1 vwCl (zWl (zWm B ad' ls1) M') t.heap ∧ zDx ad' ls1 (zFa ad ls0 a sz) []) ∧ va_F (zFa ad ls0 a sz) st t
def zPk (B : zBs) (ci : Nat) (bl : List Value) (ls0 : List Nat) (av : (Nat → Nat) → List Value) (M : zMem) (ad : Nat → Nat) (a sz : Nat) : Array Value → State → Prop := fun v U => v = (.ref a :: av ad).toArray ∧ U.heap.size = sz ∧ va_P B.1 vwCl (zWl (zWm B ad ls0) M ++ [(a, .inr (ci, bl))]) U.heap ∧ zDx ad ls0 (fun _ => True) [(a, .inr (ci, bl))] ∧ zKK (zWm B (fun _ => 0) []) (zFa ad ls0 a sz) U U.heap ∧ zAO U
/-- a constructor's contract -/
def zKc (l : Launch) (y : MethodName) (cc : ByteArray) (maxL : Nat) (rm : Room) (mc ms : Nat) (B : zBs) (ci : Nat) (bl : List Value) (ls0 ls1 : List Nat) (o : Nat) (av : (Nat → Nat) → List Value) (M M' : zMem) : Prop :=
  ∀ (ad : Nat → Nat) (a sz : Nat), Met l y (Cond.code y cc maxL none :: zW) rm (zPk B ci bl ls0 av M ad a sz) (zQk B ls0 ls1 o M' ad a sz) mc ms (zFa ad ls0 a sz)
theorem zKc.of {l : Launch} {y : MethodName} {cc : ByteArray} {maxL : Nat} {rm : Room} {mc ms : Nat} {B : zBs} {ci : Nat} {bl : List Value} {ls0 ls1 : List Nat} {o : Nat} {av : (Nat → Nat) → List Value} {M M' : zMem} (hy : plainName y.cls = true) (lv : (Nat → Nat) → Nat → List (Option Value)) (hlv : ∀ ad a, (.ref a :: av ad).map some ++ List.replicate (maxL - (Value.ref a :: av ad).length) none = lv ad a) (hlen : ∀ ad a, (Value.ref a :: av ad).length ≤ maxL) (hcat : ∀ ad a, ∀ v ∈ (Value.ref a :: av ad), v.category = 1)
    (h : ∀ (p : Program) (e : Env) (s : State) (m : MethodId) (args : Array Value) (below : List Frame) (meth : Method) (c : Code) (ad : Nat → Nat) (a : Nat), zCy p s m args meth c B (zFa ad ls0 a s.heap.size) y.cls cc maxL none → meth.name = y.name → zRx p l e rm s m args below meth c B (zFa ad ls0 a s.heap.size) (MQ below (zQk B ls0 ls1 o M' ad a s.heap.size) args s mc ms (zFa ad ls0 a s.heap.size)) 0 0 ad ls0 [(a, .inr (ci, bl))] 0 (lv ad a) [] M) : zKc l y cc maxL rm mc ms B ci bl ls0 ls1 o av M M' := by
  intro ad a sz
  refine Met.ofW (cc := cc) (maxL := maxL) (ret := none) hy rfl ?_
  intro p e s m args below meth c s₁ Bd hml hv
  obtain ⟨rfl, hsz, hP, hD, hK, hO⟩ := hv
  subst hsz
  have hts := atoms_spec (ws := Cond.code y cc maxL none :: zW) Bd.pre
  have Y : zCy p s m (Value.ref a :: av ad).toArray meth c B (zFa ad ls0 a s.heap.size) y.cls cc maxL none := ⟨Bd.exec, Bd.bytes, hml, findClass_of_methodNamed Bd.named, fun q hq => hts q (List.mem_cons_of_mem _ hq), Bd.notSynchronized, Bd.returns, hK, fun q hq => Or.inr (Or.inr hq), hO⟩
  have hsl : ∀ av : List Value, (∀ v ∈ av, v.category = 1) → lg_sl av = av.map Slot.val := by
    intro av
    induction av with
    | nil => intro _; rfl
    | cons a b ih =>
      intro hc
      have ha := hc a List.mem_cons_self
      have hb := ih (fun v hv => hc v (List.mem_cons_of_mem _ hv))
      simp only [lg_sl, List.flatMap_cons, List.map_cons] at hb ⊢
      rw [if_neg (by omega), hb]
      rfl
  have hcat := hcat ad a
  have hlen := hlen ad a
  have hlv := hlv ad a
  have hin := (name_of_methodNamed Bd.named Bd.method).1
  have h0 := h p e s m (Value.ref a :: av ad).toArray below meth c ad a Y hin
  generalize lv ad a = lva at hlv h0
  generalize hav : Value.ref a :: av ad = avv at hlv hlen hcat h0 ⊢
  have h1 := hsl avv hcat
  have hl := lv_entry avv (n := maxL) (by rw [h1, List.length_map]; exact hlen)
  rw [lg_entry_eq]
  generalize hls : (lg_sl avv ++ List.replicate (maxL - (lg_sl avv).length) Slot.unset).toArray = ls at hl ⊢
  have hL : zLo ls lva := by
    subst hlv
    refine ⟨?_, hl.2.1, fun i v hi => ?_⟩
    · rw [hl.1]
      simp
      omega
    · have hlt : i < avv.length := by
        rcases Nat.lt_or_ge i avv.length with q | q
        · exact q
        · rw [List.getElem?_append_right (by simpa using q), List.getElem?_replicate] at hi
          split at hi <;> cases hi
      rw [List.getElem?_append_left (by simpa using hlt), List.getElem?_map] at hi
      cases hg : avv[i]? with
      | none => rw [hg] at hi; cases hi
      | some u =>
        rw [hg] at hi
        have eu : u = v := by simpa using hi
        subst eu
        refine ⟨?_, hcat u (List.mem_of_getElem? hg)⟩
        rw [← hls, List.getElem?_toArray, h1, List.getElem?_append_left (by simpa using hlt), List.getElem?_map, hg]
        rfl
  refine h0 s.heap [] ls hP ⟨hD.1, hD.2.1, hD.2.2.1, fun c hc => Or.inl ⟨c, hc, rfl⟩, fun x hx => Or.inr (Or.inl ?_)⟩ va_S.rf hL
  rw [List.mem_singleton.mp hx]
section ZX3
variable {p : Program} {l : Launch} {e : Env} {R : Room} {s : State} {m : MethodId} {args : Array Value} {below : List Frame} {meth : Method} {c : Code} {B : zBs} {A : Nat → Prop} {cs ss : Nat} {Q : State → Prop} {own : String} {cc : ByteArray} {nL : Nat} {ret : Option FieldType} {ad : Nat → Nat} {ls : List Nat} {e0 : va_W} {pc : Nat} {lv : List (Option Value)} {st st0 : List Value} {M : zMem}
theorem rx_end (Y : zCy p s m args meth c B A own cc nL none) {ad0 : Nat → Nat} {ls0 : List Nat} {o a : Nat} (hA : zFa ad0 ls0 a s.heap.size = A) (hk : ∀ b ∈ ls0, ad b = ad0 b) (ho : ad o = a) (d : decode cc pc = .ok (.return_, 1)) : zRx p l e R s m args below meth c B A (MQ below (zQk B ls0 ls o M ad0 a s.heap.size) args s cs ss A) cs ss ad ls [] pc lv [] M := by
  intro H locs lsl hP hD hS hL
  rw [List.append_nil] at hP
  have hlocks := Y.2.2.2.2.2.1
  subst hA
  exact W.vret Y.1 Y.2.1 Y.2.2.2.2.2.2.1 (fun t ht hW => ⟨rfl, ⟨ad, hk, ho, by rw [ht]; exact hP, hD⟩, hS.F ht⟩) hS.2.2 d
theorem zPk_blind {ci : Nat} {bl : List Value} {ls0 : List Nat} {av : (Nat → Nat) → List Value} {a sz : Nat} : FrameBlind (zPk B ci bl ls0 av M ad a sz) := fun x U g mk h => ⟨h.1, h.2.1, h.2.2.1, h.2.2.2.1, zKK.same (u := U) (U := U.calling g mk x) rfl rfl h.2.2.2.2.1, zAO.moved (u := U) (U := U.calling g mk x) (Vm.Alike.refl U.vm) h.2.2.2.2.2⟩
theorem rx_ctor_run (Y : zCy p s m args meth c B A own cc nL ret) {mc ms ci o q : Nat} {bl : List Value} {ls1 : List Nat} {av : (Nat → Nat) → List Value} {M' : zMem} (hlen : lv.length = nL)
    (hr : ∀ (H : Heap) (locs : List Loc) (lsl : Array Slot), lsl.size = nL → PreS s H (zPk B ci bl ls av M ad q H.size) (.ref q :: av ad) → va_Run p l e R s m args below meth c H locs cs ss mc ms (F0 m pc lsl st0) st (zQk B ls ls1 o M' ad q H.size (Value.ref q :: av ad).toArray) (zFa ad ls q H.size))
    (h : ∀ ad' : Nat → Nat, (∀ b ∈ ls, ad' b = ad b) → ad' o = q → zRx p l e R s m args below meth c B A Q (cs + mc) (ss + ms) ad' ls1 e0 (pc + 3) lv st M') : zRx p l e R s m args below meth c B A Q cs ss ad ls (e0 ++ [(q, .inr (ci, bl))]) pc lv st0 M := by
  intro H locs lsl hP hD hS hL
  have hqx : (q, (.inr (ci, bl) : va_E)) ∈ e0 ++ [(q, .inr (ci, bl))] := List.mem_append_right _ (List.mem_singleton.mpr rfl)
  have hsub : ∀ x, zFa ad ls q H.size x → A x := by
    rintro x (⟨b, hb, rfl⟩ | rfl | hx)
    · exact hD.2.2.2.1 b hb
    · exact hD.2.2.2.2 _ hqx
    · exact Y.2.2.2.2.2.2.2.2.1 x (Nat.le_trans hS.1 hx)
  have hPs : va_P B.1 vwCl (zWl (zWm B ad ls) M ++ [(q, .inr (ci, bl))]) H := va_P_mem hP (fun x hx => by
    simp only [List.mem_append, List.mem_cons, List.not_mem_nil, or_false] at hx ⊢
    rcases hx with hx | hx
    · exact Or.inl hx
    · exact Or.inr (Or.inr hx))
  have hpre : PreS s H (zPk B ci bl ls av M ad q H.size) (.ref q :: av ad) := ⟨zPk_blind, fun U hU hW => ⟨rfl, by rw [hU], by rw [hU]; exact hPs, ⟨hD.1, fun b x hb hx => hD.2.1 b x hb (List.mem_append_right _ hx), by simp, fun _ _ => trivial, fun _ _ => trivial⟩, (zKK.go hW hS hU Y.2.2.2.2.2.2.2.1).narrow hsub, Y.2.2.2.2.2.2.2.2.2.moved hW.alike⟩⟩
  intro T hT X
  obtain ⟨v, st₀, t, T', L, h0, X', hLc, e1, e2, ⟨hv, ⟨ad', k1, k2, k3, k4⟩, hz, hk⟩, stp⟩ := hr H locs lsl (hL.1.trans hlen) hpre T hT X
  cases hv
  rw [h0] at hz hk
  have hout : ∀ x ∈ e0, ¬ zFa ad ls q H.size x.1 := by
    rintro x hx (⟨b, hb, e⟩ | e | e)
    · exact hD.2.1 b x hb (List.mem_append_left _ hx) e.symm
    · have hn := hD.2.2.1
      rw [List.map_append, List.nodup_append] at hn
      exact hn.2.2 x.1 (List.mem_map.mpr ⟨x, hx, rfl⟩) q (by simp) e
    · obtain ⟨i, hi⟩ := List.getElem?_of_mem (List.mem_append_right (zWl (zWm B ad ls) M) (List.mem_append_left [(q, (.inr (ci, bl) : va_E))] hx))
      have := (hP i x hi).lt
      omega
  have hP1 : va_P B.1 vwCl (zWl (zWm B ad' ls1) M' ++ e0) T'.heap := by
    rw [e1]
    refine va_P.app k3 (fun i x hi => ?_)
    have hm := List.mem_of_getElem? hi
    obtain ⟨j, hj⟩ := List.getElem?_of_mem (List.mem_append_right (zWl (zWm B ad ls) M) (List.mem_append_left [(q, (.inr (ci, bl) : va_E))] hm))
    have hat := hP j x hj
    exact hat.kept (hk x.1 hat.lt (hout x hm))
  have hD1 : zDx ad' ls1 A e0 := by
    refine ⟨k4.1, fun b x hb hx e => hout x hx (by rw [← e]; exact k4.2.2.2.1 b hb), ?_, fun b hb => hsub _ (k4.2.2.2.1 b hb), fun x hx => hD.2.2.2.2 x (List.mem_append_left _ hx)⟩
    have hn := hD.2.2.1
    rw [List.map_append, List.nodup_append] at hn
    exact hn.1
  obtain ⟨t2, a1, b1⟩ := h ad' k1 k2 T'.heap (locs ++ L) lsl hP1 hD1
    ⟨Nat.le_trans hS.1 (by rw [e1]; exact hz), fun x h1 h2 => by rw [e1, hk x (Nat.lt_of_lt_of_le h1 hS.1) (fun z => h2 (hsub x z))]; exact hS.2.1 x h1 h2, fun x hx => by
      rcases List.mem_append.mp hx with h | h
      · exact hS.2.2 x h
      · exact hsub _ (hLc x h)⟩ hL T' rfl X'
  exact ⟨t2, stp t2 a1, b1⟩
theorem rx_ctor (Y : zCy p s m args meth c B A own cc nL ret) {y : MethodName} {bytes : ByteArray} {maxL n idx : Nat} {rm : Room} {mc ms ci o q : Nat} {bl : List Value} {ls1 : List Nat} {av : (Nat → Nat) → List Value} {M' : zMem} (hM : zKc l y bytes maxL rm mc ms B ci bl ls ls1 o av M M') (W1 : Cond.code y bytes maxL none ∈ zW) (W2 : Cond.initialized y.cls ∈ zW) (W3 : y.cls ≠ "java/lang/invoke/MethodHandle" ∧ y.cls ≠ "java/lang/invoke/VarHandle" ∧ (parseMethodDescriptor y.desc).map (fun d => d.parameters.length) = some n) (W4 : Cond.methodLink own idx y ∈ zW) (W5 : Cond.instanceMethod y ∈ zW) (W6 : y.name = "<init>") (hrm : rm.cells = mc ∧ rm.slots = ms) (hR : rm.frames + 1 ≤ R.frames ∧ 8 + (maxL + 11) + rm.locals ≤ R.locals)
    (hn : (av ad).length = n) (hlen : lv.length = nL) (hst : st0 = (av ad).reverse ++ .ref q :: st) (hroom : (st.map fun v => v.category).sum ≤ 8) (hcs : cs + mc ≤ R.cells ∧ ss + ms ≤ R.slots) (d : decode cc pc = .ok (.invokespecial idx, 3))
    (h : ∀ ad' : Nat → Nat, (∀ b ∈ ls, ad' b = ad b) → ad' o = q → zRx p l e R s m args below meth c B A Q (cs + mc) (ss + ms) ad' ls1 e0 (pc + 3) lv st M') : zRx p l e R s m args below meth c B A Q cs ss ad ls (e0 ++ [(q, .inr (ci, bl))]) pc lv st0 M := by
  subst hst
  refine rx_ctor_run (av := av) Y hlen (fun H locs lsl hsz hpre => ?_) h
  exact va_runI (As := av ad) (rest := st) ⟨Y.1, Y.2.1, Y.2.2.1, Y.2.2.2.1, Y.2.2.2.2.1⟩ (hM ad q H.size) (cwI n Y.2.2.2.2.1 (zCa.good W1) rfl hrm.1 hrm.2 (Y.2.2.2.2.1 _ W2) (Y.2.2.2.2.1 _ W4) (Y.2.2.2.2.1 _ W5) W6 W3 hR) hpre rfl hn hsz rfl (lv_room hroom) d hcs
theorem rx_ctorN (Y : zCy p s m args meth c B A own cc nL ret) {y : MethodName} {bytes : ByteArray} {maxL n idx : Nat} {rm : Room} {mc ms ci o q : Nat} {bl : List Value} {ls1 : List Nat} {av : (Nat → Nat) → List Value} {M' : zMem} {host : String} (hM : zKc l y bytes maxL rm mc ms B ci bl ls ls1 o av M M') (W1 : Cond.code y bytes maxL none ∈ zW) (W2 : Cond.initialized y.cls ∈ zW) (W3 : y.cls ≠ "java/lang/invoke/MethodHandle" ∧ y.cls ≠ "java/lang/invoke/VarHandle" ∧ (parseMethodDescriptor y.desc).map (fun d => d.parameters.length) = some n) (W4 : (own, idx, y, host) ∈ zNw) (W5 : Cond.instanceMethod y ∈ zW) (W6 : y.name = "<init>") (hrm : rm.cells = mc ∧ rm.slots = ms) (hR : rm.frames + 1 ≤ R.frames ∧ 8 + (maxL + 11) + rm.locals ≤ R.locals)
    (hn : (av ad).length = n) (hlen : lv.length = nL) (hst : st0 = (av ad).reverse ++ .ref q :: st) (hroom : (st.map fun v => v.category).sum ≤ 8) (hcs : cs + mc ≤ R.cells ∧ ss + ms ≤ R.slots) (d : decode cc pc = .ok (.invokespecial idx, 3))
    (h : ∀ ad' : Nat → Nat, (∀ b ∈ ls, ad' b = ad b) → ad' o = q → zRx p l e R s m args below meth c B A Q (cs + mc) (ss + ms) ad' ls1 e0 (pc + 3) lv st M') : zRx p l e R s m args below meth c B A Q cs ss ad ls (e0 ++ [(q, .inr (ci, bl))]) pc lv st0 M := by
  subst hst
  refine rx_ctor_run (av := av) Y hlen (fun H locs lsl hsz hpre => ?_) h
  exact va_runIN (As := av ad) (rest := st) ⟨Y.1, Y.2.1, Y.2.2.1, Y.2.2.2.1, Y.2.2.2.2.1⟩ (hM ad q H.size) ⟨va_cnB (host := host) n Y.2.2.2.2.1 (zCa.good W1) rfl hrm.1 hrm.2 (Y.2.2.2.2.2.2.2.1.nw _ W4) (Y.2.2.2.2.1 _ W2) W3 hR, W6, Y.2.2.2.2.1 _ W5⟩ hpre rfl hn hsz rfl (lv_room hroom) d hcs
/-- an ordinary method, once the world is complete -/
theorem rx_callVv (Y : zCy p s m args meth c B A own cc nL ret) {y : MethodName} {bytes : ByteArray} {maxL n idx : Nat} {ret' : Option FieldType} {rm : Room} {ci N o : Nat} {T : u_T} {ty : Nat → FieldType} {As : List Value} {f : zMem → zTr} {r1 : Int32} {M1 : zMem} (hcl : zCL ls = true) (hM : zMt l (zWm B ad ls) y bytes maxL ret' rm 0 (.ref (ad o) :: As) f) (hf : f M = some (r1, M1)) (Ha : zCa y bytes maxL ret' rm R n) (L : Cond.methodLink own idx y ∈ zW) (I : Cond.instanceMethod y ∈ zW) (S : Cond.selects y.cls y y ∈ zW) (Bc : zCl ci N y.cls T ty) (ho : zKd (zWm B ad ls) o = (ci, N))
    (hn : As.length = n) (hlen : lv.length = nL) (hst : st0 = As.reverse ++ .ref (ad o) :: st) (hroom : (st.map fun v => v.category).sum ≤ 8) (hcs : cs ≤ R.cells ∧ ss ≤ R.slots) (d : decode cc pc = .ok (.invokevirtual idx, 3)) (h : zRx p l e R s m args below meth c B A Q cs ss ad ls [] (pc + 3) lv st M1) : zRx p l e R s m args below meth c B A Q cs ss ad ls [] pc lv st0 M := by
  intro H locs lsl hP hD hS hL
  rw [List.append_nil] at hP
  have X := zCy.X Y hD hcl
  subst hst
  refine re_run (va_runV (As := As) (rest := st) (zFix X) (hM M r1 M1 hf) ⟨zB X Ha L, X.ts _ I, X.ts _ S⟩ ⟨zBlind, zRec X Bc ho hP, zPre X hP hS⟩ rfl hn (hL.1.trans hlen) rfl (lv_room hroom) d hcs) hS X.sub (fun H1 locs1 _ hR1 hS1 => ?_)
  exact h H1 locs1 lsl (by rw [List.append_nil]; exact hR1) hD hS1 hL
end ZX3
theorem zAd_keep {ls0 : List Nat} {ad0 ad : Nat → Nat} {c q : Nat} (hc : c ∉ ls0) (h : ∀ b ∈ ls0, ad b = ad0 b) : ∀ b ∈ ls0, zAd ad c q b = ad0 b := fun b hb => by
  rw [zAd_n (fun e => hc (by rw [← e]; exact hb))]
  exact h b hb
theorem zAd_tr {ls0 ls : List Nat} {ad0 ad ad' : Nat → Nat} (hs : ∀ b ∈ ls0, b ∈ ls) (h1 : ∀ b ∈ ls, ad' b = ad b) (h : ∀ b ∈ ls0, ad b = ad0 b) : ∀ b ∈ ls0, ad' b = ad0 b := fun b hb => (h1 b (hs b hb)).trans (h b hb)
