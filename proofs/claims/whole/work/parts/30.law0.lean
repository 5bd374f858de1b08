/-! THE CLAIM OUT OF ONE WALK OF THE LAW'S BODY. Your part is whole_start (and what it stands on); all else here is the same for every law, but numbers. -/
def R_law : String := "DebateHouseLaw"
def lw_P (b : Addr) (xs : List Int32) (args : Array Value) (s : State) : Prop := args = #[.ref b] ∧ s.IntsAt b xs ∧ xs.length ≤ 3072 ∧ (Jvm.Cond.and given_1 narrow_1).before args s = true
def lw_Q (_ : Array Value) (s : State) (o : Outcome) (t : State) : Prop := o = .returned (some (.int 1)) ∧ Framed s o t [] 600000 7302250
def lw_Z (below : List Frame) (a : Array Value) (s : State) : State → Prop := fun t => ∃ o, t.status = .running ∧ Ended t below o ∧ lw_Q a s o t
/-- the law's own end, with 1 on the stack, nothing written that was there before, its room as the claim has it -/
theorem lw_ret {p : Program} {l : Launch} {e : Env} {s : State} {m : MethodId} {below : List Frame} {meth : Method} {c : Code} {b : Nat} (hx : p.tables.exec = Jvm.exec) (hb : c.code = code) (hr : meth.sig.returnType = ret) (hlocks : meth.locks = false) {pc : Nat} {H : Heap} {ls : Array Slot} (hdg : decode code pc = .ok (.ireturn, 1)) : W p l e room_1 s m #[Value.ref b] below meth c H [] 600000 7302250 (lw_Z below #[Value.ref b] s) (F0 m pc ls [.int 1]) := by
  intro T hT X
  obtain ⟨fs, hret, hrun, hended, hW, hframe⟩ := X.leave (v := some (.int 1)) (hlocks := hlocks) (fun h => by rw [hr] at h; cases h)
  have hmeth' : T.vm.method? m = some meth := X.method'
  refine ⟨T.setFrames fs, ?_, .returned (some (.int 1)), hrun, hended, rfl, ⟨_, rfl⟩, hW, hframe⟩
  jvm_step X.here [X.here.top, hx, hb, hdg, hmeth', hr, ret, narrow_b1]
  (try refine ⟨rfl, ?_⟩); (try refine ⟨rfl, ?_⟩)
  first | (intro acts; rw [hret _ acts rfl rfl rfl]) | rw [hret _ _ rfl rfl rfl]
  exact Steps.refl _
/-- what holds at the law's entry: the machine, the code, the tables' words (any of lw_tbl by 'hts w (by decide +kernel)'), the script of L ints xs at the cell b, what the Statement gives of the start (any of its parts by flat_of_before) -/
def lw_At (p : Program) (s : State) (m : MethodId) (meth : Method) (c : Code) (b L : Nat) (xs : Nat → Int32) : Prop :=
  p.tables.exec = Jvm.exec ∧ c.code = code ∧ meth.sig.returnType = ret ∧ c.maxLocals = 4 ∧ s.vm.findClass R_law = some m.cls ∧ (∀ w ∈ lw_tbl, w.before #[Value.ref b] s = true) ∧ va_X b L xs s s.heap ∧ b < s.heap.size ∧ meth.locks = false ∧ (Jvm.Cond.and given_1 narrow_1).before #[Value.ref b] s = true

theorem zRoL : 600000 ≤ room_1.cells ∧ 7302250 ≤ room_1.slots := by decide
/-- the walk of the law, once both objects stand: where it answers 1, the claim's end -/
abbrev zRw (p : Program) (l : Launch) (e : Env) (s : State) (m : MethodId) (below : List Frame) (meth : Method) (c : Code) (w : zWD) (b : Nat) (pc : Nat) (lv : List (Option Value)) (st : List Value) (M : zMem) (t : zTr) : Prop :=
  zRe p l e room_1 s m #[Value.ref b] below meth c w (fun q => s.heap.size ≤ q) 600000 7302250 (fun r _ t => r = 1 → lw_Z below #[Value.ref b] s t) pc lv st M t
section ZL
variable {p : Program} {l : Launch} {e : Env} {s : State} {m : MethodId} {below : List Frame} {meth : Method} {c : Code} {w : zWD} {b L : Nat} {xs : Nat → Int32} {pc : Nat} {lv : List (Option Value)} {st : List Value} {M : zMem} {t : zTr}
theorem re_xlen (X : zCx p s m #[Value.ref b] meth c w (fun q => s.heap.size ≤ q) RL cL_law 4 (some .boolean)) (hX : va_X b L xs s s.heap) (hbl : b < s.heap.size) (d : decode cL_law pc = .ok (.arraylength, 1)) (h : zRw p l e s m below meth c w b (pc + 1) lv (.int (Int32.ofNat L) :: st) M t) : zRw p l e s m below meth c w b pc lv (.ref b :: st) M t :=
  fun r M' ht H locs ls hR hS hL => va_slen X.1 X.2.1 hX hbl (Nat.not_le.mpr hbl) hS d (h r M' ht H locs ls hR hS hL)
theorem re_xld (X : zCx p s m #[Value.ref b] meth c w (fun q => s.heap.size ≤ q) RL cL_law 4 (some .boolean)) (hX : va_X b L xs s s.heap) (hbl : b < s.heap.size) {i : Int32} (hin : zIn i L) (d : decode cL_law pc = .ok (.iaload, 1)) (h : zRw p l e s m below meth c w b (pc + 1) lv (.int (xs (zIx i)) :: st) M t) : zRw p l e s m below meth c w b pc lv (.int i :: .ref b :: st) M t :=
  fun r M' ht H locs ls hR hS hL => va_sld X.1 X.2.1 hX hbl (Nat.not_le.mpr hbl) hS (zIn_vp hin) d (h r M' ht H locs ls hR hS hL)
theorem re_lret0 (X : zCx p s m #[Value.ref b] meth c w (fun q => s.heap.size ≤ q) RL cL_law 4 (some .boolean)) (d : decode cL_law pc = .ok (.ireturn, 1)) : zRw p l e s m below meth c w b pc lv [.int 0] M (some (0, M)) := by
  intro r M' ht H locs ls hR hS hL T hT Y
  cases ht
  exact ⟨_, Steps.refl _, fun q => absurd q (by decide)⟩
theorem re_lret1 (X : zCx p s m #[Value.ref b] meth c w (fun q => s.heap.size ≤ q) RL cL_law 4 (some .boolean)) (d : decode cL_law pc = .ok (.ireturn, 1)) : zRw p l e s m below meth c w b pc lv [.int 1] M (some (1, M)) := by
  intro r M' ht H locs ls hR hS hL
  cases ht
  have K := va_forget hS.2.2 (lw_ret (m := m) (p := p) (l := l) (e := e) (b := b) (below := below) (H := H) (ls := ls) X.1 X.2.1 X.rt X.locks d)
  intro T hT Y
  obtain ⟨t2, a1, b1⟩ := K T hT Y
  exact ⟨t2, a1, fun _ => b1⟩
end ZL
