/-! ===== the memory of the system: cells by number, ints by place; trees: what a method answers and leaves ===== -/
abbrev zMem : Type := Nat → Nat → Int32
abbrev zTr : Type := Option (Int32 × zMem)
def zUp (M : zMem) (c i : Nat) (v : Int32) : zMem := fun a b => if a = c ∧ b = i then v else M a b
def zLt (x : zMem) (f : zMem → zTr) : zTr := f x
def zCk (c : Prop) [Decidable c] (t : zTr) : zTr := if c then t else none
def zBd (t : zTr) (f : Int32 → zMem → zTr) : zTr := match t with
  | none => none
  | some q => f q.1 q.2
abbrev zIn (i : Int32) (n : Nat) : Prop := 0 ≤ i.toInt ∧ i.toInt < (n : Int)
abbrev zIx (i : Int32) : Nat := i.toNatClampNeg
/-- a switch: the first case that fits -/
def zSw (x : Int32) (d : zTr) : List (Int32 × zTr) → zTr
  | [] => d
  | q :: l => if x = q.1 then q.2 else zSw x d l
theorem zUp_row (M : zMem) (c i : Nat) (v : Int32) : zUp M c i v c = upd (M c) i v := by
  funext b
  by_cases h : b = i
  · subst h
    simp [zUp, upd]
  · simp [zUp, upd, h]
theorem zUp_off {M : zMem} {c i : Nat} {v : Int32} {a : Nat} (h : a ≠ c) : zUp M c i v a = M a := by
  funext b
  simp [zUp, h]
/-- what is fixed of a world: classes and slots; array classes; the cells' addresses; the text constants' addresses, and their bytes'; which cells are there -/
abbrev zWD : Type := va_G × (Nat → ClassId) × (Nat → Nat) × (Nat → Nat) × (Nat → Nat) × (Nat → Bool)
abbrev zG (w : zWD) : va_G := w.1
abbrev zC (w : zWD) : Nat → ClassId := w.2.1
abbrev zA (w : zWD) : Nat → Nat := w.2.2.1
abbrev zK (w : zWD) : Nat → Nat := w.2.2.2.1
abbrev zV (w : zWD) : Nat → Nat := w.2.2.2.2.1
abbrev zL (w : zWD) : Nat → Bool := w.2.2.2.2.2
def zFree (w : zWD) : Nat → Prop := fun q => ∃ c, c < zNC ∧ zL w c = true ∧ q = zA w c
def zKd (w : zWD) (c : Nat) : Nat × Nat := if zL w c = true then zKd0 c else (99, 0)
theorem zKd_live {w : zWD} {c k n : Nat} (h : zKd w c = (k, n)) (hk : k < 21) : zL w c = true ∧ zKd0 c = (k, n) := by
  by_cases hl : zL w c = true
  · rw [zKd, if_pos hl] at h; exact ⟨hl, h⟩
  · rw [zKd, if_neg hl] at h
    have := congrArg Prod.fst h
    simp only at this
    omega
theorem zKd_of {w : zWD} {c k n : Nat} (hl : zL w c = true) (h : zKd0 c = (k, n)) : zKd w c = (k, n) := by rw [zKd, if_pos hl]; exact h
theorem zKd_lt {w : zWD} {c k n : Nat} (h : zKd w c = (k, n)) (hk : k < 21) : c < zNC := zKd0_lt (zKd_live h hk).2 hk
/-- what is there is there with all that it names -/
def zClo (w : zWD) : Prop := ∀ c i : Nat, zL w c = true → ((zKd0 c).1 < 11 ∧ i < (zKd0 c).2 ∧ zFr (zKd0 c).1 i = true ∨ 14 ≤ (zKd0 c).1 ∧ (zKd0 c).1 < 21 ∧ i < (zKd0 c).2) → zL w (zRf c i) = true
theorem zQ {w : zWD} (K : zClo w) {o ci N k q kk nn : Nat} (h : zKd w o = (ci, N)) (hci : ci < 11) (hk : k < N) (hf : zFr ci k = true) (hr : zRf o k = q) (hq : zKd0 q = (kk, nn)) : zKd w q = (kk, nn) := by
  obtain ⟨h1, h2⟩ := zKd_live h (by omega)
  refine zKd_of ?_ hq
  rw [← hr]
  exact K o k h1 (Or.inl (by rw [h2]; exact ⟨hci, hk, hf⟩))
theorem zQr {w : zWD} (K : zClo w) {o ci N k q kk nn : Nat} (h : zKd w o = (ci, N)) (hci : 14 ≤ ci ∧ ci < 21) (hk : k < N) (hr : zRf o k = q) (hq : zKd0 q = (kk, nn)) : zKd w q = (kk, nn) := by
  obtain ⟨h1, h2⟩ := zKd_live h hci.2
  refine zKd_of ?_ hq
  rw [← hr]
  exact K o k h1 (Or.inr (by rw [h2]; exact ⟨hci.1, hci.2, hk⟩))
def zFv (w : zWD) (M : zMem) (k c i : Nat) : Value := if zFr k i = true then .ref (zA w (zRf c i)) else .int (M c i)
def zEn (w : zWD) (M : zMem) (c : Nat) : va_E :=
  if (zKd0 c).1 < 11 then .inr ((zKd0 c).1, (List.range (zKd0 c).2).map (fun i => zFv w M (zKd0 c).1 c i))
  else if (zKd0 c).1 < 14 then .inl (zC w (zKd0 c).1, (zKd0 c).2, .inl (M c))
  else .inl (zC w (zAk (zKd0 c).1), (zKd0 c).2, .inr (.inr (.inr (.inr (fun i => if i < (zKd0 c).2 then some (zA w (zRf c i)) else none)))))
def zLi (w : zWD) : List Nat := (List.range zNC).filter (fun c => zL w c)
def zWl (w : zWD) (M : zMem) : va_W := (zLi w).map (fun c => (zA w c, zEn w M c))
theorem zLi_mem {w : zWD} {c : Nat} (h : c < zNC) (hl : zL w c = true) : ∃ k : Nat, (zLi w)[k]? = some c := List.getElem?_of_mem (List.mem_filter.mpr ⟨List.mem_range.mpr h, hl⟩)
theorem zLi_inj {w : zWD} {i j c : Nat} (h1 : (zLi w)[i]? = some c) (h2 : (zLi w)[j]? = some c) : i = j := by
  have hn : (zLi w).Nodup := List.nodup_range.filter _
  exact (List.getElem?_inj (List.getElem?_eq_some_iff.mp h1).1 hn).mp (h1.trans h2.symm)
theorem zWl_get (w : zWD) (M : zMem) {k c : Nat} (h : (zLi w)[k]? = some c) : (zWl w M)[k]? = some (zA w c, zEn w M c) := by
  rw [zWl, List.getElem?_map, h]; rfl
theorem zWl_set (w : zWD) (M M' : zMem) {k c : Nat} (h : (zLi w)[k]? = some c) {x : va_E} (hx : zEn w M' c = x) (ho : ∀ b, b ≠ c → M' b = M b) : (zWl w M).set k (zA w c, x) = zWl w M' := by
  apply List.ext_getElem?
  intro j
  by_cases hj : j = k
  · subst hj
    rw [List.getElem?_set_self (by rw [zWl, List.length_map]; exact (List.getElem?_eq_some_iff.mp h).1), zWl_get w M' h, hx]
  · rw [List.getElem?_set_ne (Ne.symm hj), zWl, zWl, List.getElem?_map, List.getElem?_map]
    cases hc : (zLi w)[j]? with
    | none => rfl
    | some b =>
      have hb : b ≠ c := fun q => hj (zLi_inj (by rw [hc, q]) h)
      have : zEn w M' b = zEn w M b := by simp only [zEn, zFv, ho b hb]
      simp only [Option.map_some, this]
def zRep (w : zWD) (M : zMem) (H : Heap) : Prop := va_P (zG w) vwCl (zWl w M) H
abbrev zTys (w : zWD) : List (ClassId × FieldType) := [(zC w 11, .byte), (zC w 12, .int), (zC w 13, .boolean), (zC w 14, .array .int), (zC w 15, .array .boolean)]
/-- the text constants -/
def zSx (w : zWD) (A : Nat → Prop) (U : State) (H : Heap) : Prop := ∀ i : Nat, i < zNS → va_O "java/lang/String" (zK w i) A U H ∧ va_OF "java/lang/String" "coder" "B" (.int 0) (zK w i) A U H ∧ va_OF "java/lang/String" "value" "[B" (.ref (zV w i)) (zK w i) A U H ∧ va_T .byte (zV w i) (zSl.getD i 0) (fun j => .int ((zSb.getD i []).getD j 0)) A U H
theorem zSx.moved {w : zWD} {A : Nat → Prop} {u U : State} {H : Heap} (hvm : u.vm.Alike U.vm) (h : zSx w A u H) : zSx w A U H := fun i hi => ⟨va_O.moved hvm (h i hi).1, va_OF.moved hvm (h i hi).2.1, va_OF.moved hvm (h i hi).2.2.1, va_T.moved hvm (h i hi).2.2.2⟩
theorem zSx.kept {w : zWD} {A : Nat → Prop} {U : State} {H H1 : Heap} (h : zSx w A U H) (hq : ∀ a : Nat, a < H.size → ¬ A a → H1[a]? = H[a]?) : zSx w A U H1 := fun i hi => ⟨(h i hi).1.kept hq, (h i hi).2.1.kept hq, (h i hi).2.2.1.kept hq, (h i hi).2.2.2.kept hq⟩
theorem zSx.narrow {w : zWD} {A B : Nat → Prop} {U : State} {H : Heap} (h : zSx w A U H) (hAB : ∀ q, B q → A q) : zSx w B U H := fun i hi => ⟨(h i hi).1.narrow hAB, (h i hi).2.1.narrow hAB, (h i hi).2.2.1.narrow hAB, (h i hi).2.2.2.narrow hAB⟩
def zKK (w : zWD) (A : Nat → Prop) (U : State) (H : Heap) : Prop :=
  va_K (zG w) vwCl (zTys w) U ∧ (∀ c c', c < zNC → c' < zNC → zL w c = true → zL w c' = true → zA w c = zA w c' → c = c') ∧ zClo w ∧
  zSx w A U H ∧ va_Z "java/lang/String" "COMPACT_STRINGS" "Z" (.int 1) A U H ∧ va_Zq "jdk/internal/util/Preconditions" "SIOOBE_FORMATTER" "Ljava/util/function/BiFunction;" A U H ∧ (∀ q ∈ zSt, vk_R q.1 q.2.1 q.2.2.1 (zK w q.2.2.2) U) ∧ ∀ q ∈ zNw, va_Nw (.methodLinkNest q.1 q.2.1 q.2.2.1 q.2.2.2) U
theorem zKK.K {w : zWD} {A : Nat → Prop} {U : State} {H : Heap} (h : zKK w A U H) : va_K (zG w) vwCl (zTys w) U := h.1
theorem zKK.sx {w : zWD} {A : Nat → Prop} {U : State} {H : Heap} (h : zKK w A U H) : zSx w A U H := h.2.2.2.1
theorem zKK.cs {w : zWD} {A : Nat → Prop} {U : State} {H : Heap} (h : zKK w A U H) : va_Z "java/lang/String" "COMPACT_STRINGS" "Z" (.int 1) A U H := h.2.2.2.2.1
theorem zKK.fm {w : zWD} {A : Nat → Prop} {U : State} {H : Heap} (h : zKK w A U H) : va_Zq "jdk/internal/util/Preconditions" "SIOOBE_FORMATTER" "Ljava/util/function/BiFunction;" A U H := h.2.2.2.2.2.1
theorem zKK.st {w : zWD} {A : Nat → Prop} {U : State} {H : Heap} (h : zKK w A U H) : ∀ q ∈ zSt, vk_R q.1 q.2.1 q.2.2.1 (zK w q.2.2.2) U := h.2.2.2.2.2.2.1
theorem zKK.nw {w : zWD} {A : Nat → Prop} {U : State} {H : Heap} (h : zKK w A U H) : ∀ q ∈ zNw, va_Nw (.methodLinkNest q.1 q.2.1 q.2.2.1 q.2.2.2) U := h.2.2.2.2.2.2.2
theorem zKK.D {w : zWD} {A : Nat → Prop} {U : State} {H : Heap} (h : zKK w A U H) (hA : ∀ q, zFree w q → A q) (M : zMem) : va_D A (zWl w M) := by
  have key : ∀ (k : Nat) (q : Nat × va_E), (zWl w M)[k]? = some q → ∃ c, (zLi w)[k]? = some c ∧ q.1 = zA w c ∧ c < zNC ∧ zL w c = true := by
    intro k q hk
    rw [zWl, List.getElem?_map] at hk
    cases hc : (zLi w)[k]? with
    | none => rw [hc] at hk; cases hk
    | some c =>
      rw [hc] at hk
      cases hk
      have := List.mem_filter.mp (List.mem_of_getElem? hc)
      exact ⟨c, rfl, rfl, List.mem_range.mp this.1, this.2⟩
  refine ⟨fun i j a b hi hj hab => ?_, fun k q hk => ?_⟩
  · obtain ⟨c1, h1, h2, h3, h4⟩ := key i a hi
    obtain ⟨c2, g1, g2, g3, g4⟩ := key j b hj
    have e := h.2.1 c1 c2 h3 g3 h4 g4 (by rw [← h2, ← g2]; exact hab)
    subst e
    exact zLi_inj h1 g1
  · obtain ⟨c1, h1, h2, h3, h4⟩ := key k q hk
    exact hA _ ⟨c1, h3, h4, h2⟩
theorem zKK.same {w : zWD} {A : Nat → Prop} {u U : State} (hv : U.vm = u.vm) (hh : U.heap = u.heap) (h : zKK w A u u.heap) : zKK w A U U.heap := by
  obtain ⟨h1, h2, h8, h3, h4, h7, h5, h6⟩ := h
  have hal : u.vm.Alike U.vm := by rw [hv]; exact Vm.Alike.refl _
  rw [hh]
  exact ⟨va_K.moved hal h1, h2, h8, h3.moved hal, h4.moved hal, h7.moved hal, fun q hq => (h5 q hq).same hv, fun q hq => va_Nw.same rfl hv.symm (h6 q hq)⟩
theorem zKK.go {w : zWD} {A : Nat → Prop} {s U : State} {H : Heap} {locs : List Loc} (hW : s.WarmedH U.vm) (hS : va_S A s.heap H locs) (hU : U.heap = H) (h : zKK w A s s.heap) : zKK w A U U.heap := by
  obtain ⟨h1, h2, h8, h3, h4, h7, h5, h6⟩ := h
  rw [hU]
  have hal := hW.alike
  exact ⟨va_K.moved hal h1, h2, h8, (h3.moved hal).kept (fun a q1 q2 => hS.2.1 a q1 q2), (h4.moved hal).kept (fun a q1 q2 => hS.2.1 a q1 q2), (h7.moved hal).kept (fun a q1 q2 => hS.2.1 a q1 q2), fun q hq => (h5 q hq).warm hW, fun q hq => va_Nw.warmM hW (h6 q hq)⟩
theorem zKK.narrow {w : zWD} {A B : Nat → Prop} {U : State} {H : Heap} (h : zKK w A U H) (hAB : ∀ q, B q → A q) : zKK w B U H := by
  obtain ⟨h1, h2, h8, h3, h4, h7, h5, h6⟩ := h
  exact ⟨h1, h2, h8, h3.narrow hAB, h4.narrow hAB, h7.narrow hAB, h5, h6⟩
/-- the answer as a value: 0 nothing, 1 an int, 2 a boolean, 3 a text constant's number -/
def zRv (w : zWD) (k : Nat) (r : Int32) : Option Value := match k with
  | 0 => none
  | 1 => some (.int r)
  | 2 => some (.int r)
  | _ => some (.ref (zK w (zIx r)))
def zOk (k : Nat) (r : Int32) : Prop := match k with
  | 2 => r = 0 ∨ r = 1
  | 3 => zIx r < zNS
  | _ => True
def zPc (w : zWD) (av : List Value) (M : zMem) : Array Value → State → Prop := fun v U => v = av.toArray ∧ zRep w M U.heap ∧ zKK w (zFree w) U U.heap
def zQc (w : zWD) (k : Nat) (r : Int32) (M' : zMem) : Array Value → State → Outcome → State → Prop := fun _ st oc t => oc = .returned (zRv w k r) ∧ zOk k r ∧ zRep w M' t.heap ∧ va_F (zFree w) st t
/-- a method does what the tree f says -/
def zMt (l : Launch) (w : zWD) (y : MethodName) (cc : ByteArray) (maxL : Nat) (ret : Option FieldType) (rm : Room) (k : Nat) (av : List Value) (f : zMem → zTr) : Prop :=
  ∀ (M : zMem) (r : Int32) (M' : zMem), f M = some (r, M') → Met l y (Cond.code y cc maxL ret :: zW) rm (zPc w av M) (zQc w k r M') 0 0 (zFree w)
/-- the locals -/
def zLo (ls : Array Slot) (lv : List (Option Value)) : Prop := ls.size = lv.length ∧ lv_wf ls ∧ ∀ (i : Nat) (v : Value), lv[i]? = some (some v) → ls[i]? = some (.val v) ∧ v.category = 1
def zPr (lv : List (Option Value)) : List (Nat × Value) := (List.range lv.length).filterMap (fun i => (lv.getD i none).map (fun v => (i, v)))
theorem zPr_mem {lv : List (Option Value)} {q : Nat × Value} : q ∈ zPr lv ↔ lv[q.1]? = some (some q.2) := by
  obtain ⟨i, v⟩ := q
  simp only [zPr, List.mem_filterMap, List.mem_range, Option.map_eq_some_iff, Prod.mk.injEq]
  constructor
  · rintro ⟨j, hj, u, hu, rfl, rfl⟩
    rw [List.getElem?_eq_getElem hj]
    rw [List.getD_eq_getElem?_getD, List.getElem?_eq_getElem hj] at hu
    simpa using hu
  · intro h
    have hj := (List.getElem?_eq_some_iff.mp h).1
    refine ⟨i, hj, v, ?_, rfl, rfl⟩
    rw [List.getD_eq_getElem?_getD, h]
    rfl
theorem zLo.has {ls : Array Slot} {lv : List (Option Value)} (h : zLo ls lv) : lv_has ls lv.length (zPr lv) := ⟨h.1, h.2.1, fun q hq => (h.2.2 q.1 q.2 (zPr_mem.mp hq)).1⟩
theorem zLo.store {ls' : Array Slot} {lv lv' : List (Option Value)} {i : Nat} {v : Value} {ls : Array Slot} (h0 : zLo ls lv) (hi : i < lv.length) (hc : v.category = 1) (hl : lv.set i (some v) = lv')
    (h : lv_has ls' lv.length ((i, v) :: (zPr lv).filter (fun q => !(q.1 == i) && !(q.1 + 1 == i && q.2.category == 2)))) : zLo ls' lv' := by
  subst hl
  refine ⟨by rw [List.length_set]; exact h.1, h.2.1, fun j u hj => ?_⟩
  by_cases hji : j = i
  · subst hji
    rw [List.getElem?_set_self hi] at hj
    cases hj
    exact ⟨h.2.2 (j, v) List.mem_cons_self, hc⟩
  · rw [List.getElem?_set_ne (Ne.symm hji)] at hj
    have hu := (h0.2.2 j u hj).2
    refine ⟨h.2.2 (j, u) (List.mem_cons_of_mem _ (List.mem_filter.mpr ⟨zPr_mem.mpr hj, ?_⟩)), hu⟩
    simp [hji, hu]
/-- fewer locals are known -/
def zSub : List (Option Value) → List (Option Value) → Prop
  | [], [] => True
  | none :: a, _ :: b => zSub a b
  | some v :: a, some u :: b => v = u ∧ zSub a b
  | _, _ => False
theorem zSub.get : ∀ {lv' lv : List (Option Value)}, zSub lv' lv → lv'.length = lv.length ∧ ∀ (i : Nat) (v : Value), lv'[i]? = some (some v) → lv[i]? = some (some v)
  | [], [], _ => ⟨rfl, fun i v h => by simp at h⟩
  | none :: a, x :: b, h => by
    obtain ⟨h1, h2⟩ := zSub.get (lv' := a) (lv := b) (by simpa [zSub] using h)
    refine ⟨by simp [h1], fun i v hv => ?_⟩
    cases i with
    | zero => simp at hv
    | succ i => simpa using h2 i v (by simpa using hv)
  | some v :: a, some u :: b, h => by
    obtain ⟨h0, h⟩ : v = u ∧ zSub a b := h
    subst h0
    obtain ⟨h1, h2⟩ := zSub.get h
    refine ⟨by simp [h1], fun i v hv => ?_⟩
    cases i with
    | zero => simpa using hv
    | succ i => simpa using h2 i v (by simpa using hv)
  | some v :: a, none :: b, h => h.elim
  | some v :: a, [], h => h.elim
  | none :: a, [], h => by simp [zSub] at h
  | [], x :: b, h => by cases x <;> exact h.elim
theorem zLo.sub {ls : Array Slot} {lv lv' : List (Option Value)} (h : zLo ls lv) (hs : zSub lv' lv) : zLo ls lv' :=
  ⟨by rw [hs.get.1]; exact h.1, h.2.1, fun i v hv => h.2.2 i v (hs.get.2 i v hv)⟩
theorem zW_good : ∀ w ∈ zW, ((w.onTables && w.keeps) = true ∨ ∃ ty, w = .arrayClass ty) := fun w h => good_of_word (List.mem_filter.mp h).2
/-- what is fixed while a method runs -/
def zCx (p : Program) (s : State) (m : MethodId) (args : Array Value) (meth : Method) (c : Code) (w : zWD) (A : Nat → Prop) (own : String) (cc : ByteArray) (nL : Nat) (ret : Option FieldType) : Prop :=
  p.tables.exec = Jvm.exec ∧ c.code = cc ∧ c.maxLocals = nL ∧ s.vm.findClass own = some m.cls ∧ (∀ q ∈ zW, q.before args s = true) ∧ meth.locks = false ∧ meth.sig.returnType = ret ∧ zKK w A s s.heap ∧ ∀ q, zFree w q → A q
section ZC
variable {p : Program} {s : State} {m : MethodId} {args : Array Value} {meth : Method} {c : Code} {w : zWD} {A : Nat → Prop} {own : String} {cc : ByteArray} {nL : Nat} {ret : Option FieldType}
theorem zCx.ow (X : zCx p s m args meth c w A own cc nL ret) : s.vm.findClass own = some m.cls := X.2.2.2.1
theorem zCx.ts (X : zCx p s m args meth c w A own cc nL ret) : ∀ q ∈ zW, q.before args s = true := X.2.2.2.2.1
theorem zCx.locks (X : zCx p s m args meth c w A own cc nL ret) : meth.locks = false := X.2.2.2.2.2.1
theorem zCx.rt (X : zCx p s m args meth c w A own cc nL ret) : meth.sig.returnType = ret := X.2.2.2.2.2.2.1
theorem zCx.kk (X : zCx p s m args meth c w A own cc nL ret) : zKK w A s s.heap := X.2.2.2.2.2.2.2.1
theorem zCx.clo (X : zCx p s m args meth c w A own cc nL ret) : zClo w := X.2.2.2.2.2.2.2.1.2.2.1
theorem zCx.sub (X : zCx p s m args meth c w A own cc nL ret) : ∀ q, zFree w q → A q := X.2.2.2.2.2.2.2.2
theorem zCx.D (X : zCx p s m args meth c w A own cc nL ret) (M : zMem) : va_D A (zWl w M) := X.kk.D X.sub M
end ZC
/-- from here (place pc, locals lv, operands st, memory M) the walk comes where the tree t says -/
def zRe (p : Program) (l : Launch) (e : Env) (R : Room) (s : State) (m : MethodId) (args : Array Value) (below : List Frame) (meth : Method) (c : Code) (w : zWD) (A : Nat → Prop) (cs ss : Nat) (Qe : Int32 → zMem → State → Prop) (pc : Nat) (lv : List (Option Value)) (st : List Value) (M : zMem) (t : zTr) : Prop :=
  ∀ (r : Int32) (M' : zMem), t = some (r, M') → ∀ (H : Heap) (locs : List Loc) (ls : Array Slot), zRep w M H → va_S A s.heap H locs → zLo ls lv →
    W p l e R s m args below meth c H locs cs ss (Qe r M') (F0 m pc ls st)
/-- a method's own end -/
abbrev zRm (p : Program) (l : Launch) (e : Env) (R : Room) (s : State) (m : MethodId) (args : Array Value) (below : List Frame) (meth : Method) (c : Code) (w : zWD) (rk : Nat) (pc : Nat) (lv : List (Option Value)) (st : List Value) (M : zMem) (t : zTr) : Prop :=
  zRe p l e R s m args below meth c w (zFree w) 0 0 (fun r M' => MQ below (zQc w rk r M') args s 0 0 (zFree w)) pc lv st M t
theorem zMt.of {l : Launch} {w : zWD} {y : MethodName} {cc : ByteArray} {maxL : Nat} {ret : Option FieldType} {rm : Room} {k : Nat} {av : List Value} {f : zMem → zTr} (hy : plainName y.cls = true) (lv : List (Option Value)) (hlv : av.map some ++ List.replicate (maxL - av.length) none = lv) (hlen : av.length ≤ maxL) (hcat : ∀ v ∈ av, v.category = 1)
    (h : ∀ (p : Program) (e : Env) (s : State) (m : MethodId) (args : Array Value) (below : List Frame) (meth : Method) (c : Code), zCx p s m args meth c w (zFree w) y.cls cc maxL ret → ∀ M : zMem, zRm p l e rm s m args below meth c w k 0 lv [] M (f M)) : zMt l w y cc maxL ret rm k av f := by
  intro M r M' hf
  refine Met.ofW (cc := cc) (maxL := maxL) (ret := ret) hy rfl ?_
  intro p e s m args below meth c s₁ B hml hv
  obtain ⟨rfl, hR, hK⟩ := hv
  have hts := atoms_spec (ws := Cond.code y cc maxL ret :: zW) B.pre
  have X : zCx p s m av.toArray meth c w (zFree w) y.cls cc maxL ret := ⟨B.exec, B.bytes, hml, findClass_of_methodNamed B.named, fun q hq => hts q (List.mem_cons_of_mem _ hq), B.notSynchronized, B.returns, hK, fun _ h => h⟩
  have hsl : ∀ av : List Value, (∀ v ∈ av, v.category = 1) → lg_sl av = av.map Slot.val := by
    intro av
    induction av with
    | nil => intro _; rfl
    | cons a b ih =>
      intro hc
      have ha := hc a List.mem_cons_self
      have hb := ih (fun v hv => hc v (List.mem_cons_of_mem _ hv))
      simp only [lg_sl, List.flatMap_cons, List.map_cons] at hb ⊢
      rw [if_neg (by omega), hb]
      rfl
  have h1 := hsl av hcat
  have hl := lv_entry av (n := maxL) (by rw [h1, List.length_map]; exact hlen)
  rw [lg_entry_eq]
  generalize hls : (lg_sl av ++ List.replicate (maxL - (lg_sl av).length) Slot.unset).toArray = ls at hl ⊢
  have hL : zLo ls lv := by
    subst hlv
    refine ⟨?_, hl.2.1, fun i v hi => ?_⟩
    · rw [hl.1]
      simp
      omega
    · have hlt : i < av.length := by
        rcases Nat.lt_or_ge i av.length with q | q
        · exact q
        · rw [List.getElem?_append_right (by simpa using q), List.getElem?_replicate] at hi
          split at hi <;> cases hi
      rw [List.getElem?_append_left (by simpa using hlt), List.getElem?_map] at hi
      cases hg : av[i]? with
      | none => rw [hg] at hi; cases hi
      | some u =>
        rw [hg] at hi
        have eu : u = v := by simpa using hi
        subst eu
        refine ⟨?_, hcat u (List.mem_of_getElem? hg)⟩
        rw [← hls, List.getElem?_toArray, h1, List.getElem?_append_left (by simpa using hlt), List.getElem?_map, hg]
        rfl
  exact h p e s m av.toArray below meth c X M r M' hf s.heap [] ls hR va_S.rf hL
