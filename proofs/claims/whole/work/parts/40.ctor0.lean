/-- the tables' word on arrays of arrays -/
def va_AOA (ty : FieldType) (U : State) : Prop := (Cond.arrayOver (.array ty)).before #[] U = true
theorem va_AOA.use {ty : FieldType} {A : Array Value} {U : State} (h : va_AOA ty U) : (Cond.arrayOver (.array ty)).before A U = true := h
theorem va_AOA.moved {ty : FieldType} {u U : State} (hvm : u.vm.Alike U.vm) (h : va_AOA ty u) : va_AOA ty U := over_moved hvm h
def zAO (U : State) : Prop := va_AOA .int U ∧ va_AOA .boolean U
theorem zAO.moved {u U : State} (hvm : u.vm.Alike U.vm) (h : zAO u) : zAO U := ⟨h.1.moved hvm, h.2.moved hvm⟩
/-! ===== constructors: worlds that grow; incomplete objects stand beside them ===== -/
abbrev zBs : Type := va_G × (Nat → ClassId) × (Nat → Nat) × (Nat → Nat)
def zWm (B : zBs) (ad : Nat → Nat) (ls : List Nat) : zWD := (B.1, B.2.1, ad, B.2.2.1, B.2.2.2, fun c => ls.contains c)
theorem zL_m {B : zBs} {ad : Nat → Nat} {ls : List Nat} {c : Nat} : zL (zWm B ad ls) c = true ↔ c ∈ ls := by
  show ls.contains c = true ↔ c ∈ ls
  simp
def zCL (ls : List Nat) : Bool := ls.all (fun c => decide (c < zNC ∧ (zKd0 c).1 < 21) && (List.range (zKd0 c).2).all (fun i => !(decide ((zKd0 c).1 < 11) && zFr (zKd0 c).1 i || decide (14 ≤ (zKd0 c).1) && decide ((zKd0 c).1 < 21)) || ls.contains (zRf c i)))
theorem zCL_lt {ls : List Nat} (h : zCL ls = true) {c : Nat} (hc : c ∈ ls) : c < zNC ∧ (zKd0 c).1 < 21 := by
  have h1 := List.all_eq_true.mp h c hc
  simp only [Bool.and_eq_true, decide_eq_true_eq] at h1
  exact h1.1
theorem zCL_ref {ls : List Nat} (h : zCL ls = true) {c i : Nat} (hc : c ∈ ls) (hi : (zKd0 c).1 < 11 ∧ i < (zKd0 c).2 ∧ zFr (zKd0 c).1 i = true ∨ 14 ≤ (zKd0 c).1 ∧ (zKd0 c).1 < 21 ∧ i < (zKd0 c).2) : zRf c i ∈ ls := by
  have h1 := List.all_eq_true.mp h c hc
  simp only [Bool.and_eq_true, decide_eq_true_eq] at h1
  have hlt : i < (zKd0 c).2 := by
    rcases hi with q | q
    · exact q.2.1
    · exact q.2.2
  have h2 := List.all_eq_true.mp h1.2 i (List.mem_range.mpr hlt)
  have h3 : (decide ((zKd0 c).1 < 11) && zFr (zKd0 c).1 i || decide (14 ≤ (zKd0 c).1) && decide ((zKd0 c).1 < 21)) = true := by
    rcases hi with ⟨q1, -, q3⟩ | ⟨q1, q2, -⟩
    · simp [q1, q3]
    · simp [q1, q2]
  rw [h3] at h2
  simpa using h2
theorem zClo_of {B : zBs} {ad : Nat → Nat} {ls : List Nat} (h : zCL ls = true) : zClo (zWm B ad ls) := fun c i hc hi => zL_m.mpr (zCL_ref h (zL_m.mp hc) hi)
/-- apart, and of a kind -/
def zDx (ad : Nat → Nat) (ls : List Nat) (A : Nat → Prop) (ex : va_W) : Prop :=
  (∀ c c', c ∈ ls → c' ∈ ls → ad c = ad c' → c = c') ∧ (∀ c x, c ∈ ls → x ∈ ex → ad c ≠ x.1) ∧ (ex.map Prod.fst).Nodup ∧ (∀ c, c ∈ ls → A (ad c)) ∧ ∀ x ∈ ex, A x.1
theorem zWl_mem {w : zWD} {M : zMem} {x : Nat × va_E} (h : x ∈ zWl w M) : ∃ c, c < zNC ∧ zL w c = true ∧ x = (zA w c, zEn w M c) := by
  obtain ⟨c, hc, rfl⟩ := List.mem_map.mp h
  have := List.mem_filter.mp hc
  exact ⟨c, List.mem_range.mp this.1, this.2, rfl⟩
theorem zWl_in {w : zWD} {M : zMem} {c : Nat} (h : c < zNC) (hl : zL w c = true) : (zA w c, zEn w M c) ∈ zWl w M :=
  List.mem_map.mpr ⟨c, List.mem_filter.mpr ⟨List.mem_range.mpr h, hl⟩, rfl⟩
theorem zDx.D {B : zBs} {ad : Nat → Nat} {ls : List Nat} {A : Nat → Prop} {ex : va_W} {M : zMem} (h : zDx ad ls A ex) : va_D A (zWl (zWm B ad ls) M ++ ex) := by
  obtain ⟨h1, h2, h3, h4, h5⟩ := h
  have hn : ((zWl (zWm B ad ls) M ++ ex).map Prod.fst).Nodup := by
    rw [List.map_append, List.nodup_append]
    refine ⟨?_, h3, ?_⟩
    · rw [zWl, List.map_map]
      refine List.pairwise_map.mpr ?_
      have hp : (zLi (zWm B ad ls)).Nodup := List.nodup_range.filter _
      refine List.Pairwise.imp_of_mem ?_ hp
      intro a b ha hb hab heq
      have m1 := zL_m.mp (List.mem_filter.mp ha).2
      have m2 := zL_m.mp (List.mem_filter.mp hb).2
      exact hab (h1 a b m1 m2 heq)
    · intro a ha b hb hab
      obtain ⟨x, hx, rfl⟩ := List.mem_map.mp ha
      obtain ⟨y, hy, rfl⟩ := List.mem_map.mp hb
      obtain ⟨c, -, hc, rfl⟩ := zWl_mem hx
      exact h2 c y (zL_m.mp hc) hy hab
  refine ⟨fun i j x y hi hj hxy => ?_, fun k x hx => ?_⟩
  · have e1 : ((zWl (zWm B ad ls) M ++ ex).map Prod.fst)[i]? = some x.1 := by rw [List.getElem?_map, hi]; rfl
    have e2 : ((zWl (zWm B ad ls) M ++ ex).map Prod.fst)[j]? = some y.1 := by rw [List.getElem?_map, hj]; rfl
    exact (List.getElem?_inj (List.getElem?_eq_some_iff.mp e1).1 hn).mp (by rw [e1, e2, hxy])
  · rcases List.mem_append.mp (List.mem_of_getElem? hx) with q | q
    · obtain ⟨c, -, hc, rfl⟩ := zWl_mem q
      exact h4 c (zL_m.mp hc)
    · exact h5 x q
theorem va_P_mem {D : va_G} {cl : List vw_C} {l l' : va_W} {H : Heap} (h : va_P D cl l H) (hm : ∀ x ∈ l', x ∈ l) : va_P D cl l' H := fun k x hx => by
  obtain ⟨i, hi⟩ := List.getElem?_of_mem (hm x (List.mem_of_getElem? hx))
  exact h i x hi
/-- a new cell at the end is apart from all -/
theorem va_D_last {A : Nat → Prop} {l : va_W} {q : Nat} {e : va_E} (h : va_D A (l ++ [(q, e)])) : (∀ x ∈ l, x.1 ≠ q) ∧ A q := by
  refine ⟨fun x hx hq => ?_, h.2 l.length (q, e) (by simp)⟩
  obtain ⟨i, hi⟩ := List.getElem?_of_mem hx
  have hl := (List.getElem?_eq_some_iff.mp hi).1
  have := h.1 i l.length x (q, e) (by rw [List.getElem?_append_left hl]; exact hi) (by simp) hq
  omega
def zAd (ad : Nat → Nat) (c q : Nat) : Nat → Nat := fun b => if b = c then q else ad b
theorem zAd_s {ad : Nat → Nat} {c q : Nat} : zAd ad c q c = q := if_pos rfl
theorem zAd_n {ad : Nat → Nat} {c q b : Nat} (h : b ≠ c) : zAd ad c q b = ad b := if_neg h
theorem zEn_keep {B : zBs} {ad ad' : Nat → Nat} {ls ls' : List Nat} {M : zMem} (hcl : zCL ls = true) (hk : ∀ b ∈ ls, ad' b = ad b) {b : Nat} (hb : b ∈ ls) : zEn (zWm B ad' ls') M b = zEn (zWm B ad ls) M b := by
  unfold zEn
  by_cases h1 : (zKd0 b).1 < 11
  · rw [if_pos h1, if_pos h1]
    refine congrArg (fun z => (Sum.inr ((zKd0 b).1, z) : va_E)) ?_
    apply List.map_congr_left
    intro i hi
    have hi := List.mem_range.mp hi
    unfold zFv
    by_cases hf : zFr (zKd0 b).1 i = true
    · rw [if_pos hf, if_pos hf]
      have := hk _ (zCL_ref hcl hb (Or.inl ⟨h1, hi, hf⟩))
      show Value.ref (ad' _) = Value.ref (ad _)
      rw [this]
    · rw [if_neg hf, if_neg hf]
  · rw [if_neg h1, if_neg h1]
    by_cases h2 : (zKd0 b).1 < 14
    · rw [if_pos h2, if_pos h2]
      rfl
    · rw [if_neg h2, if_neg h2]
      have key : (fun i => if i < (zKd0 b).2 then some (zA (zWm B ad' ls') (zRf b i)) else none) = (fun i => if i < (zKd0 b).2 then some (zA (zWm B ad ls) (zRf b i)) else none) := by
        funext i
        by_cases hi : i < (zKd0 b).2
        · rw [if_pos hi, if_pos hi]
          have h3 : (zKd0 b).1 < 21 := (zCL_lt hcl hb).2
          have := hk _ (zCL_ref hcl hb (Or.inr ⟨by omega, h3, hi⟩))
          show some (ad' _) = some (ad _)
          rw [this]
        · rw [if_neg hi, if_neg hi]
      rw [key]
      rfl
