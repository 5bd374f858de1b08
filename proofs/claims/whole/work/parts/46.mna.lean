/-! ===== BEGIN new T[n][m]: the outer array a place, the inner ones among the pooled ===== -/
/-- f, but v at every address of l -/
def vr_up {α : Type} (f : Nat → α) (l : List Nat) (v : α) : Nat → α := fun a => if a ∈ l then v else f a
theorem vr_up_in {α : Type} {f : Nat → α} {l : List Nat} {v : α} {a : Nat} (h : a ∈ l) : vr_up f l v a = v := if_pos h
theorem vr_up_ne {α : Type} {f : Nat → α} {l : List Nat} {v : α} {a : Nat} (h : a ∉ l) : vr_up f l v a = f a := if_neg h
theorem vr_rows {L l : List Nat} {f : Nat → va_E} {e : va_E} (h : ∀ a, a ∈ l → a ∉ L) : va_pl L f ++ l.map (fun a => (a, e)) = va_pl (L ++ l) (vr_up f l e) := by
  unfold va_pl
  rw [List.map_append]
  congr 1
  · apply List.map_congr_left
    intro a ha
    rw [vr_up_ne (fun q => h a q ha)]
  · apply List.map_congr_left
    intro a ha
    rw [vr_up_in ha]
theorem vr_lay {X rows : va_W} {x : Nat × va_E} {pl : va_W} {D : va_G} {cl : List vw_C} {H : Heap} (hP : va_P D cl (((X ++ pl) ++ [x]) ++ rows) H) : va_P D cl ((X ++ [x]) ++ (pl ++ rows)) H := by
  rw [List.append_assoc (X ++ pl)] at hP
  have h := va_P.swap hP
  rw [← List.append_assoc X] at h
  have h2 := va_P.swap h
  rw [List.append_assoc (X ++ [x])] at h2
  exact h2
theorem vr_layD {X rows : va_W} {x : Nat × va_E} {pl : va_W} {A : Nat → Prop} (hD : va_D A (((X ++ pl) ++ [x]) ++ rows)) : va_D A ((X ++ [x]) ++ (pl ++ rows)) := by
  rw [List.append_assoc (X ++ pl)] at hD
  have h := va_D.swap hD
  rw [← List.append_assoc X] at h
  have h2 := va_D.swap h
  rw [List.append_assoc (X ++ [x])] at h2
  exact h2
theorem vr_outer (c : ClassId) (N h0 : Nat) : ∀ i : Nat, Jvm.Free.Multi.outerC c N h0 i = arrV c N (fun j => va_rf (if j < i then some (h0 + 1 + j) else none))
  | 0 => by
    show ({ cls := c, slots := Array.replicate N .null, vm := .none } : Cell) = _
    rw [arrV_new]
    refine congrArg (arrV c N) (funext fun j => ?_)
    simp [va_rf]
  | i + 1 => by
    show (Jvm.Free.Multi.outerC c N h0 i).setSlot i (.ref (h0 + 1 + i)) = _
    rw [vr_outer c N h0 i, arrV_store]
    refine congrArg (arrV c N) (funext fun j => ?_)
    by_cases e : j = i
    · subst e
      simp [updV, va_rf]
    · by_cases h : j < i
      · simp [updV, e, h, Nat.lt_succ_of_lt h]
      · simp [updV, e, h, show ¬ j < i + 1 by omega]
section VGM
variable {p : Program} {l : Launch} {e : Env} {R : Room} {s : State} {m : MethodId} {args : Array Value} {below : List Frame} {meth : Method} {c : Code} {H : Heap} {locs : List Loc} {cells slots : Nat} {Q : State → Prop}
variable {cc : ByteArray} {pc : Nat} {ls : Array Slot} {rest : List Value} {D : va_G} {cl : List vw_C} {A : Nat → Prop} {a : Nat} {tys : List (ClassId × FieldType)} {ws : va_W} {H0 : Heap}
theorem va_mna {X : va_W} {L : List Nat} {f : Nat → va_E} {cc : ByteArray} (hexec : p.tables.exec = Jvm.exec) (hb : c.code = cc) {own : String} {index : Nat} {ty : FieldType} {cy : ClassId} (hown : s.vm.findClass own = some m.cls) (hclink : (Cond.classLink own index ("[" ++ (FieldType.array ty).toString)).before args s = true) (hover : va_AOA ty s) (harr : (Cond.arrayClass ty).before args s = true) (hcy : s.vm.findClass (FieldType.array ty).toString = some cy)
    (hK : va_K D cl tys s) (hP : va_P D cl (X ++ va_pl L f) H) (hD : va_D A (X ++ va_pl L f)) (hS : va_S A H0 H locs) (hA : ∀ q, H0.size ≤ q → A q) {n k : Int32} {N' K' : Nat} {z : vp_A} (hn : ¬ n < 0) (hk : ¬ k < 0) (hN : n.toNatClampNeg = N') (hM : k.toNatClampNeg = K')
    (hb1 : N' * 4 ≤ 536870912) (hb2 : K' * componentBytes ty ≤ 536870912) (hb3 : K' ≤ 536870912) (hdf : fits ty (defaultValue ty) = true) (hdd : (defaultValue ty).isDefault = true) (hcells : cells + (1 + N') ≤ R.cells) (hslots : slots + (N' + N' * K') ≤ R.slots) (hz : ∀ c : ClassId, Jvm.Free.Multi.innerC c K' (defaultValue ty) = vp_cell c z) (hdg : decode cc pc = .ok (.multianewarray index 2, 4))
    (kk : ∀ (q : Nat) (r : Nat → Nat) (cA : ClassId) (H1 : Heap), (∀ i j : Nat, i < N' → j < N' → r i = r j → i = j) → (∀ i : Nat, i < N' → r i ∉ L) → va_K D cl (tys ++ [(cA, .array ty)]) s →
      va_P D cl ((X ++ [(q, .inl (cA, N', .inr (.inr (.inr (.inr (fun i => if i < N' then some (r i) else none))))))]) ++ va_pl (L ++ (List.range N').map r) (vr_up f ((List.range N').map r) (.inl (cy, z)))) H1 → va_D A ((X ++ [(q, .inl (cA, N', .inr (.inr (.inr (.inr (fun i => if i < N' then some (r i) else none))))))]) ++ va_pl (L ++ (List.range N').map r) (vr_up f ((List.range N').map r) (.inl (cy, z)))) → va_S A H0 H1 locs →
      W p l e R s m args below meth c H1 locs (cells + 1 + N') (slots + N' + N' * K') Q (F0 m (pc + 4) ls (.ref q :: rest))) : W p l e R s m args below meth c H locs cells slots Q (F0 m pc ls (.int k :: .int n :: rest)) := by
  subst hN
  subst hM
  intro T hT Xs
  obtain ⟨vm₁, cA, comp, -, fA, fC, hO, -, X', step⟩ := Xs.multianewarray2F hexec hown hclink (va_AOA.use hover) harr (g := F0 m pc ls (.int k :: .int n :: rest)) rfl (by rw [hb]; exact hdg) rfl hn hk hb1 hb2 hb3 hdf hdd hcells hslots
  have ec : some cy = some comp := hcy.symm.trans fC
  cases ec
  generalize hF : Jvm.Free.Multi.fill (T.setVm vm₁) cA cy n.toNatClampNeg k.toNatClampNeg (defaultValue ty) n.toNatClampNeg = F at X' step
  have hTh : (T.setVm vm₁).heap = H := hT
  obtain ⟨f1, f2, -, -⟩ := Jvm.Free.Multi.fill_facts (T.setVm vm₁) cA cy n.toNatClampNeg k.toNatClampNeg (defaultValue ty) n.toNatClampNeg
  rw [hF, hTh] at f1 f2
  have hold : ∀ x : Nat, x < H.size → F.heap[x]? = H[x]? := fun x hx => by
    have := Jvm.Free.Multi.fill_old (T.setVm vm₁) cA cy n.toNatClampNeg k.toNatClampNeg (defaultValue ty) (a := x) (by rw [hTh]; exact hx) n.toNatClampNeg
    rw [hF, hTh] at this
    exact this
  have hrow : ∀ j : Nat, j < n.toNatClampNeg → F.heap[H.size + 1 + j]? = some (vp_cell cy z) := fun j hj => by
    have := Jvm.Free.Multi.fill_inner (T.setVm vm₁) cA cy n.toNatClampNeg k.toNatClampNeg (defaultValue ty) n.toNatClampNeg j hj
    rw [hF, hTh, hz] at this
    exact this
  have hout : Jvm.Free.Multi.outerC cA n.toNatClampNeg H.size n.toNatClampNeg = vp_cell cA (n.toNatClampNeg, .inr (.inr (.inr (.inr (fun i => if i < n.toNatClampNeg then some (H.size + 1 + i) else none))))) := by
    rw [vp_cell_q]
    exact vr_outer cA n.toNatClampNeg H.size n.toNatClampNeg
  rw [hout] at f2
  have hlt : ∀ a, a ∈ L → a < H.size := fun a ha => by
    obtain ⟨k9, hk9⟩ := va_pl_get (X := X) (f := f) ha
    exact (hP k9 _ hk9).lt
  have hnl : ∀ i : Nat, i < n.toNatClampNeg → H.size + 1 + i ∉ L := fun i _ h => by
    have := hlt _ h
    omega
  have hnm : ∀ a, a ∈ (List.range n.toNatClampNeg).map (fun i => H.size + 1 + i) → a ∉ L := fun a ha h => by
    obtain ⟨i, -, rfl⟩ := List.mem_map.mp ha
    have := hlt _ h
    omega
  have hP0 : va_P D cl (X ++ va_pl L f) F.heap := hP.kept (fun k9 x hx => hold x.1 ((hP k9 x hx).lt))
  have hP1 : va_P D cl ((X ++ va_pl L f) ++ [(H.size, .inl (cA, n.toNatClampNeg, .inr (.inr (.inr (.inr (fun i => if i < n.toNatClampNeg then some (H.size + 1 + i) else none))))))]) F.heap := hP0.app (fun k9 x hx => by
    have h0 : k9 < 1 := (List.getElem?_eq_some_iff.mp hx).1
    rw [show k9 = 0 by omega] at hx
    cases hx
    exact f2)
  have hP2 : va_P D cl (((X ++ va_pl L f) ++ [(H.size, .inl (cA, n.toNatClampNeg, .inr (.inr (.inr (.inr (fun i => if i < n.toNatClampNeg then some (H.size + 1 + i) else none))))))]) ++ ((List.range n.toNatClampNeg).map (fun i => H.size + 1 + i)).map (fun a => (a, .inl (cy, z)))) F.heap := hP1.app (fun k9 x hx => by
    obtain ⟨a, ha, rfl⟩ := List.mem_map.mp (List.mem_of_getElem? hx)
    obtain ⟨i, hi, rfl⟩ := List.mem_map.mp ha
    exact hrow i (List.mem_range.mp hi))
  have hD2 : va_D A (((X ++ va_pl L f) ++ [(H.size, .inl (cA, n.toNatClampNeg, .inr (.inr (.inr (.inr (fun i => if i < n.toNatClampNeg then some (H.size + 1 + i) else none))))))]) ++ ((List.range n.toNatClampNeg).map (fun i => H.size + 1 + i)).map (fun a => (a, .inl (cy, z)))) := by
    have hD1 := hD.push (e := .inl (cA, n.toNatClampNeg, .inr (.inr (.inr (.inr (fun i => if i < n.toNatClampNeg then some (H.size + 1 + i) else none)))))) hP rfl (hA _ hS.1)
    generalize hW1 : (X ++ va_pl L f) ++ [(H.size, .inl (cA, n.toNatClampNeg, .inr (.inr (.inr (.inr (fun i => if i < n.toNatClampNeg then some (H.size + 1 + i) else none))))))] = W1 at hD1 hP1 ⊢
    have hle : ∀ (k9 : Nat) (x : Nat × va_E), W1[k9]? = some x → x.1 ≤ H.size := fun k9 x hx => by
      rw [← hW1] at hx
      by_cases hl : k9 < (X ++ va_pl L f).length
      · rw [List.getElem?_append_left hl] at hx
        exact Nat.le_of_lt ((hP k9 x hx).lt)
      · rw [List.getElem?_append_right (by omega)] at hx
        have h0 : k9 - (X ++ va_pl L f).length < 1 := (List.getElem?_eq_some_iff.mp hx).1
        rw [show k9 - (X ++ va_pl L f).length = 0 by omega] at hx
        cases hx
        exact Nat.le_refl _
    have hr : ∀ (k9 : Nat) (x : Nat × va_E), (((List.range n.toNatClampNeg).map (fun i => H.size + 1 + i)).map (fun a => ((a, .inl (cy, z)) : Nat × va_E)))[k9]? = some x → x.1 = H.size + 1 + k9 := fun k9 x hx => by
      rw [List.getElem?_map, List.getElem?_map] at hx
      by_cases h9 : k9 < n.toNatClampNeg
      · rw [List.getElem?_range h9] at hx
        cases hx
        rfl
      · have hn0 : (List.range n.toNatClampNeg)[k9]? = none := List.getElem?_eq_none (by rw [List.length_range]; omega)
        rw [hn0] at hx
        cases hx
    refine ⟨fun i j x y hi hj hxy => ?_, fun k9 x hx => ?_⟩
    · by_cases h1 : i < W1.length <;> by_cases h2 : j < W1.length
      · rw [List.getElem?_append_left h1] at hi
        rw [List.getElem?_append_left h2] at hj
        exact hD1.1 i j x y hi hj hxy
      · rw [List.getElem?_append_left h1] at hi
        rw [List.getElem?_append_right (by omega)] at hj
        have := hle _ _ hi
        have := hr _ _ hj
        omega
      · rw [List.getElem?_append_right (by omega)] at hi
        rw [List.getElem?_append_left h2] at hj
        have := hle _ _ hj
        have := hr _ _ hi
        omega
      · rw [List.getElem?_append_right (by omega)] at hi hj
        have := hr _ _ hi
        have := hr _ _ hj
        omega
    · by_cases h1 : k9 < W1.length
      · rw [List.getElem?_append_left h1] at hx
        exact hD1.2 k9 x hx
      · rw [List.getElem?_append_right (by omega)] at hx
        have := hr _ _ hx
        exact hA _ (by have := hS.1; omega)
  have hAr : ArrOfT s cA (.array ty) := fun N9 z9 => by
    obtain ⟨-, k9, hk9, cm9, hkk9⟩ := (hO 0 0 0).1
    exact ⟨(fun q hq => by cases hq), k9, hk9, cm9, hkk9⟩
  have hK2 : va_K D cl (tys ++ [(cA, .array ty)]) s := ⟨hK.1, fun k9 x hx => by
    by_cases hl : k9 < tys.length
    · rw [List.getElem?_append_left hl] at hx
      exact hK.2 k9 x hx
    · rw [List.getElem?_append_right (by omega)] at hx
      have h0 : k9 - tys.length < 1 := (List.getElem?_eq_some_iff.mp hx).1
      rw [show k9 - tys.length = 0 by omega] at hx
      cases hx
      exact ⟨hAr, fA⟩⟩
  obtain ⟨t, a1, b1⟩ := kk H.size (fun i => H.size + 1 + i) cA F.heap (fun i j _ _ h => by have h9 : H.size + 1 + i = H.size + 1 + j := h; omega) hnl hK2 (by rw [← vr_rows hnm]; exact vr_lay hP2) (by rw [← vr_rows hnm]; exact vr_layD hD2) ⟨by rw [f1]; have := hS.1; omega, fun x h1 h2 => (hold x (Nat.lt_of_lt_of_le h1 hS.1)).trans (hS.2.1 x h1 h2), hS.2.2⟩ F rfl X'
  refine ⟨t, step t ?_, b1⟩
  have e : T.heap.size = H.size := by rw [hT]
  rw [e]
  exact a1
end VGM
/-! ===== END ===== -/


def zAdR (ad : Nat → Nat) (cn q base n : Nat) (r : Nat → Nat) : Nat → Nat := fun b => if b = cn then q else if base ≤ b ∧ b < base + n then r (b - base) else ad b
theorem zRA_a {ty : FieldType} (U : State) (a b : ClassId) (h1 : va_RA U a (.array ty)) (h2 : va_RA U b (.array ty)) : a = b := Option.some.inj (h1.symm.trans h2)
/-- three stretches of a list of cells that are apart -/
theorem va_D_three {A : Nat → Prop} {l rows : va_W} {x0 : Nat × va_E} (h : va_D A ((l ++ [x0]) ++ rows)) : (∀ x ∈ l, x.1 ≠ x0.1) ∧ (∀ x ∈ l, ∀ y ∈ rows, x.1 ≠ y.1) ∧ (∀ y ∈ rows, x0.1 ≠ y.1) ∧ A x0.1 ∧ ∀ y ∈ rows, A y.1 := by
  have gl : ∀ x ∈ l, ∃ i, i < l.length ∧ ((l ++ [x0]) ++ rows)[i]? = some x := fun x hx => by
    obtain ⟨i, hi⟩ := List.getElem?_of_mem hx
    have hl := (List.getElem?_eq_some_iff.mp hi).1
    refine ⟨i, hl, ?_⟩
    rw [List.getElem?_append_left (by rw [List.length_append]; omega), List.getElem?_append_left hl]
    exact hi
  have g0 : ((l ++ [x0]) ++ rows)[l.length]? = some x0 := by
    rw [List.getElem?_append_left (by rw [List.length_append]; simp)]
    exact zEx_get (tl := [])
  have gr : ∀ y ∈ rows, ∃ i, l.length < i ∧ ((l ++ [x0]) ++ rows)[i]? = some y := fun y hy => by
    obtain ⟨i, hi⟩ := List.getElem?_of_mem hy
    refine ⟨l.length + 1 + i, by omega, ?_⟩
    rw [List.getElem?_append_right (by rw [List.length_append]; simp only [List.length_singleton]; omega), List.length_append, List.length_singleton, show l.length + 1 + i - (l.length + 1) = i by omega]
    exact hi
  refine ⟨fun x hx he => ?_, fun x hx y hy he => ?_, fun y hy he => ?_, h.2 _ _ g0, fun y hy => ?_⟩
  · obtain ⟨i, h1, h2⟩ := gl x hx
    have := h.1 _ _ _ _ h2 g0 he
    omega
  · obtain ⟨i, h1, h2⟩ := gl x hx
    obtain ⟨j, h3, h4⟩ := gr y hy
    have := h.1 _ _ _ _ h2 h4 he
    omega
  · obtain ⟨j, h3, h4⟩ := gr y hy
    have := h.1 _ _ _ _ g0 h4 he
    omega
  · obtain ⟨j, h3, h4⟩ := gr y hy
    exact h.2 _ _ h4
section ZX6
variable {p : Program} {l : Launch} {e : Env} {R : Room} {s : State} {m : MethodId} {args : Array Value} {below : List Frame} {meth : Method} {c : Code} {B : zBs} {A : Nat → Prop} {cs ss : Nat} {Q : State → Prop} {own : String} {cc : ByteArray} {nL : Nat} {ret : Option FieldType} {ad : Nat → Nat} {ls : List Nat} {ex : va_W} {pc : Nat} {lv : List (Option Value)} {st : List Value} {M : zMem}
theorem rx_mna (Y : zCy p s m args meth c B A own cc nL ret) {ty : FieldType} {idx k n mm rkk cn base t0 t1 : Nat} {v1 v2 : Int32} (L1 : Cond.classLink own idx ("[" ++ (FieldType.array ty).toString) ∈ zW) (L2 : va_AOA ty s) (L3 : Cond.arrayClass ty ∈ zW) (hkd : zKd0 cn = (k, n)) (hk : 14 ≤ k ∧ k < 21) (hrow : ∀ i, i < n → zKd0 (base + i) = (rkk, mm)) (hrf : ∀ i, i < n → zRf cn i = base + i) (hrk : 11 ≤ rkk ∧ rkk < 14) (ht0 : (zTys (zWm B ad ls))[t0]? = some (B.2.1 rkk, ty)) (ht1 : (zTys (zWm B ad ls))[t1]? = some (B.2.1 (zAk k), .array ty)) (hfc : ∀ U : State, va_RA U (B.2.1 rkk) ty → U.vm.findClass (FieldType.array ty).toString = some (B.2.1 rkk)) (hdef : defaultValue ty = .int 0) (hdf : fits ty (defaultValue ty) = true)
    (hcl : zCL ls = true) (hcn : cn ∉ ls) (hbn : ∀ i, i < n → base + i ∉ ls) (hcb : ∀ i, i < n → base + i ≠ cn) (hlt : cn < zNC ∧ ∀ i, i < n → base + i < zNC) (hz : ∀ i, i < n → ∀ j, M (base + i) j = 0)
    (hn1 : ¬ v1 < 0) (hn2 : ¬ v2 < 0) (hN1 : v1.toNatClampNeg = n) (hN2 : v2.toNatClampNeg = mm) (hb1 : n * 4 ≤ 536870912) (hb2 : mm * componentBytes ty ≤ 536870912) (hb3 : mm ≤ 536870912) (hcs : cs + (1 + n) ≤ R.cells) (hss : ss + (n + n * mm) ≤ R.slots) (d : decode cc pc = .ok (.multianewarray idx 2, 4))
    (h : ∀ (q : Nat) (r : Nat → Nat), zRx p l e R s m args below meth c B A Q (cs + 1 + n) (ss + n + n * mm) (zAdR ad cn q base n r) (cn :: ((List.range n).map (fun i => base + i) ++ ls)) ex (pc + 4) lv (.ref q :: st) M) : zRx p l e R s m args below meth c B A Q cs ss ad ls ex pc lv (.int v2 :: .int v1 :: st) M := by
  intro H locs lsl hP hD hS hL
  have hKK := Y.2.2.2.2.2.2.2.1
  have hK : va_K B.1 vwCl (zTys (zWm B ad ls)) s := hKK.1
  refine va_mna (X := zWl (zWm B ad ls) M ++ ex) (L := []) (f := fun _ => .inr (0, [])) (N' := n) (K' := mm) (z := (mm, .inl (fun _ => 0))) (cy := B.2.1 rkk) Y.1 Y.2.1 Y.2.2.2.1 (Y.2.2.2.2.1 _ L1) L2 (Y.2.2.2.2.1 _ L3) (hfc s (hK.2 t0 _ ht0).2) hK (by rw [show va_pl [] (fun _ => (.inr (0, []) : va_E)) = [] from rfl, List.append_nil]; exact hP) (by rw [show va_pl [] (fun _ => (.inr (0, []) : va_E)) = [] from rfl, List.append_nil]; exact hD.D) hS Y.2.2.2.2.2.2.2.2.1 hn1 hn2 hN1 hN2 hb1 hb2 hb3 hdf (by rw [hdef]; rfl) hcs hss (fun cc2 => ?_) d (fun q r cA H1 hinj _ hK1 hP1 hD1 hS1 => ?_)
  · rw [vp_cell_i, hdef]
    show ({ cls := cc2, slots := Array.replicate mm (.int 0), vm := .none } : Cell) = _
    rw [arrV_new]
  · have e1 : cA = B.2.1 (zAk k) := zRA_a s _ _ (hK1.2 5 (cA, .array ty) rfl).2 (hK.2 t1 _ ht1).2
    subst e1
    have hpl : va_pl ([] ++ (List.range n).map r) (vr_up (fun _ => (.inr (0, []) : va_E)) ((List.range n).map r) (.inl (B.2.1 rkk, (mm, .inl (fun _ => 0))))) = (List.range n).map (fun i => (r i, (.inl (B.2.1 rkk, (mm, .inl (fun _ => 0))) : va_E))) := by
      rw [List.nil_append, va_pl, List.map_map]
      apply List.map_congr_left
      intro i hi
      show (r i, vr_up _ _ _ (r i)) = _
      rw [vr_up_in (List.mem_map.mpr ⟨i, hi, rfl⟩)]
    rw [hpl] at hP1 hD1
    have a1 : zAdR ad cn q base n r cn = q := if_pos rfl
    have a2 : ∀ i, i < n → zAdR ad cn q base n r (base + i) = r i := fun i hi => by
      rw [zAdR, if_neg (hcb i hi), if_pos ⟨by omega, by omega⟩]
      congr 1
      omega
    have a3 : ∀ b ∈ ls, zAdR ad cn q base n r b = ad b := fun b hb => by
      rw [zAdR, if_neg (fun e => hcn (by rw [← e]; exact hb)), if_neg]
      rintro ⟨h1, h2⟩
      exact hbn (b - base) (by omega) (by rw [show base + (b - base) = b by omega]; exact hb)
    have hen1 : zEn (zWm B (zAdR ad cn q base n r) (cn :: ((List.range n).map (fun i => base + i) ++ ls))) M cn = .inl (B.2.1 (zAk k), n, .inr (.inr (.inr (.inr (fun i => if i < n then some (r i) else none))))) := by
      rw [zEn_rows hkd hk.1]
      have key : (fun i => if i < n then some (zA (zWm B (zAdR ad cn q base n r) (cn :: ((List.range n).map (fun i => base + i) ++ ls))) (zRf cn i)) else none) = (fun i => if i < n then some (r i) else none) := by
        funext i
        by_cases hi : i < n
        · rw [if_pos hi, if_pos hi, hrf i hi]
          show some (zAdR ad cn q base n r (base + i)) = _
          rw [a2 i hi]
        · rw [if_neg hi, if_neg hi]
      rw [key]
      rfl
    have hen2 : ∀ i, i < n → zEn (zWm B (zAdR ad cn q base n r) (cn :: ((List.range n).map (fun i => base + i) ++ ls))) M (base + i) = .inl (B.2.1 rkk, (mm, .inl (fun _ => 0))) := fun i hi => by
      rw [zEn_arr (hrow i hi) hrk.1 hrk.2]
      have : M (base + i) = fun _ => 0 := funext (hz i hi)
      rw [this]
      rfl
    have hmem : ∀ b, b ∈ cn :: ((List.range n).map (fun i => base + i) ++ ls) → b = cn ∨ (∃ i, i < n ∧ b = base + i) ∨ b ∈ ls := by
      intro b hb
      rcases List.mem_cons.mp hb with rfl | hb
      · exact Or.inl rfl
      · rcases List.mem_append.mp hb with hb | hb
        · obtain ⟨i, hi, rfl⟩ := List.mem_map.mp hb
          exact Or.inr (Or.inl ⟨i, List.mem_range.mp hi, rfl⟩)
        · exact Or.inr (Or.inr hb)
    have w1 : (q, (.inl (B.2.1 (zAk k), n, .inr (.inr (.inr (.inr (fun i => if i < n then some (r i) else none))))) : va_E)) ∈ ((zWl (zWm B ad ls) M ++ ex) ++ [(q, .inl (B.2.1 (zAk k), n, .inr (.inr (.inr (.inr (fun i => if i < n then some (r i) else none))))))]) ++ (List.range n).map (fun i => (r i, (.inl (B.2.1 rkk, (mm, .inl (fun _ => 0))) : va_E))) := List.mem_append_left _ (List.mem_append_right _ (List.mem_singleton.mpr rfl))
    have w2 : ∀ i, i < n → (r i, (.inl (B.2.1 rkk, (mm, .inl (fun _ => 0))) : va_E)) ∈ ((zWl (zWm B ad ls) M ++ ex) ++ [(q, .inl (B.2.1 (zAk k), n, .inr (.inr (.inr (.inr (fun i => if i < n then some (r i) else none))))))]) ++ (List.range n).map (fun i => (r i, (.inl (B.2.1 rkk, (mm, .inl (fun _ => 0))) : va_E))) := fun i hi => List.mem_append_right _ (List.mem_map.mpr ⟨i, List.mem_range.mpr hi, rfl⟩)
    have w3 : ∀ b ∈ ls, (ad b, zEn (zWm B ad ls) M b) ∈ zWl (zWm B ad ls) M := fun b hb => zWl_in (w := zWm B ad ls) (zCL_lt hcl hb).1 (zL_m.mpr hb)
    obtain ⟨d1, d2, d3, d4, d5⟩ := va_D_three hD1
    have rin : ∀ i, i < n → (r i, (.inl (B.2.1 rkk, (mm, .inl (fun _ => 0))) : va_E)) ∈ (List.range n).map (fun i => (r i, (.inl (B.2.1 rkk, (mm, .inl (fun _ => 0))) : va_E))) := fun i hi => List.mem_map.mpr ⟨i, List.mem_range.mpr hi, rfl⟩
    have old : ∀ x ∈ zWl (zWm B ad ls) M ++ ex, x.1 ≠ q ∧ ∀ i, i < n → x.1 ≠ r i := fun x hx => ⟨d1 x hx, fun i hi => d2 x hx _ (rin i hi)⟩
    have hqr : ∀ i, i < n → q ≠ r i := fun i hi => d3 _ (rin i hi)
    have hAq : A q := d4
    have hAr : ∀ i, i < n → A (r i) := fun i hi => d5 _ (rin i hi)
    refine h q r H1 locs lsl (va_P_mem hP1 (fun x hx => ?_)) ⟨fun b b' hb hb' he => ?_, fun b x hb hx => ?_, hD.2.2.1, fun b hb => ?_, hD.2.2.2.2⟩ hS1 hL
    · rcases List.mem_append.mp hx with hx | hx
      · obtain ⟨b, hb, hl, rfl⟩ := zWl_mem hx
        rcases hmem b (zL_m.mp hl) with rfl | ⟨i, hi, rfl⟩ | hb'
        · rw [hen1]
          show (zAdR ad b q base n r b, _) ∈ _
          rw [a1]
          exact w1
        · rw [hen2 i hi]
          show (zAdR ad cn q base n r (base + i), _) ∈ _
          rw [a2 i hi]
          exact w2 i hi
        · rw [zEn_keep (ls := ls) (ad := ad) hcl a3 hb']
          show (zAdR ad cn q base n r b, _) ∈ _
          rw [a3 b hb']
          exact List.mem_append_left _ (List.mem_append_left _ (List.mem_append_left _ (w3 b hb')))
      · exact List.mem_append_left _ (List.mem_append_left _ (List.mem_append_right _ hx))
    · have o1 : ∀ d ∈ ls, ad d ≠ q ∧ ∀ i, i < n → ad d ≠ r i := fun d hd => old _ (List.mem_append_left _ (w3 d hd))
      rcases hmem b hb with rfl | ⟨i, hi, rfl⟩ | g1 <;> rcases hmem b' hb' with rfl | ⟨j, hj, rfl⟩ | g2
      · rfl
      · rw [a1, a2 j hj] at he; exact absurd he (hqr j hj)
      · rw [a1, a3 b' g2] at he; exact absurd he.symm (o1 b' g2).1
      · rw [a1, a2 i hi] at he; exact absurd he.symm (hqr i hi)
      · rw [a2 i hi, a2 j hj] at he; rw [hinj i j hi hj he]
      · rw [a2 i hi, a3 b' g2] at he; exact absurd he.symm ((o1 b' g2).2 i hi)
      · rw [a3 b g1, a1] at he; exact absurd he (o1 b g1).1
      · rw [a3 b g1, a2 j hj] at he; exact absurd he ((o1 b g1).2 j hj)
      · rw [a3 b g1, a3 b' g2] at he; exact hD.1 b b' g1 g2 he
    · have o1 := old x (List.mem_append_right _ hx)
      rcases hmem b hb with rfl | ⟨i, hi, rfl⟩ | g1
      · rw [a1]; exact fun he => o1.1 he.symm
      · rw [a2 i hi]; exact fun he => o1.2 i hi he.symm
      · rw [a3 b g1]; exact hD.2.1 b x g1 hx
    · rcases hmem b hb with rfl | ⟨i, hi, rfl⟩ | g1
      · rw [a1]; exact hAq
      · rw [a2 i hi]; exact hAr i hi
      · rw [a3 b g1]; exact hD.2.2.2.1 b g1
end ZX6
