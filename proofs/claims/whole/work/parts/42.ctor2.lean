section ZX2
variable {p : Program} {l : Launch} {e : Env} {R : Room} {s : State} {m : MethodId} {args : Array Value} {below : List Frame} {meth : Method} {c : Code} {B : zBs} {A : Nat → Prop} {cs ss : Nat} {Q : State → Prop} {own : String} {cc : ByteArray} {nL : Nat} {ret : Option FieldType} {ad : Nat → Nat} {ls : List Nat} {ex : va_W} {pc : Nat} {lv : List (Option Value)} {st : List Value} {M : zMem}
theorem zDx_ex {ad : Nat → Nat} {ls : List Nat} {A : Nat → Prop} {ex : va_W} {M : zMem} {q : Nat} {x : va_E} (h : zDx ad ls A ex) (hcl : zCL ls = true) (hD : va_D A ((zWl (zWm B ad ls) M ++ ex) ++ [(q, x)])) : zDx ad ls A (ex ++ [(q, x)]) := by
  obtain ⟨h1, h2, h3, h4, h5⟩ := h
  obtain ⟨d1, d2⟩ := va_D_last hD
  refine ⟨h1, fun b y hb hy => ?_, ?_, h4, fun y hy => ?_⟩
  · rcases List.mem_append.mp hy with hy | hy
    · exact h2 b y hb hy
    · rw [List.mem_singleton.mp hy]
      exact d1 (ad b, zEn (zWm B ad ls) M b) (List.mem_append_left _ (zWl_in (w := zWm B ad ls) (zCL_lt hcl hb).1 (zL_m.mpr hb)))
  · rw [List.map_append, List.nodup_append]
    refine ⟨h3, by simp, fun a ha b hb hab => ?_⟩
    obtain ⟨y, hy, rfl⟩ := List.mem_map.mp ha
    have hb : b = q := by simpa using hb
    exact d1 y (List.mem_append_right _ hy) (hab.trans hb)
  · rcases List.mem_append.mp hy with hy | hy
    · exact h5 y hy
    · rw [List.mem_singleton.mp hy]; exact d2
theorem rx_new (Y : zCy p s m args meth c B A own cc nL ret) {ci N idx : Nat} {C : String} {T : u_T} {ty : Nat → FieldType} (Bc : zCl ci N C T ty) (L1 : Cond.classLink own idx C ∈ zW) (L2 : Cond.instantiable C N ∈ zW) (L3 : Cond.initialized C ∈ zW) (hcl : zCL ls = true) (fs : List Value) (hfs : ∀ j, j < N → defaultValue (ty j) = vp_V fs j) (hcs : cs + 1 ≤ R.cells) (hss : ss + N ≤ R.slots) (d : decode cc pc = .ok (.new idx, 3)) (h : ∀ q, zRx p l e R s m args below meth c B A Q (cs + 1) (ss + N) ad ls (ex ++ [(q, .inr (ci, fs))]) (pc + 3) lv (.ref q :: st) M) : zRx p l e R s m args below meth c B A Q cs ss ad ls ex pc lv st M := by
  intro H locs lsl hP hD hS hL
  have hKK := Y.2.2.2.2.2.2.2.1
  have hK : va_K B.1 vwCl (zTys (zWm B ad ls)) s := hKK.1
  refine va_new (fs := fs) Y.1 Y.2.1 Y.2.2.2.2.1 Bc.2.2.2.2 ty Bc.2.2.1 Y.2.2.2.1 (Y.2.2.2.2.1 _ L1) (Y.2.2.2.2.1 _ L2) (Y.2.2.2.2.1 _ L3) hK hP hD.D hS Y.2.2.2.2.2.2.2.2.1 Bc.1 hfs hcs hss d (fun q H1 hP1 hD1 hS1 => ?_)
  exact h q H1 locs lsl (by rw [← List.append_assoc]; exact hP1) (zDx_ex hD hcl hD1) hS1 hL
theorem zEx_get {W0 : va_W} {x : Nat × va_E} {tl : va_W} : (W0 ++ x :: tl)[W0.length]? = some x := by simp
theorem zEx_set {W0 : va_W} {x y : Nat × va_E} {tl : va_W} : (W0 ++ x :: tl).set W0.length y = W0 ++ y :: tl := by simp
theorem zDx_set {ad : Nat → Nat} {ls : List Nat} {A : Nat → Prop} {a : Nat} {x y : va_E} {tl : va_W} (h : zDx ad ls A ((a, x) :: tl)) : zDx ad ls A ((a, y) :: tl) := by
  obtain ⟨h1, h2, h3, h4, h5⟩ := h
  refine ⟨h1, fun b z hb hz => ?_, h3, h4, fun z hz => ?_⟩
  · rcases List.mem_cons.mp hz with rfl | hz
    · exact h2 b (a, x) hb List.mem_cons_self
    · exact h2 b z hb (List.mem_cons_of_mem _ hz)
  · rcases List.mem_cons.mp hz with rfl | hz
    · exact h5 (a, x) List.mem_cons_self
    · exact h5 z (List.mem_cons_of_mem _ hz)
/-- a field of the object that is being made (a final one) -/
theorem rx_putF (Y : zCy p s m args meth c B A own cc nL ret) {ci N k a idx : Nat} {C : String} {T : u_T} {ty : Nat → FieldType} {fs fs' : List Value} {v : Value} {tl : va_W} (Bc : zCl ci N C T ty) (hk : k < N) (L : Cond.fieldLink own idx (T k).1 (T k).2.1 (T k).2.2.1 ∈ zW) (hfin : (T k).2.2.2 = true) (hin : meth.name = "<init>") (hdecl : (T k).1 = own) (hn : narrow (ty k) v = v) (hfit : fits (ty k) v = true) (hl : k < fs.length) (hfs : fs.set k v = fs') (d : decode cc pc = .ok (.putfield idx, 3)) (h : zRx p l e R s m args below meth c B A Q cs ss ad ls ((a, .inr (ci, fs')) :: tl) (pc + 3) lv st M) : zRx p l e R s m args below meth c B A Q cs ss ad ls ((a, .inr (ci, fs)) :: tl) pc lv (v :: .ref a :: st) M := by
  intro H locs lsl hP hD hS hL
  subst hfs
  have hKK := Y.2.2.2.2.2.2.2.1
  have hK : va_K B.1 vwCl (zTys (zWm B ad ls)) s := hKK.1
  refine va_putF Y.1 Y.2.1 Y.2.2.2.2.1 Bc.2.2.2.2 ty Bc.2.2.1 Bc.2.2.2.1 Y.2.2.2.1 hK hP hD.D hS _ zEx_get Bc.1 k hk (Y.2.2.2.2.1 _ L) (fun _ q => q) hfin hin hdecl (Bc.2.2.1 k hk) hn hfit hl d (fun H1 locs1 hP1 _ hS1 => ?_)
  rw [zEx_set] at hP1
  exact h H1 locs1 lsl hP1 (zDx_set hD) hS1 hL
theorem rx_putV (Y : zCy p s m args meth c B A own cc nL ret) {ci N k a idx : Nat} {C : String} {T : u_T} {ty : Nat → FieldType} {fs fs' : List Value} {v : Value} {tl : va_W} (Bc : zCl ci N C T ty) (hk : k < N) (L : Cond.fieldLink own idx (T k).1 (T k).2.1 (T k).2.2.1 ∈ zW) (hfin : (T k).2.2.2 = false) (hn : narrow (ty k) v = v) (hfit : fits (ty k) v = true) (hl : k < fs.length) (hfs : fs.set k v = fs') (d : decode cc pc = .ok (.putfield idx, 3)) (h : zRx p l e R s m args below meth c B A Q cs ss ad ls ((a, .inr (ci, fs')) :: tl) (pc + 3) lv st M) : zRx p l e R s m args below meth c B A Q cs ss ad ls ((a, .inr (ci, fs)) :: tl) pc lv (v :: .ref a :: st) M := by
  intro H locs lsl hP hD hS hL
  subst hfs
  have hKK := Y.2.2.2.2.2.2.2.1
  have hK : va_K B.1 vwCl (zTys (zWm B ad ls)) s := hKK.1
  refine va_put Y.1 Y.2.1 Y.2.2.2.2.1 Bc.2.2.2.2 ty Bc.2.2.1 Bc.2.2.2.1 Y.2.2.2.1 hK hP hD.D hS _ zEx_get Bc.1 k hk (Y.2.2.2.2.1 _ L) (fun _ q => q) hfin (Bc.2.2.1 k hk) hn hfit hl d (fun H1 locs1 hP1 _ hS1 => ?_)
  rw [zEx_set] at hP1
  exact h H1 locs1 lsl hP1 (zDx_set hD) hS1 hL
theorem rx_get (Y : zCy p s m args meth c B A own cc nL ret) {ci N k a idx : Nat} {C : String} {T : u_T} {ty : Nat → FieldType} {fs : List Value} {v : Value} {tl : va_W} (Bc : zCl ci N C T ty) (hk : k < N) (L : Cond.fieldLink own idx (T k).1 (T k).2.1 (T k).2.2.1 ∈ zW) (hv : fs[k]? = some v) (d : decode cc pc = .ok (.getfield idx, 3)) (h : zRx p l e R s m args below meth c B A Q cs ss ad ls ((a, .inr (ci, fs)) :: tl) (pc + 3) lv (v :: st) M) : zRx p l e R s m args below meth c B A Q cs ss ad ls ((a, .inr (ci, fs)) :: tl) pc lv (.ref a :: st) M := by
  intro H locs lsl hP hD hS hL
  have hKK := Y.2.2.2.2.2.2.2.1
  have hK : va_K B.1 vwCl (zTys (zWm B ad ls)) s := hKK.1
  exact va_get Y.1 Y.2.1 Y.2.2.2.2.1 Bc.2.2.2.2 Y.2.2.2.1 hK hP _ zEx_get Bc.1 k hk (Y.2.2.2.2.1 _ L) (fun _ q => q) hv d (h H locs lsl hP hD hS hL)
/-- the object is complete: it goes into the world -/
theorem rx_done {ci N o a : Nat} {fs : List Value} {tl : va_W} (hkd : zKd0 o = (ci, N)) (hci : ci < 11) (hcl : zCL ls = true) (ho : o ∉ ls) (hfs : (List.range N).map (fun i => zFv (zWm B (zAd ad o a) (o :: ls)) M ci o i) = fs) (h : zRx p l e R s m args below meth c B A Q cs ss (zAd ad o a) (o :: ls) tl pc lv st M) : zRx p l e R s m args below meth c B A Q cs ss ad ls ((a, .inr (ci, fs)) :: tl) pc lv st M := by
  intro H locs lsl hP hD hS hL
  have he : zEn (zWm B (zAd ad o a) (o :: ls)) M o = .inr (ci, fs) := by rw [zEn_obj hkd hci, hfs]
  have hP2 : va_P B.1 vwCl ((zWl (zWm B ad ls) M ++ tl) ++ [(a, .inr (ci, fs))]) H := va_P_mem hP (fun x hx => by
    simp only [List.mem_append, List.mem_cons, List.not_mem_nil, or_false] at hx ⊢
    rcases hx with (hx | hx) | hx
    · exact Or.inl hx
    · exact Or.inr (Or.inr hx)
    · exact Or.inr (Or.inl hx))
  obtain ⟨h1, h2, h3, h4, h5⟩ := hD
  have hne : ∀ b ∈ ls, b ≠ o := fun b hb q => ho (q ▸ hb)
  have hn3 := List.nodup_cons.mp (by simpa using h3 : (a :: tl.map Prod.fst).Nodup)
  refine h H locs lsl (zP_add hcl ho he hP2) ⟨fun x y hx hy hxy => ?_, fun b x hb hx => ?_, hn3.2, fun b hb => ?_, fun x hx => h5 x (List.mem_cons_of_mem _ hx)⟩ hS hL
  · rcases List.mem_cons.mp hx with rfl | hx' <;> rcases List.mem_cons.mp hy with rfl | hy'
    · rfl
    · rw [zAd_s, zAd_n (hne y hy')] at hxy
      exact absurd hxy.symm (h2 y _ hy' List.mem_cons_self)
    · rw [zAd_s, zAd_n (hne x hx')] at hxy
      exact absurd hxy (h2 x _ hx' List.mem_cons_self)
    · rw [zAd_n (hne x hx'), zAd_n (hne y hy')] at hxy
      exact h1 x y hx' hy' hxy
  · rcases List.mem_cons.mp hb with rfl | hb'
    · rw [zAd_s]
      exact fun q => hn3.1 (by rw [q]; exact List.mem_map.mpr ⟨x, hx, rfl⟩)
    · rw [zAd_n (hne b hb')]
      exact h2 b x hb' (List.mem_cons_of_mem _ hx)
  · rcases List.mem_cons.mp hb with rfl | hb'
    · rw [zAd_s]; exact h5 _ List.mem_cons_self
    · rw [zAd_n (hne b hb')]; exact h4 b hb'
/-- from a constructor's walk into an ordinary one -/
theorem rx_re {Qe : Int32 → zMem → State → Prop} {t : zTr} {r : Int32} {M' : zMem} (ht : t = some (r, M')) (h : zRe p l e R s m args below meth c (zWm B ad ls) A cs ss Qe pc lv st M t) (hQ : Qe r M' = Q) : zRx p l e R s m args below meth c B A Q cs ss ad ls [] pc lv st M := by
  intro H locs lsl hP hD hS hL
  rw [List.append_nil] at hP
  rw [← hQ]
  exact h r M' ht H locs lsl hP hS hL
theorem zCy.X (Y : zCy p s m args meth c B A own cc nL ret) (hD : zDx ad ls A ex) (hcl : zCL ls = true) : zCx p s m args meth c (zWm B ad ls) A own cc nL ret := by
  refine ⟨Y.1, Y.2.1, Y.2.2.1, Y.2.2.2.1, Y.2.2.2.2.1, Y.2.2.2.2.2.1, Y.2.2.2.2.2.2.1, zKb_up Y.2.2.2.2.2.2.2.1 hD hcl, fun q hq => ?_⟩
  obtain ⟨b, -, hb, rfl⟩ := hq
  exact hD.2.2.2.1 b (zL_m.mp hb)
end ZX2
