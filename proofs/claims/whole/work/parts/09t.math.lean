section ZM
variable {p : Program} {l : Launch} {e : Env} {R : Room} {s : State} {m : MethodId} {args : Array Value} {below : List Frame} {meth : Method} {c : Code} {w : zWD} {A : Nat → Prop} {cs ss : Nat} {Qe : Int32 → zMem → State → Prop} {own : String} {cc : ByteArray} {nL : Nat} {ret : Option FieldType} {pc : Nat} {lv : List (Option Value)} {st : List Value} {M : zMem} {t : zTr}
abbrev zMax (x y : Int32) : Int32 := if x < y then y else x
abbrev zMin (x y : Int32) : Int32 := if y < x then y else x
theorem cd_mmax : Cond.code Lib.Math.max.name Lib.Math.max.code 2 (some .int) ∈ zW := zW_of 791 (by decide +kernel) rfl
theorem cd_mmin : Cond.code Lib.Math.min.name Lib.Math.min.code 2 (some .int) ∈ zW := zW_of 959 (by decide +kernel) rfl
theorem re_mmax (X : zCx p s m args meth c w A own cc nL ret) {idx : Nat} {x y : Int32} (L : Cond.methodLink own idx yJ9_max_7cf53 ∈ zW) (h1 : 1 ≤ R.frames) (hlen : lv.length = nL) (h2 : (st.map fun v => v.category).sum + 13 ≤ R.locals) (hcs : cs ≤ R.cells ∧ ss ≤ R.slots) (d : decode cc pc = .ok (.invokestatic idx, 3)) (h : zRe p l e R s m args below meth c w A cs ss Qe (pc + 3) lv (.int (zMax x y) :: st) M t) : zRe p l e R s m args below meth c w A cs ss Qe pc lv (.int y :: .int x :: st) M t :=
  fun r M' ht H locs ls hR hS hL => va_mmax X.1 X.2.1 (X.2.2.1.trans (hlen.symm.trans hL.1.symm)) X.ow (X.ts _ L) (X.ts _ sm_J9_max_7cf53) (X.ts _ iz_RJ9) (X.ts _ cd_mmax) h1 h2 hcs.1 hcs.2 d (h r M' ht H locs ls hR hS hL)
theorem re_mmin (X : zCx p s m args meth c w A own cc nL ret) {idx : Nat} {x y : Int32} (L : Cond.methodLink own idx yJ9_min_7cf53 ∈ zW) (h1 : 1 ≤ R.frames) (hlen : lv.length = nL) (h2 : (st.map fun v => v.category).sum + 13 ≤ R.locals) (hcs : cs ≤ R.cells ∧ ss ≤ R.slots) (d : decode cc pc = .ok (.invokestatic idx, 3)) (h : zRe p l e R s m args below meth c w A cs ss Qe (pc + 3) lv (.int (zMin x y) :: st) M t) : zRe p l e R s m args below meth c w A cs ss Qe pc lv (.int y :: .int x :: st) M t :=
  fun r M' ht H locs ls hR hS hL => va_mmin X.1 X.2.1 (X.2.2.1.trans (hlen.symm.trans hL.1.symm)) X.ow (X.ts _ L) (X.ts _ sm_J9_min_7cf53) (X.ts _ iz_RJ9) (X.ts _ cd_mmin) h1 h2 hcs.1 hcs.2 d (h r M' ht H locs ls hR hS hL)
theorem re_ldcwS (X : zCx p s m args meth c w A own cc nL ret) {i k : Nat} {tx : String} (hc : (own, i, tx, k) ∈ zSt) (d : decode cc pc = .ok (.ldc_w i, 3)) (h : zRe p l e R s m args below meth c w A cs ss Qe (pc + 3) lv (.ref (zK w k) :: st) M t) : zRe p l e R s m args below meth c w A cs ss Qe pc lv st M t := by
  intro r M' ht H locs ls hR hS hL T hT Y
  obtain ⟨t2, a1, b1⟩ := h r M' ht H locs ls hR hS hL T hT Y
  have hZ := X.kk.st _ hc
  exact ⟨t2, Jvm.Stand.ldcStringW Y X.1 X.ow (text := tx) (a := zK w k) hZ.1 hZ.2 (g := F0 m pc ls st) rfl (by rw [X.2.1]; exact d) t2 a1, b1⟩
end ZM
