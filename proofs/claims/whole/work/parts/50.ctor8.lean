section ZX8
variable {p : Program} {l : Launch} {e : Env} {R : Room} {s : State} {m : MethodId} {args : Array Value} {below : List Frame} {meth : Method} {c : Code} {B : zBs} {A : Nat → Prop} {cs ss : Nat} {Q : State → Prop} {own : String} {cc : ByteArray} {nL : Nat} {ret : Option FieldType} {ad : Nat → Nat} {ls : List Nat} {ex : va_W} {pc : Nat} {lv : List (Option Value)} {st : List Value} {M : zMem}
theorem rx_iast (Y : zCy p s m args meth c B A own cc nL ret) {cn n j : Nat} {i x : Int32} (hkd : zKd0 cn = (12, n)) (hc : cn ∈ ls) (hin : zIn i n) (hj : zIx i = j) (d : decode cc pc = .ok (.iastore, 1)) (h : zRx p l e R s m args below meth c B A Q cs ss ad ls ex (pc + 1) lv st (zUp M cn j x)) : zRx p l e R s m args below meth c B A Q cs ss ad ls ex pc lv (.int x :: .int i :: .ref (ad cn) :: st) M := by
  intro H locs lsl hP hD hS hL
  subst hj
  have hKK := Y.2.2.2.2.2.2.2.1
  have hK : va_K B.1 vwCl (zTys (zWm B ad ls)) s := hKK.1
  obtain ⟨pk, hpk⟩ := zLi_mem (w := zWm B ad ls) (zKd0_lt hkd (by omega)) (zL_m.mpr hc)
  have hlt : pk < (zWl (zWm B ad ls) M).length := by rw [zWl, List.length_map]; exact (List.getElem?_eq_some_iff.mp hpk).1
  refine va_iast Y.1 Y.2.1 hK hP hD.D hS pk 1 (by rw [List.getElem?_append_left hlt, zWl_get _ M hpk, zEn_arr hkd (by omega) (by omega)]; rfl) rfl (zIn_vp hin) d (fun H1 locs1 hP1 _ hS1 => ?_)
  rw [List.set_append_left _ _ hlt] at hP1
  have e1 := zArr_set (w := zWm B ad ls) (M := M) (j := zIx i) (x := x) hpk hkd (by omega) (by omega)
  have hP2 : va_P B.1 vwCl (zWl (zWm B ad ls) (zUp M cn (zIx i) x) ++ ex) H1 := by rw [← e1]; exact hP1
  exact h H1 locs1 lsl hP2 hD hS1 hL
theorem rx_zast (Y : zCy p s m args meth c B A own cc nL ret) {cn n j : Nat} {i x : Int32} (hkd : zKd0 cn = (13, n)) (hc : cn ∈ ls) (hin : zIn i n) (hj : zIx i = j) (hx : zOk 2 x) (d : decode cc pc = .ok (.bastore, 1)) (h : zRx p l e R s m args below meth c B A Q cs ss ad ls ex (pc + 1) lv st (zUp M cn j x)) : zRx p l e R s m args below meth c B A Q cs ss ad ls ex pc lv (.int x :: .int i :: .ref (ad cn) :: st) M := by
  intro H locs lsl hP hD hS hL
  subst hj
  have hKK := Y.2.2.2.2.2.2.2.1
  have hK : va_K B.1 vwCl (zTys (zWm B ad ls)) s := hKK.1
  obtain ⟨pk, hpk⟩ := zLi_mem (w := zWm B ad ls) (zKd0_lt hkd (by omega)) (zL_m.mpr hc)
  have hlt : pk < (zWl (zWm B ad ls) M).length := by rw [zWl, List.length_map]; exact (List.getElem?_eq_some_iff.mp hpk).1
  refine va_zast Y.1 Y.2.1 hK hP hD.D hS pk 2 (by rw [List.getElem?_append_left hlt, zWl_get _ M hpk, zEn_arr hkd (by omega) (by omega)]; rfl) rfl (zIn_vp hin) d (fun H1 locs1 hP1 _ hS1 => ?_)
  rw [List.set_append_left _ _ hlt, zNar_b hx] at hP1
  have e1 := zArr_set (w := zWm B ad ls) (M := M) (j := zIx i) (x := x) hpk hkd (by omega) (by omega)
  have hP2 : va_P B.1 vwCl (zWl (zWm B ad ls) (zUp M cn (zIx i) x) ++ ex) H1 := by rw [← e1]; exact hP1
  exact h H1 locs1 lsl hP2 hD hS1 hL
end ZX8
theorem zhzN {M : zMem} {c0 k : Nat} {v : Int32} {c : Nat} (hc : c ≠ c0) (h : ∀ i, M c i = 0) : ∀ i, zUp M c0 k v c i = 0 := fun i => by
  rw [zUp_off hc]
  exact h i
