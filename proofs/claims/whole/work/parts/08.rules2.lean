section ZR2
variable {p : Program} {l : Launch} {e : Env} {R : Room} {s : State} {m : MethodId} {args : Array Value} {below : List Frame} {meth : Method} {c : Code} {w : zWD} {A : Nat → Prop} {cs ss : Nat} {Qe : Int32 → zMem → State → Prop} {own : String} {cc : ByteArray} {nL : Nat} {ret : Option FieldType} {pc : Nat} {lv lv' : List (Option Value)} {st : List Value} {M : zMem} {t u : zTr} {f : zMem → zTr}
theorem zEn_obj {k n o : Nat} (ho : zKd0 o = (k, n)) (hk : k < 11) : zEn w M o = .inr (k, (List.range n).map (fun i => zFv w M k o i)) := by
  simp only [zEn, ho, if_pos hk]
theorem zEn_arr {k n o : Nat} (ho : zKd0 o = (k, n)) (h1 : 11 ≤ k) (h2 : k < 14) : zEn w M o = .inl (zC w k, n, .inl (M o)) := by
  simp only [zEn, ho, if_neg (show ¬ k < 11 by omega), if_pos h2]
theorem zEn_rows {k n o : Nat} (ho : zKd0 o = (k, n)) (h1 : 14 ≤ k) : zEn w M o = .inl (zC w (zAk k), n, .inr (.inr (.inr (.inr (fun i => if i < n then some (zA w (zRf o i)) else none))))) := by
  simp only [zEn, ho, if_neg (show ¬ k < 11 by omega), if_neg (show ¬ k < 14 by omega)]
theorem zFv_int {k o i : Nat} (h : zFr k i = false) : zFv w M k o i = .int (M o i) := by simp [zFv, h]
theorem zFv_ref {k o i : Nat} (h : zFr k i = true) : zFv w M k o i = .ref (zA w (zRf o i)) := by simp [zFv, h]
theorem zIn_vp {i : Int32} {n : Nat} (h : zIn i n) : vp_in i n := vp_in_iff.mpr h
/-- a class of the system, by its number -/
def zCl (ci N : Nat) (C : String) (T : u_T) (ty : Nat → FieldType) : Prop := vwCl[ci]? = some (C, T, N) ∧ ci < 11 ∧ (∀ k, k < N → parseFieldDescriptor (T k).2.2.1 = some (ty k)) ∧ (∀ a, a < N → ∀ b, b < N → a ≠ b → (T a).2.1 ≠ (T b).2.1) ∧ ∀ w ∈ u_ws C T N, w ∈ zW
theorem re_getV (X : zCx p s m args meth c w A own cc nL ret) {ci N k o idx : Nat} {C : String} {T : u_T} {ty : Nat → FieldType} (B : zCl ci N C T ty) (hk : k < N) (L : Cond.fieldLink own idx (T k).1 (T k).2.1 (T k).2.2.1 ∈ zW) (ho : zKd w o = (ci, N)) {v : Value} (hv : zFv w M ci o k = v) (d : decode cc pc = .ok (.getfield idx, 3)) (h : zRe p l e R s m args below meth c w A cs ss Qe (pc + 3) lv (v :: st) M t) : zRe p l e R s m args below meth c w A cs ss Qe pc lv (.ref (zA w o) :: st) M t := by
  intro r M' ht H locs ls hR hS hL
  obtain ⟨hx, hb, -, hown, hts, -, -, hKK, hsub⟩ := id X
  obtain ⟨b1, b2, b3, b4, b5⟩ := B
  obtain ⟨hlv, ho0⟩ := zKd_live ho (by omega)
  obtain ⟨pk, hpk⟩ := zLi_mem (zKd0_lt ho0 (by omega)) hlv
  refine va_get hx hb hts b5 hown hKK.1 hR pk (by rw [zWl_get w M hpk, zEn_obj ho0 b2]) b1 k hk (hts _ L) (fun _ q => q) (v := v) ?_ d (h r M' ht H locs ls hR hS hL)
  rw [List.getElem?_map, List.getElem?_range hk, ← hv]
  rfl
theorem re_getI (X : zCx p s m args meth c w A own cc nL ret) {ci N k o idx : Nat} {C : String} {T : u_T} {ty : Nat → FieldType} (B : zCl ci N C T ty) (hk : k < N) (L : Cond.fieldLink own idx (T k).1 (T k).2.1 (T k).2.2.1 ∈ zW) (ho : zKd w o = (ci, N)) (hf : zFr ci k = false) (d : decode cc pc = .ok (.getfield idx, 3)) (h : zRe p l e R s m args below meth c w A cs ss Qe (pc + 3) lv (.int (M o k) :: st) M t) : zRe p l e R s m args below meth c w A cs ss Qe pc lv (.ref (zA w o) :: st) M t :=
  re_getV X B hk L ho (zFv_int hf) d h
theorem re_getR (X : zCx p s m args meth c w A own cc nL ret) {ci N k o idx b : Nat} {C : String} {T : u_T} {ty : Nat → FieldType} (B : zCl ci N C T ty) (hk : k < N) (L : Cond.fieldLink own idx (T k).1 (T k).2.1 (T k).2.2.1 ∈ zW) (ho : zKd w o = (ci, N)) (hf : zFr ci k = true) (hb : zRf o k = b) (d : decode cc pc = .ok (.getfield idx, 3)) (h : zRe p l e R s m args below meth c w A cs ss Qe (pc + 3) lv (.ref (zA w b) :: st) M t) : zRe p l e R s m args below meth c w A cs ss Qe pc lv (.ref (zA w o) :: st) M t :=
  re_getV X B hk L ho ((zFv_ref hf).trans (by rw [hb])) d h
theorem zB_ok {x : Int32} (h : zOk 2 x) : narrow .boolean (.int x) = .int x ∧ fits .boolean (.int x) = true := by
  rcases h with rfl | rfl
  · exact ⟨by decide +kernel, by decide +kernel⟩
  · exact ⟨by decide +kernel, by decide +kernel⟩
theorem re_putV (X : zCx p s m args meth c w A own cc nL ret) {ci N k o idx : Nat} {C : String} {T : u_T} {ty : Nat → FieldType} (B : zCl ci N C T ty) (hk : k < N) (L : Cond.fieldLink own idx (T k).1 (T k).2.1 (T k).2.2.1 ∈ zW) (ho : zKd w o = (ci, N)) (hf : zFr ci k = false) (hfin : (T k).2.2.2 = false) {x : Int32} (hn : narrow (ty k) (.int x) = .int x) (hfit : fits (ty k) (.int x) = true) (d : decode cc pc = .ok (.putfield idx, 3)) (h : ∀ M1, zRe p l e R s m args below meth c w A cs ss Qe (pc + 3) lv st M1 (f M1)) : zRe p l e R s m args below meth c w A cs ss Qe pc lv (.int x :: .ref (zA w o) :: st) M (zLt (zUp M o k x) f) := by
  intro r M' ht H locs ls hR hS hL
  obtain ⟨hx, hb, -, hown, hts, -, -, hKK, hsub⟩ := id X
  obtain ⟨b1, b2, b3, b4, b5⟩ := B
  obtain ⟨hlv, ho0⟩ := zKd_live ho (by omega)
  obtain ⟨pk, hpk⟩ := zLi_mem (zKd0_lt ho0 (by omega)) hlv
  refine va_put hx hb hts b5 ty b3 b4 hown hKK.1 hR (hKK.D hsub M) hS pk (by rw [zWl_get w M hpk, zEn_obj ho0 b2]) b1 k hk (hts _ L) (fun _ q => q) hfin (b3 k hk) hn hfit (by simpa using hk) d (fun H1 locs1 hP1 _ hS1 => ?_)
  rw [zWl_set w M (zUp M o k x) hpk ?_ (fun b hb => zUp_off hb)] at hP1
  · exact h (zUp M o k x) r M' ht H1 locs1 ls hP1 hS1 hL
  · rw [zEn_obj ho0 b2]
    refine congrArg (fun z => (Sum.inr (ci, z) : va_E)) ?_
    apply List.ext_getElem?
    intro i
    rw [List.getElem?_map]
    by_cases hi : i = k
    · subst hi
      rw [List.getElem?_set_self (by simpa using hk), List.getElem?_range hk]
      simp [zFv, hf, zUp]
    · rw [List.getElem?_set_ne (Ne.symm hi), List.getElem?_map]
      by_cases hl : i < N
      · rw [List.getElem?_range hl]
        simp [zFv, zUp, hi]
      · rw [List.getElem?_eq_none (by simpa using hl)]
        rfl
theorem re_putI (X : zCx p s m args meth c w A own cc nL ret) {ci N k o idx : Nat} {C : String} {T : u_T} {ty : Nat → FieldType} (B : zCl ci N C T ty) (hk : k < N) (L : Cond.fieldLink own idx (T k).1 (T k).2.1 (T k).2.2.1 ∈ zW) (ho : zKd w o = (ci, N)) (hf : zFr ci k = false) (hfin : (T k).2.2.2 = false) (hty : ty k = .int) {x : Int32} (d : decode cc pc = .ok (.putfield idx, 3)) (h : ∀ M1, zRe p l e R s m args below meth c w A cs ss Qe (pc + 3) lv st M1 (f M1)) : zRe p l e R s m args below meth c w A cs ss Qe pc lv (.int x :: .ref (zA w o) :: st) M (zLt (zUp M o k x) f) :=
  re_putV X B hk L ho hf hfin (by rw [hty]; rfl) (by rw [hty]; rfl) d h
theorem re_putZ (X : zCx p s m args meth c w A own cc nL ret) {ci N k o idx : Nat} {C : String} {T : u_T} {ty : Nat → FieldType} (B : zCl ci N C T ty) (hk : k < N) (L : Cond.fieldLink own idx (T k).1 (T k).2.1 (T k).2.2.1 ∈ zW) (ho : zKd w o = (ci, N)) (hf : zFr ci k = false) (hfin : (T k).2.2.2 = false) (hty : ty k = .boolean) {x : Int32} (hz : zOk 2 x) (d : decode cc pc = .ok (.putfield idx, 3)) (h : ∀ M1, zRe p l e R s m args below meth c w A cs ss Qe (pc + 3) lv st M1 (f M1)) : zRe p l e R s m args below meth c w A cs ss Qe pc lv (.int x :: .ref (zA w o) :: st) M (zLt (zUp M o k x) f) :=
  re_putV X B hk L ho hf hfin (by rw [hty]; exact (zB_ok hz).1) (by rw [hty]; exact (zB_ok hz).2) d h
/-! arrays -/
theorem re_iald (X : zCx p s m args meth c w A own cc nL ret) {n q : Nat} {i : Int32} {j : Nat} (hq : zKd w q = (12, n)) (hin : zIn i n) (hj : zIx i = j) (d : decode cc pc = .ok (.iaload, 1)) (h : zRe p l e R s m args below meth c w A cs ss Qe (pc + 1) lv (.int (M q j) :: st) M t) : zRe p l e R s m args below meth c w A cs ss Qe pc lv (.int i :: .ref (zA w q) :: st) M t := by
  subst hj
  intro r M' ht H locs ls hR hS hL
  obtain ⟨hlv, hq0⟩ := zKd_live hq (by omega)
  obtain ⟨pk, hpk⟩ := zLi_mem (zKd0_lt hq0 (by omega)) hlv
  exact va_iald X.1 X.2.1 X.kk.1 hR pk 1 (by rw [zWl_get w M hpk, zEn_arr hq0 (by omega) (by omega)]) rfl (zIn_vp hin) d (h r M' ht H locs ls hR hS hL)
theorem re_zald (X : zCx p s m args meth c w A own cc nL ret) {n q : Nat} {i : Int32} {j : Nat} (hq : zKd w q = (13, n)) (hin : zIn i n) (hj : zIx i = j) (d : decode cc pc = .ok (.baload, 1)) (h : zRe p l e R s m args below meth c w A cs ss Qe (pc + 1) lv (.int (M q j) :: st) M t) : zRe p l e R s m args below meth c w A cs ss Qe pc lv (.int i :: .ref (zA w q) :: st) M t := by
  subst hj
  intro r M' ht H locs ls hR hS hL
  obtain ⟨hlv, hq0⟩ := zKd_live hq (by omega)
  obtain ⟨pk, hpk⟩ := zLi_mem (zKd0_lt hq0 (by omega)) hlv
  exact va_zald X.1 X.2.1 X.kk.1 hR pk 2 (by rw [zWl_get w M hpk, zEn_arr hq0 (by omega) (by omega)]) rfl (zIn_vp hin) d (h r M' ht H locs ls hR hS hL)
theorem re_bald (X : zCx p s m args meth c w A own cc nL ret) {n q : Nat} {i : Int32} {j : Nat} (hq : zKd w q = (11, n)) (hin : zIn i n) (hj : zIx i = j) (d : decode cc pc = .ok (.baload, 1)) (h : zRe p l e R s m args below meth c w A cs ss Qe (pc + 1) lv (.int (M q j) :: st) M t) : zRe p l e R s m args below meth c w A cs ss Qe pc lv (.int i :: .ref (zA w q) :: st) M t := by
  subst hj
  intro r M' ht H locs ls hR hS hL
  obtain ⟨hlv, hq0⟩ := zKd_live hq (by omega)
  obtain ⟨pk, hpk⟩ := zLi_mem (zKd0_lt hq0 (by omega)) hlv
  exact va_bald X.1 X.2.1 X.kk.1 hR pk 0 (by rw [zWl_get w M hpk, zEn_arr hq0 (by omega) (by omega)]) rfl (zIn_vp hin) d (h r M' ht H locs ls hR hS hL)
theorem re_aald (X : zCx p s m args meth c w A own cc nL ret) {k n q : Nat} {i : Int32} {j b : Nat} (hq : zKd w q = (k, n)) (h1 : 14 ≤ k ∧ k < 21) (hin : zIn i n) (hj : zIx i = j) (hb : zRf q j = b) (d : decode cc pc = .ok (.aaload, 1)) (h : zRe p l e R s m args below meth c w A cs ss Qe (pc + 1) lv (.ref (zA w b) :: st) M t) : zRe p l e R s m args below meth c w A cs ss Qe pc lv (.int i :: .ref (zA w q) :: st) M t := by
  subst hj
  subst hb
  intro r M' ht H locs ls hR hS hL
  obtain ⟨hlv, hq0⟩ := zKd_live hq h1.2
  obtain ⟨pk, hpk⟩ := zLi_mem (zKd0_lt hq0 h1.2) hlv
  have hP := hR pk _ (zWl_get w M hpk)
  rw [zEn_rows hq0 h1.1] at hP
  have hP : H[zA w q]? = some (arrV (zC w (zAk k)) n (fun j => va_rf (if j < n then some (zA w (zRf q j)) else none))) := hP
  have hv := zIn_vp hin
  have hz : (zIx i) < n := by
    have := hv
    simp only [vp_in, not_or, Nat.not_le] at this
    exact this.2
  obtain ⟨ty, hty, hA⟩ : ∃ ty : FieldType, ty.isReference = true ∧ ArrOfT s (zC w (zAk k)) ty := by
    have hK := X.kk.1
    by_cases hk : k = 15 ∨ k = 17 ∨ k = 20
    · rw [zAk, if_pos hk]; exact ⟨_, rfl, (hK.2 4 _ rfl).1⟩
    · rw [zAk, if_neg hk]; exact ⟨_, rfl, (hK.2 3 _ rfl).1⟩
  refine W.aald X.1 X.2.1 (v := .ref (zA w (zRf q (zIx i)))) hP (hA n _) hty (fun q => by cases q) (by rw [arrV_size]; exact hv) ?_ rfl rfl d (h r M' ht H locs ls hR hS hL)
  rw [arrV_read _ _ hz, if_pos hz]
  rfl
theorem zArr_set {k n q pk : Nat} {j : Nat} {x : Int32} (hpk : (zLi w)[pk]? = some q) (hq : zKd0 q = (k, n)) (h1 : 11 ≤ k) (h2 : k < 14) : (zWl w M).set pk (zA w q, .inl (zC w k, n, .inl (upd (M q) j x))) = zWl w (zUp M q j x) :=
  zWl_set w M (zUp M q j x) hpk (by rw [zEn_arr hq h1 h2, zUp_row]) (fun _ hb => zUp_off hb)
theorem re_iast (X : zCx p s m args meth c w A own cc nL ret) {n q : Nat} {i x : Int32} {j : Nat} (hq : zKd w q = (12, n)) (hin : zIn i n) (hj : zIx i = j) (d : decode cc pc = .ok (.iastore, 1)) (h : ∀ M1, zRe p l e R s m args below meth c w A cs ss Qe (pc + 1) lv st M1 (f M1)) : zRe p l e R s m args below meth c w A cs ss Qe pc lv (.int x :: .int i :: .ref (zA w q) :: st) M (zLt (zUp M q j x) f) := by
  subst hj
  intro r M' ht H locs ls hR hS hL
  obtain ⟨hlv, hq0⟩ := zKd_live hq (by omega)
  obtain ⟨pk, hpk⟩ := zLi_mem (zKd0_lt hq0 (by omega)) hlv
  have hKK := X.kk
  refine va_iast X.1 X.2.1 hKK.1 hR (X.D M) hS pk 1 (by rw [zWl_get w M hpk, zEn_arr hq0 (by omega) (by omega)]) rfl (zIn_vp hin) d (fun H1 locs1 hP1 _ hS1 => ?_)
  rw [zArr_set hpk hq0 (by omega) (by omega)] at hP1
  exact h _ r M' ht H1 locs1 ls hP1 hS1 hL
theorem re_zast (X : zCx p s m args meth c w A own cc nL ret) {n q : Nat} {i x v : Int32} {j : Nat} (hq : zKd w q = (13, n)) (hin : zIn i n) (hj : zIx i = j) (hv : vp_nar .boolean x = v) (d : decode cc pc = .ok (.bastore, 1)) (h : ∀ M1, zRe p l e R s m args below meth c w A cs ss Qe (pc + 1) lv st M1 (f M1)) : zRe p l e R s m args below meth c w A cs ss Qe pc lv (.int x :: .int i :: .ref (zA w q) :: st) M (zLt (zUp M q j v) f) := by
  subst hj
  intro r M' ht H locs ls hR hS hL
  obtain ⟨hlv, hq0⟩ := zKd_live hq (by omega)
  obtain ⟨pk, hpk⟩ := zLi_mem (zKd0_lt hq0 (by omega)) hlv
  have hKK := X.kk
  refine va_zast X.1 X.2.1 hKK.1 hR (X.D M) hS pk 2 (by rw [zWl_get w M hpk, zEn_arr hq0 (by omega) (by omega)]) rfl (zIn_vp hin) d (fun H1 locs1 hP1 _ hS1 => ?_)
  rw [zArr_set hpk hq0 (by omega) (by omega), hv] at hP1
  exact h _ r M' ht H1 locs1 ls hP1 hS1 hL
theorem re_bast (X : zCx p s m args meth c w A own cc nL ret) {n q : Nat} {i x v : Int32} {j : Nat} (hq : zKd w q = (11, n)) (hin : zIn i n) (hj : zIx i = j) (hv : vp_nar .byte x = v) (d : decode cc pc = .ok (.bastore, 1)) (h : ∀ M1, zRe p l e R s m args below meth c w A cs ss Qe (pc + 1) lv st M1 (f M1)) : zRe p l e R s m args below meth c w A cs ss Qe pc lv (.int x :: .int i :: .ref (zA w q) :: st) M (zLt (zUp M q j v) f) := by
  subst hj
  intro r M' ht H locs ls hR hS hL
  obtain ⟨hlv, hq0⟩ := zKd_live hq (by omega)
  obtain ⟨pk, hpk⟩ := zLi_mem (zKd0_lt hq0 (by omega)) hlv
  have hKK := X.kk
  refine va_bast X.1 X.2.1 hKK.1 hR (X.D M) hS pk 0 (by rw [zWl_get w M hpk, zEn_arr hq0 (by omega) (by omega)]) rfl (zIn_vp hin) d (fun H1 locs1 hP1 _ hS1 => ?_)
  rw [zArr_set hpk hq0 (by omega) (by omega), hv] at hP1
  exact h _ r M' ht H1 locs1 ls hP1 hS1 hL
theorem zNar_b {x : Int32} (h : zOk 2 x) : vp_nar .boolean x = x := by
  simp only [vp_nar, (zB_ok h).1]
/-! ends -/
theorem re_iret (X : zCx p s m args meth c w (zFree w) own cc nL (some .int)) {x : Int32} (d : decode cc pc = .ok (.ireturn, 1)) : zRm p l e R s m args below meth c w 1 pc lv [.int x] M (some (x, M)) := by
  intro r M' ht H locs ls hR hS hL
  cases ht
  have hlocks := X.locks
  exact W.iret X.1 X.2.1 X.rt (fun t ht hW => ⟨rfl, trivial, by rw [ht]; exact hR, hS.F ht⟩) hS.2.2 d
theorem re_zret (X : zCx p s m args meth c w (zFree w) own cc nL (some .boolean)) {x : Int32} (hz : zOk 2 x) (d : decode cc pc = .ok (.ireturn, 1)) : zRm p l e R s m args below meth c w 2 pc lv [.int x] M (some (x, M)) := by
  intro r M' ht H locs ls hR hS hL
  cases ht
  have hlocks := X.locks
  exact W.zret X.1 X.2.1 X.rt (zB_ok hz).1 (fun t ht hW => ⟨rfl, hz, by rw [ht]; exact hR, hS.F ht⟩) hS.2.2 d
theorem re_vret (X : zCx p s m args meth c w (zFree w) own cc nL none) (d : decode cc pc = .ok (.return_, 1)) : zRm p l e R s m args below meth c w 0 pc lv [] M (some (0, M)) := by
  intro r M' ht H locs ls hR hS hL
  cases ht
  have hlocks := X.locks
  exact W.vret X.1 X.2.1 X.rt (fun t ht hW => ⟨rfl, trivial, by rw [ht]; exact hR, hS.F ht⟩) hS.2.2 d
end ZR2
