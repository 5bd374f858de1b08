/-! DebateHouse$Floor.setFree -/
abbrev rm_X0_setFree : Room := { frames := 0, cells := 0, slots := 0, locals := 0 }
def f_X0_setFree (o : Nat) (M : zMem) : zTr := zLt (zUp M o 5 (-1)) (fun M1 => zLt (zUp M1 o 6 0) (fun M2 => zLt (zUp M2 o 7 0) (fun M3 => some (0, M3))))
set_option maxRecDepth 100000 in
theorem lk_X0_setFree (l : Launch) (w : zWD) (o : Nat) (ho : zKd w o = (0, 8)) : zMt l w yX0_setFree cX0_setFree 1 none rm_X0_setFree 0 [.ref (zA w o)] (fun M => f_X0_setFree o M) := by
  refine zMt.of (by decide) [some (.ref (zA w o))] rfl (zle rfl) (by intro v hv; simp only [List.mem_cons, List.not_mem_nil, or_false] at hv; rcases hv with rfl <;> rfl) ?_
  intro p e s m args below meth c X M
  unfold f_X0_setFree
  refine re_aload_n X dX0_setFree_0 rfl rfl ?_
  refine re_iconst (v := -1) X dX0_setFree_1 (by decide) ?_
  refine re_putI X cl_0 (by decide) fl_RX0_18 ho rfl rfl rfl dX0_setFree_2 (fun M1 => ?_)
  refine re_aload_n X dX0_setFree_5 rfl rfl ?_
  refine re_iconst (v := 0) X dX0_setFree_6 (by decide) ?_
  refine re_putI X cl_0 (by decide) fl_RX0_35 ho rfl rfl rfl dX0_setFree_7 (fun M2 => ?_)
  refine re_aload_n X dX0_setFree_10 rfl rfl ?_
  refine re_iconst (v := 0) X dX0_setFree_11 (by decide) ?_
  refine re_putZ X cl_0 (by decide) fl_RX0_38 ho rfl rfl rfl (Or.inl rfl) dX0_setFree_12 (fun M3 => ?_)
  exact re_vret X dX0_setFree_15
theorem ca_X0_setFree {R : Room} (h1 : rm_X0_setFree.frames + 1 ≤ R.frames) (h2 : 8 + (1 + 11) + rm_X0_setFree.locals ≤ R.locals) : zCa yX0_setFree cX0_setFree 1 none rm_X0_setFree R 0 := ⟨cd_X0_setFree, iz_RX0, ⟨by decide, by decide, by decide⟩, rfl, rfl, h1, h2⟩
/-! DebateHouse$Floor.clear -/
abbrev rm_X0_clear : Room := { frames := 1, cells := 0, slots := 0, locals := 20 }
def f_X0_clear_B21 (o : Nat)  (M : zMem) : zTr := zLt (zUp M o 4 0) (fun M1 => zBd (f_X0_setFree o M1) (fun _ M3 => some (0, M3)))
def f_X0_clear_L2 (o : Nat)  : Nat → Int32 → zMem → zTr
  | 0, _, _ => none
  | n + 1, x1, M => if 24 ≤ x1 then f_X0_clear_B21 o M else zCk (zIn x1 24) (zLt (zUp M (o + 2) (zIx x1) 0) (fun M4 => f_X0_clear_L2 o n (x1 + 1) M4))
def f_X0_clear (o : Nat) (M : zMem) : zTr := f_X0_clear_L2 o zFu 0 M
set_option maxRecDepth 100000 in
theorem lb_X0_clear_21 {p : Program} {l : Launch} {e : Env} {s : State} {m : MethodId} {args : Array Value} {below : List Frame} {meth : Method} {c : Code} {w : zWD} {o : Nat} (X : zCx p s m args meth c w (zFree w) RX0 cX0_clear 2 none) (ho : zKd w o = (0, 8)) : ∀ (M : zMem), zRm p l e rm_X0_clear s m args below meth c w 0 21 [some (.ref (zA w o)), none] [] M (f_X0_clear_B21 o M) := by
  intro M
  unfold f_X0_clear_B21
  refine re_aload_n X dX0_clear_21 rfl rfl ?_
  refine re_iconst (v := 0) X dX0_clear_22 (by decide) ?_
  refine re_putI X cl_0 (by decide) fl_RX0_29 ho rfl rfl rfl dX0_clear_23 (fun M1 => ?_)
  refine re_aload_n X dX0_clear_26 rfl rfl ?_
  refine re_callVv X (lk_X0_setFree l w o ho) (ca_X0_setFree (by decide) (by decide)) ml_RX0_32 im_X0_setFree se_X0_setFree cl_0 ho rfl rfl rfl (zle rfl) zRo dX0_clear_27 (fun r2 M3 hr2 => ?_)
  exact re_vret X dX0_clear_30

set_option maxRecDepth 100000 in
theorem lb_X0_clear_2 {p : Program} {l : Launch} {e : Env} {s : State} {m : MethodId} {args : Array Value} {below : List Frame} {meth : Method} {c : Code} {w : zWD} {o : Nat} (X : zCx p s m args meth c w (zFree w) RX0 cX0_clear 2 none) (ho : zKd w o = (0, 8)) : ∀ (n : Nat) (x1 : Int32) (M : zMem), zRm p l e rm_X0_clear s m args below meth c w 0 2 [some (.ref (zA w o)), some (.int x1)] [] M (f_X0_clear_L2 o n x1 M) := by
  intro n
  induction n with
  | zero => intro x1 M; exact re_none
  | succ n ih =>
    intro x1 M
    rw [f_X0_clear_L2]
    refine re_iload_n X dX0_clear_2 rfl rfl ?_
    refine re_bipush (v := 24) X dX0_clear_3 (by decide) ?_
    refine re_icmp_ge (tgt := 21) X dX0_clear_5 (by decide) (fun _ => ?_) (fun _ => ?_)
    · exact re_sub (lb_X0_clear_21 X ho M) ⟨rfl, trivial⟩
    · refine re_aload_n X dX0_clear_8 rfl rfl ?_
      refine re_getR X cl_0 (by decide) fl_RX0_15 ho rfl (zR_0_3 ho) dX0_clear_9 ?_
      refine re_iload_n X dX0_clear_12 rfl rfl ?_
      refine re_iconst (v := 0) X dX0_clear_13 (by decide) ?_
      refine re_ck (fun hi5 => ?_)
      refine re_iast X (zQ_0_3 X.clo ho) hi5 (j := zIx x1) rfl dX0_clear_14 (fun M4 => ?_)
      refine re_iinc (v := 1) (lv' := [some (.ref (zA w o)), some (.int (x1 + 1))]) X dX0_clear_15 rfl (by decide) rfl ?_
      refine re_goto (tgt := 2) X dX0_clear_18 (by decide) ?_
      exact ih (x1 + 1) M4

set_option maxRecDepth 100000 in
theorem lk_X0_clear (l : Launch) (w : zWD) (o : Nat) (ho : zKd w o = (0, 8)) : zMt l w yX0_clear cX0_clear 2 none rm_X0_clear 0 [.ref (zA w o)] (fun M => f_X0_clear o M) := by
  refine zMt.of (by decide) [some (.ref (zA w o)), none] rfl (zle rfl) (by intro v hv; simp only [List.mem_cons, List.not_mem_nil, or_false] at hv; rcases hv with rfl <;> rfl) ?_
  intro p e s m args below meth c X M
  unfold f_X0_clear
  refine re_iconst (v := 0) X dX0_clear_0 (by decide) ?_
  refine re_istore_n (lv' := [some (.ref (zA w o)), some (.int 0)]) X dX0_clear_1 rfl (zlt rfl) rfl ?_
  exact lb_X0_clear_2 X ho zFu 0 M
theorem ca_X0_clear {R : Room} (h1 : rm_X0_clear.frames + 1 ≤ R.frames) (h2 : 8 + (2 + 11) + rm_X0_clear.locals ≤ R.locals) : zCa yX0_clear cX0_clear 2 none rm_X0_clear R 0 := ⟨cd_X0_clear, iz_RX0, ⟨by decide, by decide, by decide⟩, rfl, rfl, h1, h2⟩
/-! DebateHouse$Floor.copyFrom -/
abbrev rm_X0_copyFrom : Room := { frames := 0, cells := 0, slots := 0, locals := 0 }
def f_X0_copyFrom_B38 (o : Nat) (u1 : Nat)  (M : zMem) : zTr := zLt (zUp M o 4 (M u1 4)) (fun M1 => zLt (zUp M1 o 5 (M1 u1 5)) (fun M2 => zLt (zUp M2 o 6 (M2 u1 6)) (fun M3 => zCk ((M3 u1 7) = 0 ∨ (M3 u1 7) = 1) (zLt (zUp M3 o 7 (M3 u1 7)) (fun M4 => some (0, M4))))))
def f_X0_copyFrom_L2 (o : Nat) (u1 : Nat)  : Nat → Int32 → zMem → zTr
  | 0, _, _ => none
  | n + 1, x2, M => if 24 ≤ x2 then f_X0_copyFrom_B38 o u1 M else zCk (zIn x2 24) (zCk (zIn x2 24) (zLt (zUp M (o + 1) (zIx x2) (M (u1 + 1) (zIx x2))) (fun M7 => zCk (zIn x2 24) (zCk (zIn x2 24) (zLt (zUp M7 (o + 2) (zIx x2) (M7 (u1 + 2) (zIx x2))) (fun M10 => f_X0_copyFrom_L2 o u1 n (x2 + 1) M10))))))
def f_X0_copyFrom (o : Nat) (u1 : Nat) (M : zMem) : zTr := f_X0_copyFrom_L2 o u1 zFu 0 M
set_option maxRecDepth 100000 in
theorem lb_X0_copyFrom_38 {p : Program} {l : Launch} {e : Env} {s : State} {m : MethodId} {args : Array Value} {below : List Frame} {meth : Method} {c : Code} {w : zWD} {o : Nat} {u1 : Nat} (X : zCx p s m args meth c w (zFree w) RX0 cX0_copyFrom 3 none) (ho : zKd w o = (0, 8)) (hu1 : zKd w u1 = (0, 8)) : ∀ (M : zMem), zRm p l e rm_X0_copyFrom s m args below meth c w 0 38 [some (.ref (zA w o)), some (.ref (zA w u1)), none] [] M (f_X0_copyFrom_B38 o u1 M) := by
  intro M
  unfold f_X0_copyFrom_B38
  refine re_aload_n X dX0_copyFrom_38 rfl rfl ?_
  refine re_aload_n X dX0_copyFrom_39 rfl rfl ?_
  refine re_getI X cl_0 (by decide) fl_RX0_29 hu1 rfl dX0_copyFrom_40 ?_
  refine re_putI X cl_0 (by decide) fl_RX0_29 ho rfl rfl rfl dX0_copyFrom_43 (fun M1 => ?_)
  refine re_aload_n X dX0_copyFrom_46 rfl rfl ?_
  refine re_aload_n X dX0_copyFrom_47 rfl rfl ?_
  refine re_getI X cl_0 (by decide) fl_RX0_18 hu1 rfl dX0_copyFrom_48 ?_
  refine re_putI X cl_0 (by decide) fl_RX0_18 ho rfl rfl rfl dX0_copyFrom_51 (fun M2 => ?_)
  refine re_aload_n X dX0_copyFrom_54 rfl rfl ?_
  refine re_aload_n X dX0_copyFrom_55 rfl rfl ?_
  refine re_getI X cl_0 (by decide) fl_RX0_35 hu1 rfl dX0_copyFrom_56 ?_
  refine re_putI X cl_0 (by decide) fl_RX0_35 ho rfl rfl rfl dX0_copyFrom_59 (fun M3 => ?_)
  refine re_aload_n X dX0_copyFrom_62 rfl rfl ?_
  refine re_aload_n X dX0_copyFrom_63 rfl rfl ?_
  refine re_getI X cl_0 (by decide) fl_RX0_38 hu1 rfl dX0_copyFrom_64 ?_
  refine re_ck (fun hz5 => ?_)
  refine re_putZ X cl_0 (by decide) fl_RX0_38 ho rfl rfl rfl hz5 dX0_copyFrom_67 (fun M4 => ?_)
  exact re_vret X dX0_copyFrom_70

set_option maxRecDepth 100000 in
theorem lb_X0_copyFrom_2 {p : Program} {l : Launch} {e : Env} {s : State} {m : MethodId} {args : Array Value} {below : List Frame} {meth : Method} {c : Code} {w : zWD} {o : Nat} {u1 : Nat} (X : zCx p s m args meth c w (zFree w) RX0 cX0_copyFrom 3 none) (ho : zKd w o = (0, 8)) (hu1 : zKd w u1 = (0, 8)) : ∀ (n : Nat) (x2 : Int32) (M : zMem), zRm p l e rm_X0_copyFrom s m args below meth c w 0 2 [some (.ref (zA w o)), some (.ref (zA w u1)), some (.int x2)] [] M (f_X0_copyFrom_L2 o u1 n x2 M) := by
  intro n
  induction n with
  | zero => intro x2 M; exact re_none
  | succ n ih =>
    intro x2 M
    rw [f_X0_copyFrom_L2]
    refine re_iload_n X dX0_copyFrom_2 rfl rfl ?_
    refine re_bipush (v := 24) X dX0_copyFrom_3 (by decide) ?_
    refine re_icmp_ge (tgt := 38) X dX0_copyFrom_5 (by decide) (fun _ => ?_) (fun _ => ?_)
    · exact re_sub (lb_X0_copyFrom_38 X ho hu1 M) ⟨rfl, ⟨rfl, trivial⟩⟩
    · refine re_aload_n X dX0_copyFrom_8 rfl rfl ?_
      refine re_getR X cl_0 (by decide) fl_RX0_9 ho rfl (zR_0_2 ho) dX0_copyFrom_9 ?_
      refine re_iload_n X dX0_copyFrom_12 rfl rfl ?_
      refine re_aload_n X dX0_copyFrom_13 rfl rfl ?_
      refine re_getR X cl_0 (by decide) fl_RX0_9 hu1 rfl (zR_0_2 hu1) dX0_copyFrom_14 ?_
      refine re_iload_n X dX0_copyFrom_17 rfl rfl ?_
      refine re_ck (fun hi6 => ?_)
      refine re_iald X (zQ_0_2 X.clo hu1) hi6 (j := zIx x2) rfl dX0_copyFrom_18 ?_
      refine re_ck (fun hi8 => ?_)
      refine re_iast X (zQ_0_2 X.clo ho) hi8 (j := zIx x2) rfl dX0_copyFrom_19 (fun M7 => ?_)
      refine re_aload_n X dX0_copyFrom_20 rfl rfl ?_
      refine re_getR X cl_0 (by decide) fl_RX0_15 ho rfl (zR_0_3 ho) dX0_copyFrom_21 ?_
      refine re_iload_n X dX0_copyFrom_24 rfl rfl ?_
      refine re_aload_n X dX0_copyFrom_25 rfl rfl ?_
      refine re_getR X cl_0 (by decide) fl_RX0_15 hu1 rfl (zR_0_3 hu1) dX0_copyFrom_26 ?_
      refine re_iload_n X dX0_copyFrom_29 rfl rfl ?_
      refine re_ck (fun hi9 => ?_)
      refine re_iald X (zQ_0_3 X.clo hu1) hi9 (j := zIx x2) rfl dX0_copyFrom_30 ?_
      refine re_ck (fun hi11 => ?_)
      refine re_iast X (zQ_0_3 X.clo ho) hi11 (j := zIx x2) rfl dX0_copyFrom_31 (fun M10 => ?_)
      refine re_iinc (v := 1) (lv' := [some (.ref (zA w o)), some (.ref (zA w u1)), some (.int (x2 + 1))]) X dX0_copyFrom_32 rfl (by decide) rfl ?_
      refine re_goto (tgt := 2) X dX0_copyFrom_35 (by decide) ?_
      exact ih (x2 + 1) M10

set_option maxRecDepth 100000 in
theorem lk_X0_copyFrom (l : Launch) (w : zWD) (o : Nat) (u1 : Nat) (ho : zKd w o = (0, 8)) (hu1 : zKd w u1 = (0, 8)) : zMt l w yX0_copyFrom cX0_copyFrom 3 none rm_X0_copyFrom 0 [.ref (zA w o), .ref (zA w u1)] (fun M => f_X0_copyFrom o u1 M) := by
  refine zMt.of (by decide) [some (.ref (zA w o)), some (.ref (zA w u1)), none] rfl (zle rfl) (by intro v hv; simp only [List.mem_cons, List.not_mem_nil, or_false] at hv; rcases hv with rfl | rfl <;> rfl) ?_
  intro p e s m args below meth c X M
  unfold f_X0_copyFrom
  refine re_iconst (v := 0) X dX0_copyFrom_0 (by decide) ?_
  refine re_istore_n (lv' := [some (.ref (zA w o)), some (.ref (zA w u1)), some (.int 0)]) X dX0_copyFrom_1 rfl (zlt rfl) rfl ?_
  exact lb_X0_copyFrom_2 X ho hu1 zFu 0 M
theorem ca_X0_copyFrom {R : Room} (h1 : rm_X0_copyFrom.frames + 1 ≤ R.frames) (h2 : 8 + (3 + 11) + rm_X0_copyFrom.locals ≤ R.locals) : zCa yX0_copyFrom cX0_copyFrom 3 none rm_X0_copyFrom R 1 := ⟨cd_X0_copyFrom, iz_RX0, ⟨by decide, by decide, by decide⟩, rfl, rfl, h1, h2⟩
/-! DebateHouse$Floor.queuePlaceOf -/
abbrev rm_X0_queuePlaceOf : Room := { frames := 0, cells := 0, slots := 0, locals := 0 }
def f_X0_queuePlaceOf_L2 (o : Nat) (u1 : Int32)  : Nat → Int32 → zMem → zTr
  | 0, _, _ => none
  | n + 1, x2, M => if (M o 4) ≤ x2 then some (-1, M) else if 24 ≤ x2 then some (-1, M) else zCk (zIn x2 24) (if (M (o + 1) (zIx x2)) = u1 then some (x2, M) else f_X0_queuePlaceOf_L2 o u1 n (x2 + 1) M)
def f_X0_queuePlaceOf (o : Nat) (u1 : Int32) (M : zMem) : zTr := f_X0_queuePlaceOf_L2 o u1 zFu 0 M
set_option maxRecDepth 100000 in
theorem lb_X0_queuePlaceOf_2 {p : Program} {l : Launch} {e : Env} {s : State} {m : MethodId} {args : Array Value} {below : List Frame} {meth : Method} {c : Code} {w : zWD} {o : Nat} {u1 : Int32} (X : zCx p s m args meth c w (zFree w) RX0 cX0_queuePlaceOf 3 (some .int)) (ho : zKd w o = (0, 8)) : ∀ (n : Nat) (x2 : Int32) (M : zMem), zRm p l e rm_X0_queuePlaceOf s m args below meth c w 1 2 [some (.ref (zA w o)), some (.int u1), some (.int x2)] [] M (f_X0_queuePlaceOf_L2 o u1 n x2 M) := by
  intro n
  induction n with
  | zero => intro x2 M; exact re_none
  | succ n ih =>
    intro x2 M
    rw [f_X0_queuePlaceOf_L2]
    refine re_iload_n X dX0_queuePlaceOf_2 rfl rfl ?_
    refine re_aload_n X dX0_queuePlaceOf_3 rfl rfl ?_
    refine re_getI X cl_0 (by decide) fl_RX0_29 ho rfl dX0_queuePlaceOf_4 ?_
    refine re_icmp_ge (tgt := 34) X dX0_queuePlaceOf_7 (by decide) (fun _ => ?_) (fun _ => ?_)
    · refine re_iconst (v := -1) X dX0_queuePlaceOf_34 (by decide) ?_
      exact re_iret X dX0_queuePlaceOf_35
    · refine re_iload_n X dX0_queuePlaceOf_10 rfl rfl ?_
      refine re_bipush (v := 24) X dX0_queuePlaceOf_11 (by decide) ?_
      refine re_icmp_ge (tgt := 34) X dX0_queuePlaceOf_13 (by decide) (fun _ => ?_) (fun _ => ?_)
      · refine re_iconst (v := -1) X dX0_queuePlaceOf_34 (by decide) ?_
        exact re_iret X dX0_queuePlaceOf_35
      · refine re_aload_n X dX0_queuePlaceOf_16 rfl rfl ?_
        refine re_getR X cl_0 (by decide) fl_RX0_9 ho rfl (zR_0_2 ho) dX0_queuePlaceOf_17 ?_
        refine re_iload_n X dX0_queuePlaceOf_20 rfl rfl ?_
        refine re_ck (fun hi1 => ?_)
        refine re_iald X (zQ_0_2 X.clo ho) hi1 (j := zIx x2) rfl dX0_queuePlaceOf_21 ?_
        refine re_iload_n X dX0_queuePlaceOf_22 rfl rfl ?_
        refine re_icmp_ne (tgt := 28) X dX0_queuePlaceOf_23 (by decide) (fun _ => ?_) (fun _ => ?_)
        · refine re_iload_n X dX0_queuePlaceOf_26 rfl rfl ?_
          exact re_iret X dX0_queuePlaceOf_27
        · refine re_iinc (v := 1) (lv' := [some (.ref (zA w o)), some (.int u1), some (.int (x2 + 1))]) X dX0_queuePlaceOf_28 rfl (by decide) rfl ?_
          refine re_goto (tgt := 2) X dX0_queuePlaceOf_31 (by decide) ?_
          exact ih (x2 + 1) M

set_option maxRecDepth 100000 in
theorem lk_X0_queuePlaceOf (l : Launch) (w : zWD) (o : Nat) (u1 : Int32) (ho : zKd w o = (0, 8)) : zMt l w yX0_queuePlaceOf cX0_queuePlaceOf 3 (some .int) rm_X0_queuePlaceOf 1 [.ref (zA w o), .int u1] (fun M => f_X0_queuePlaceOf o u1 M) := by
  refine zMt.of (by decide) [some (.ref (zA w o)), some (.int u1), none] rfl (zle rfl) (by intro v hv; simp only [List.mem_cons, List.not_mem_nil, or_false] at hv; rcases hv with rfl | rfl <;> rfl) ?_
  intro p e s m args below meth c X M
  unfold f_X0_queuePlaceOf
  refine re_iconst (v := 0) X dX0_queuePlaceOf_0 (by decide) ?_
  refine re_istore_n (lv' := [some (.ref (zA w o)), some (.int u1), some (.int 0)]) X dX0_queuePlaceOf_1 rfl (zlt rfl) rfl ?_
  exact lb_X0_queuePlaceOf_2 X ho zFu 0 M
theorem ca_X0_queuePlaceOf {R : Room} (h1 : rm_X0_queuePlaceOf.frames + 1 ≤ R.frames) (h2 : 8 + (3 + 11) + rm_X0_queuePlaceOf.locals ≤ R.locals) : zCa yX0_queuePlaceOf cX0_queuePlaceOf 3 (some .int) rm_X0_queuePlaceOf R 1 := ⟨cd_X0_queuePlaceOf, iz_RX0, ⟨by decide, by decide, by decide⟩, rfl, rfl, h1, h2⟩
/-! DebateHouse$Floor.mayAsk -/
abbrev rm_X0_mayAsk : Room := { frames := 1, cells := 0, slots := 0, locals := 22 }
def f_X0_mayAsk (o : Nat) (u1 : Int32) (M : zMem) : zTr := zBd (f_X0_queuePlaceOf o u1 M) (fun r1 M2 => if r1 = (-1) then (if (M2 o 5) = u1 then some (0, M2) else some (1, M2)) else some (0, M2))
set_option maxRecDepth 100000 in
theorem lk_X0_mayAsk (l : Launch) (w : zWD) (o : Nat) (u1 : Int32) (ho : zKd w o = (0, 8)) : zMt l w yX0_mayAsk cX0_mayAsk 2 (some .boolean) rm_X0_mayAsk 2 [.ref (zA w o), .int u1] (fun M => f_X0_mayAsk o u1 M) := by
  refine zMt.of (by decide) [some (.ref (zA w o)), some (.int u1)] rfl (zle rfl) (by intro v hv; simp only [List.mem_cons, List.not_mem_nil, or_false] at hv; rcases hv with rfl | rfl <;> rfl) ?_
  intro p e s m args below meth c X M
  unfold f_X0_mayAsk
  refine re_aload_n X dX0_mayAsk_0 rfl rfl ?_
  refine re_iload_n X dX0_mayAsk_1 rfl rfl ?_
  refine re_callVi X (lk_X0_queuePlaceOf l w o u1 ho) (ca_X0_queuePlaceOf (by decide) (by decide)) ml_RX0_42 im_X0_queuePlaceOf se_X0_queuePlaceOf cl_0 ho rfl rfl rfl (zle rfl) zRo dX0_mayAsk_2 (fun r1 M2 hr1 => ?_)
  refine re_iconst (v := -1) X dX0_mayAsk_5 (by decide) ?_
  refine re_icmp_ne (tgt := 21) X dX0_mayAsk_6 (by decide) (fun _ => ?_) (fun _ => ?_)
  · refine re_aload_n X dX0_mayAsk_9 rfl rfl ?_
    refine re_getI X cl_0 (by decide) fl_RX0_18 ho rfl dX0_mayAsk_10 ?_
    refine re_iload_n X dX0_mayAsk_13 rfl rfl ?_
    refine re_icmp_eq (tgt := 21) X dX0_mayAsk_14 (by decide) (fun _ => ?_) (fun _ => ?_)
    · refine re_iconst (v := 0) X dX0_mayAsk_21 (by decide) ?_
      exact re_zret X (Or.inl rfl) dX0_mayAsk_22
    · refine re_iconst (v := 1) X dX0_mayAsk_17 (by decide) ?_
      refine re_goto (tgt := 22) X dX0_mayAsk_18 (by decide) ?_
      exact re_zret X (Or.inr rfl) dX0_mayAsk_22
  · refine re_iconst (v := 0) X dX0_mayAsk_21 (by decide) ?_
    exact re_zret X (Or.inl rfl) dX0_mayAsk_22
theorem ca_X0_mayAsk {R : Room} (h1 : rm_X0_mayAsk.frames + 1 ≤ R.frames) (h2 : 8 + (2 + 11) + rm_X0_mayAsk.locals ≤ R.locals) : zCa yX0_mayAsk cX0_mayAsk 2 (some .boolean) rm_X0_mayAsk R 1 := ⟨cd_X0_mayAsk, iz_RX0, ⟨by decide, by decide, by decide⟩, rfl, rfl, h1, h2⟩
/-! DebateHouse$Floor.mayYieldTo -/
abbrev rm_X0_mayYieldTo : Room := { frames := 0, cells := 0, slots := 0, locals := 0 }
def f_X0_mayYieldTo (o : Nat) (u1 : Int32) (M : zMem) : zTr := if (M 3 7) = 0 then some (0, M) else if (M o 5) = (-1) then some (0, M) else if (M o 5) = u1 then some (0, M) else if (M o 7) = 0 then some (1, M) else some (0, M)
set_option maxRecDepth 100000 in
theorem lk_X0_mayYieldTo (l : Launch) (w : zWD) (o : Nat) (u1 : Int32) (ho : zKd w o = (0, 8)) : zMt l w yX0_mayYieldTo cX0_mayYieldTo 2 (some .boolean) rm_X0_mayYieldTo 2 [.ref (zA w o), .int u1] (fun M => f_X0_mayYieldTo o u1 M) := by
  refine zMt.of (by decide) [some (.ref (zA w o)), some (.int u1)] rfl (zle rfl) (by intro v hv; simp only [List.mem_cons, List.not_mem_nil, or_false] at hv; rcases hv with rfl | rfl <;> rfl) ?_
  intro p e s m args below meth c X M
  unfold f_X0_mayYieldTo
  refine re_aload_n X dX0_mayYieldTo_0 rfl rfl ?_
  refine re_getR X cl_0 (by decide) fl_RX0_22 ho rfl (zR_0_0 ho) dX0_mayYieldTo_1 ?_
  refine re_getI X cl_6 (by decide) fl_RX0_46 (zQ_0_0 X.clo ho) rfl dX0_mayYieldTo_4 ?_
  refine re_if_eq (tgt := 37) X dX0_mayYieldTo_7 (by decide) (fun _ => ?_) (fun _ => ?_)
  · refine re_iconst (v := 0) X dX0_mayYieldTo_37 (by decide) ?_
    exact re_zret X (Or.inl rfl) dX0_mayYieldTo_38
  · refine re_aload_n X dX0_mayYieldTo_10 rfl rfl ?_
    refine re_getI X cl_0 (by decide) fl_RX0_18 ho rfl dX0_mayYieldTo_11 ?_
    refine re_iconst (v := -1) X dX0_mayYieldTo_14 (by decide) ?_
    refine re_icmp_eq (tgt := 37) X dX0_mayYieldTo_15 (by decide) (fun _ => ?_) (fun _ => ?_)
    · refine re_iconst (v := 0) X dX0_mayYieldTo_37 (by decide) ?_
      exact re_zret X (Or.inl rfl) dX0_mayYieldTo_38
    · refine re_aload_n X dX0_mayYieldTo_18 rfl rfl ?_
      refine re_getI X cl_0 (by decide) fl_RX0_18 ho rfl dX0_mayYieldTo_19 ?_
      refine re_iload_n X dX0_mayYieldTo_22 rfl rfl ?_
      refine re_icmp_eq (tgt := 37) X dX0_mayYieldTo_23 (by decide) (fun _ => ?_) (fun _ => ?_)
      · refine re_iconst (v := 0) X dX0_mayYieldTo_37 (by decide) ?_
        exact re_zret X (Or.inl rfl) dX0_mayYieldTo_38
      · refine re_aload_n X dX0_mayYieldTo_26 rfl rfl ?_
        refine re_getI X cl_0 (by decide) fl_RX0_38 ho rfl dX0_mayYieldTo_27 ?_
        refine re_if_ne (tgt := 37) X dX0_mayYieldTo_30 (by decide) (fun _ => ?_) (fun _ => ?_)
        · refine re_iconst (v := 1) X dX0_mayYieldTo_33 (by decide) ?_
          refine re_goto (tgt := 38) X dX0_mayYieldTo_34 (by decide) ?_
          exact re_zret X (Or.inr rfl) dX0_mayYieldTo_38
        · refine re_iconst (v := 0) X dX0_mayYieldTo_37 (by decide) ?_
          exact re_zret X (Or.inl rfl) dX0_mayYieldTo_38
theorem ca_X0_mayYieldTo {R : Room} (h1 : rm_X0_mayYieldTo.frames + 1 ≤ R.frames) (h2 : 8 + (2 + 11) + rm_X0_mayYieldTo.locals ≤ R.locals) : zCa yX0_mayYieldTo cX0_mayYieldTo 2 (some .boolean) rm_X0_mayYieldTo R 1 := ⟨cd_X0_mayYieldTo, iz_RX0, ⟨by decide, by decide, by decide⟩, rfl, rfl, h1, h2⟩
/-! DebateHouse$Floor.enqueue -/
abbrev rm_X0_enqueue : Room := { frames := 0, cells := 0, slots := 0, locals := 0 }
def f_X0_enqueue (o : Nat) (u1 : Int32) (M : zMem) : zTr := if (M o 4) < 0 then some (0, M) else if 24 ≤ (M o 4) then some (0, M) else zCk (zIn (M o 4) 24) (zLt (zUp M (o + 1) (zIx (M o 4)) u1) (fun M1 => zLt (zUp M1 o 4 ((M1 o 4) + 1)) (fun M3 => some (0, M3))))
set_option maxRecDepth 100000 in
theorem lk_X0_enqueue (l : Launch) (w : zWD) (o : Nat) (u1 : Int32) (ho : zKd w o = (0, 8)) : zMt l w yX0_enqueue cX0_enqueue 2 none rm_X0_enqueue 0 [.ref (zA w o), .int u1] (fun M => f_X0_enqueue o u1 M) := by
  refine zMt.of (by decide) [some (.ref (zA w o)), some (.int u1)] rfl (zle rfl) (by intro v hv; simp only [List.mem_cons, List.not_mem_nil, or_false] at hv; rcases hv with rfl | rfl <;> rfl) ?_
  intro p e s m args below meth c X M
  unfold f_X0_enqueue
  refine re_aload_n X dX0_enqueue_0 rfl rfl ?_
  refine re_getI X cl_0 (by decide) fl_RX0_29 ho rfl dX0_enqueue_1 ?_
  refine re_if_lt (tgt := 36) X dX0_enqueue_4 (by decide) (fun _ => ?_) (fun _ => ?_)
  · exact re_vret X dX0_enqueue_36
  · refine re_aload_n X dX0_enqueue_7 rfl rfl ?_
    refine re_getI X cl_0 (by decide) fl_RX0_29 ho rfl dX0_enqueue_8 ?_
    refine re_bipush (v := 24) X dX0_enqueue_11 (by decide) ?_
    refine re_icmp_ge (tgt := 36) X dX0_enqueue_13 (by decide) (fun _ => ?_) (fun _ => ?_)
    · exact re_vret X dX0_enqueue_36
    · refine re_aload_n X dX0_enqueue_16 rfl rfl ?_
      refine re_getR X cl_0 (by decide) fl_RX0_9 ho rfl (zR_0_2 ho) dX0_enqueue_17 ?_
      refine re_aload_n X dX0_enqueue_20 rfl rfl ?_
      refine re_getI X cl_0 (by decide) fl_RX0_29 ho rfl dX0_enqueue_21 ?_
      refine re_iload_n X dX0_enqueue_24 rfl rfl ?_
      refine re_ck (fun hi2 => ?_)
      refine re_iast X (zQ_0_2 X.clo ho) hi2 (j := zIx (M o 4)) rfl dX0_enqueue_25 (fun M1 => ?_)
      refine re_aload_n X dX0_enqueue_26 rfl rfl ?_
      refine re_dup X dX0_enqueue_27 rfl ?_
      refine re_getI X cl_0 (by decide) fl_RX0_29 ho rfl dX0_enqueue_28 ?_
      refine re_iconst (v := 1) X dX0_enqueue_31 (by decide) ?_
      refine re_iadd X dX0_enqueue_32 ?_
      refine re_putI X cl_0 (by decide) fl_RX0_29 ho rfl rfl rfl dX0_enqueue_33 (fun M3 => ?_)
      exact re_vret X dX0_enqueue_36
theorem ca_X0_enqueue {R : Room} (h1 : rm_X0_enqueue.frames + 1 ≤ R.frames) (h2 : 8 + (2 + 11) + rm_X0_enqueue.locals ≤ R.locals) : zCa yX0_enqueue cX0_enqueue 2 none rm_X0_enqueue R 1 := ⟨cd_X0_enqueue, iz_RX0, ⟨by decide, by decide, by decide⟩, rfl, rfl, h1, h2⟩
/-! DebateHouse$Floor.dequeue -/
abbrev rm_X0_dequeue : Room := { frames := 0, cells := 0, slots := 0, locals := 0 }
def f_X0_dequeue_L25 (o : Nat) (u1 : Int32)  : Nat → Int32 → zMem → zTr
  | 0, _, _ => none
  | n + 1, x2, M => if (M o 4) ≤ x2 then some (0, M) else if 24 ≤ (x2 + 1) then some (0, M) else zCk (zIn (x2 + 1) 24) (zCk (zIn x2 24) (zLt (zUp M (o + 1) (zIx x2) (M (o + 1) (zIx (x2 + 1)))) (fun M3 => f_X0_dequeue_L25 o u1 n (x2 + 1) M3)))
def f_X0_dequeue (o : Nat) (u1 : Int32) (M : zMem) : zTr := if u1 < 0 then some (0, M) else if u1 < (M o 4) then zLt (zUp M o 4 ((M o 4) - 1)) (fun M1 => f_X0_dequeue_L25 o u1 zFu u1 M1) else some (0, M)
set_option maxRecDepth 100000 in
theorem lb_X0_dequeue_25 {p : Program} {l : Launch} {e : Env} {s : State} {m : MethodId} {args : Array Value} {below : List Frame} {meth : Method} {c : Code} {w : zWD} {o : Nat} {u1 : Int32} (X : zCx p s m args meth c w (zFree w) RX0 cX0_dequeue 3 none) (ho : zKd w o = (0, 8)) : ∀ (n : Nat) (x2 : Int32) (M : zMem), zRm p l e rm_X0_dequeue s m args below meth c w 0 25 [some (.ref (zA w o)), none, some (.int x2)] [] M (f_X0_dequeue_L25 o u1 n x2 M) := by
  intro n
  induction n with
  | zero => intro x2 M; exact re_none
  | succ n ih =>
    intro x2 M
    rw [f_X0_dequeue_L25]
    refine re_iload_n X dX0_dequeue_25 rfl rfl ?_
    refine re_aload_n X dX0_dequeue_26 rfl rfl ?_
    refine re_getI X cl_0 (by decide) fl_RX0_29 ho rfl dX0_dequeue_27 ?_
    refine re_icmp_ge (tgt := 61) X dX0_dequeue_30 (by decide) (fun _ => ?_) (fun _ => ?_)
    · exact re_vret X dX0_dequeue_61
    · refine re_iload_n X dX0_dequeue_33 rfl rfl ?_
      refine re_iconst (v := 1) X dX0_dequeue_34 (by decide) ?_
      refine re_iadd X dX0_dequeue_35 ?_
      refine re_bipush (v := 24) X dX0_dequeue_36 (by decide) ?_
      refine re_icmp_ge (tgt := 61) X dX0_dequeue_38 (by decide) (fun _ => ?_) (fun _ => ?_)
      · exact re_vret X dX0_dequeue_61
      · refine re_aload_n X dX0_dequeue_41 rfl rfl ?_
        refine re_getR X cl_0 (by decide) fl_RX0_9 ho rfl (zR_0_2 ho) dX0_dequeue_42 ?_
        refine re_iload_n X dX0_dequeue_45 rfl rfl ?_
        refine re_aload_n X dX0_dequeue_46 rfl rfl ?_
        refine re_getR X cl_0 (by decide) fl_RX0_9 ho rfl (zR_0_2 ho) dX0_dequeue_47 ?_
        refine re_iload_n X dX0_dequeue_50 rfl rfl ?_
        refine re_iconst (v := 1) X dX0_dequeue_51 (by decide) ?_
        refine re_iadd X dX0_dequeue_52 ?_
        refine re_ck (fun hi2 => ?_)
        refine re_iald X (zQ_0_2 X.clo ho) hi2 (j := zIx (x2 + 1)) rfl dX0_dequeue_53 ?_
        refine re_ck (fun hi4 => ?_)
        refine re_iast X (zQ_0_2 X.clo ho) hi4 (j := zIx x2) rfl dX0_dequeue_54 (fun M3 => ?_)
        refine re_iinc (v := 1) (lv' := [some (.ref (zA w o)), none, some (.int (x2 + 1))]) X dX0_dequeue_55 rfl (by decide) rfl ?_
        refine re_goto (tgt := 25) X dX0_dequeue_58 (by decide) ?_
        exact ih (x2 + 1) M3

set_option maxRecDepth 100000 in
theorem lk_X0_dequeue (l : Launch) (w : zWD) (o : Nat) (u1 : Int32) (ho : zKd w o = (0, 8)) : zMt l w yX0_dequeue cX0_dequeue 3 none rm_X0_dequeue 0 [.ref (zA w o), .int u1] (fun M => f_X0_dequeue o u1 M) := by
  refine zMt.of (by decide) [some (.ref (zA w o)), some (.int u1), none] rfl (zle rfl) (by intro v hv; simp only [List.mem_cons, List.not_mem_nil, or_false] at hv; rcases hv with rfl | rfl <;> rfl) ?_
  intro p e s m args below meth c X M
  unfold f_X0_dequeue
  refine re_iload_n X dX0_dequeue_0 rfl rfl ?_
  refine re_if_lt (tgt := 12) X dX0_dequeue_1 (by decide) (fun _ => ?_) (fun _ => ?_)
  · exact re_vret X dX0_dequeue_12
  · refine re_iload_n X dX0_dequeue_4 rfl rfl ?_
    refine re_aload_n X dX0_dequeue_5 rfl rfl ?_
    refine re_getI X cl_0 (by decide) fl_RX0_29 ho rfl dX0_dequeue_6 ?_
    refine re_icmp_lt (tgt := 13) X dX0_dequeue_9 (by decide) (fun _ => ?_) (fun _ => ?_)
    · refine re_aload_n X dX0_dequeue_13 rfl rfl ?_
      refine re_dup X dX0_dequeue_14 rfl ?_
      refine re_getI X cl_0 (by decide) fl_RX0_29 ho rfl dX0_dequeue_15 ?_
      refine re_iconst (v := 1) X dX0_dequeue_18 (by decide) ?_
      refine re_isub X dX0_dequeue_19 ?_
      refine re_putI X cl_0 (by decide) fl_RX0_29 ho rfl rfl rfl dX0_dequeue_20 (fun M1 => ?_)
      refine re_iload_n X dX0_dequeue_23 rfl rfl ?_
      refine re_istore_n (lv' := [some (.ref (zA w o)), some (.int u1), some (.int u1)]) X dX0_dequeue_24 rfl (zlt rfl) rfl ?_
      exact re_sub (lb_X0_dequeue_25 X ho zFu u1 M1) ⟨rfl, ⟨rfl, trivial⟩⟩
    · exact re_vret X dX0_dequeue_12
theorem ca_X0_dequeue {R : Room} (h1 : rm_X0_dequeue.frames + 1 ≤ R.frames) (h2 : 8 + (3 + 11) + rm_X0_dequeue.locals ≤ R.locals) : zCa yX0_dequeue cX0_dequeue 3 none rm_X0_dequeue R 1 := ⟨cd_X0_dequeue, iz_RX0, ⟨by decide, by decide, by decide⟩, rfl, rfl, h1, h2⟩
/-! DebateHouse$Floor.drop -/
abbrev rm_X0_drop : Room := { frames := 1, cells := 0, slots := 0, locals := 22 }
def f_X0_drop (o : Nat) (u1 : Int32) (M : zMem) : zTr := zBd (f_X0_queuePlaceOf o u1 M) (fun r1 M2 => zBd (f_X0_dequeue o r1 M2) (fun _ M4 => if (M4 o 5) = u1 then zBd (f_X0_setFree o M4) (fun _ M6 => some (0, M6)) else some (0, M4)))
set_option maxRecDepth 100000 in
theorem lk_X0_drop (l : Launch) (w : zWD) (o : Nat) (u1 : Int32) (ho : zKd w o = (0, 8)) : zMt l w yX0_drop cX0_drop 2 none rm_X0_drop 0 [.ref (zA w o), .int u1] (fun M => f_X0_drop o u1 M) := by
  refine zMt.of (by decide) [some (.ref (zA w o)), some (.int u1)] rfl (zle rfl) (by intro v hv; simp only [List.mem_cons, List.not_mem_nil, or_false] at hv; rcases hv with rfl | rfl <;> rfl) ?_
  intro p e s m args below meth c X M
  unfold f_X0_drop
  refine re_aload_n X dX0_drop_0 rfl rfl ?_
  refine re_aload_n X dX0_drop_1 rfl rfl ?_
  refine re_iload_n X dX0_drop_2 rfl rfl ?_
  refine re_callVi X (lk_X0_queuePlaceOf l w o u1 ho) (ca_X0_queuePlaceOf (by decide) (by decide)) ml_RX0_42 im_X0_queuePlaceOf se_X0_queuePlaceOf cl_0 ho rfl rfl rfl (zle rfl) zRo dX0_drop_3 (fun r1 M2 hr1 => ?_)
  refine re_callVv X (lk_X0_dequeue l w o r1 ho) (ca_X0_dequeue (by decide) (by decide)) ml_RX0_51 im_X0_dequeue se_X0_dequeue cl_0 ho rfl rfl rfl (zle rfl) zRo dX0_drop_6 (fun r3 M4 hr3 => ?_)
  refine re_aload_n X dX0_drop_9 rfl rfl ?_
  refine re_getI X cl_0 (by decide) fl_RX0_18 ho rfl dX0_drop_10 ?_
  refine re_iload_n X dX0_drop_13 rfl rfl ?_
  refine re_icmp_ne (tgt := 21) X dX0_drop_14 (by decide) (fun _ => ?_) (fun _ => ?_)
  · refine re_aload_n X dX0_drop_17 rfl rfl ?_
    refine re_callVv X (lk_X0_setFree l w o ho) (ca_X0_setFree (by decide) (by decide)) ml_RX0_32 im_X0_setFree se_X0_setFree cl_0 ho rfl rfl rfl (zle rfl) zRo dX0_drop_18 (fun r5 M6 hr5 => ?_)
    exact re_vret X dX0_drop_21
  · exact re_vret X dX0_drop_21
theorem ca_X0_drop {R : Room} (h1 : rm_X0_drop.frames + 1 ≤ R.frames) (h2 : 8 + (2 + 11) + rm_X0_drop.locals ≤ R.locals) : zCa yX0_drop cX0_drop 2 none rm_X0_drop R 1 := ⟨cd_X0_drop, iz_RX0, ⟨by decide, by decide, by decide⟩, rfl, rfl, h1, h2⟩
/-! DebateHouse$Floor.countedSpeeches -/
abbrev rm_X0_countedSpeeches : Room := { frames := 1, cells := 0, slots := 0, locals := 20 }
def f_X0_countedSpeeches_L30 (o : Nat) (u1 : Int32)  : Nat → Int32 → Int32 → zMem → zTr
  | 0, _, _, _ => none
  | n + 1, x2, x3, M => if 24 ≤ x3 then some (x2, M) else zCk (zIn x3 24) (zCk (zIn u1 24) (if (M 14 (zIx x3)) = (M 14 (zIx u1)) then zCk (zIn x3 24) (f_X0_countedSpeeches_L30 o u1 n (x2 + (M (o + 2) (zIx x3))) (x3 + 1) M) else f_X0_countedSpeeches_L30 o u1 n x2 (x3 + 1) M))
def f_X0_countedSpeeches (o : Nat) (u1 : Int32) (M : zMem) : zTr := zBd (f_X9_isMember u1 M) (fun r1 M2 => if r1 = 0 then some (0, M2) else if (M2 3 6) = 0 then zCk (zIn u1 24) (some (M2 (o + 2) (zIx u1), M2)) else f_X0_countedSpeeches_L30 o u1 zFu 0 0 M2)
set_option maxRecDepth 100000 in
theorem lb_X0_countedSpeeches_30 {p : Program} {l : Launch} {e : Env} {s : State} {m : MethodId} {args : Array Value} {below : List Frame} {meth : Method} {c : Code} {w : zWD} {o : Nat} {u1 : Int32} (X : zCx p s m args meth c w (zFree w) RX0 cX0_countedSpeeches 4 (some .int)) (ho : zKd w o = (0, 8)) : ∀ (n : Nat) (x2 : Int32) (x3 : Int32) (M : zMem), zRm p l e rm_X0_countedSpeeches s m args below meth c w 1 30 [some (.ref (zA w o)), some (.int u1), some (.int x2), some (.int x3)] [] M (f_X0_countedSpeeches_L30 o u1 n x2 x3 M) := by
  intro n
  induction n with
  | zero => intro x2 x3 M; exact re_none
  | succ n ih =>
    intro x2 x3 M
    rw [f_X0_countedSpeeches_L30]
    refine re_iload_n X dX0_countedSpeeches_30 rfl rfl ?_
    refine re_bipush (v := 24) X dX0_countedSpeeches_31 (by decide) ?_
    refine re_icmp_ge (tgt := 66) X dX0_countedSpeeches_33 (by decide) (fun _ => ?_) (fun _ => ?_)
    · refine re_iload_n X dX0_countedSpeeches_66 rfl rfl ?_
      exact re_iret X dX0_countedSpeeches_67
    · refine re_aload_n X dX0_countedSpeeches_36 rfl rfl ?_
      refine re_getR X cl_0 (by decide) fl_RX0_26 ho rfl (zR_0_1 ho) dX0_countedSpeeches_37 ?_
      refine re_iload_n X dX0_countedSpeeches_40 rfl rfl ?_
      refine re_ck (fun hi4 => ?_)
      refine re_iald X (zQ_0_1 X.clo ho) hi4 (j := zIx x3) rfl dX0_countedSpeeches_41 ?_
      refine re_aload_n X dX0_countedSpeeches_42 rfl rfl ?_
      refine re_getR X cl_0 (by decide) fl_RX0_26 ho rfl (zR_0_1 ho) dX0_countedSpeeches_43 ?_
      refine re_iload_n X dX0_countedSpeeches_46 rfl rfl ?_
      refine re_ck (fun hi5 => ?_)
      refine re_iald X (zQ_0_1 X.clo ho) hi5 (j := zIx u1) rfl dX0_countedSpeeches_47 ?_
      refine re_icmp_ne (tgt := 60) X dX0_countedSpeeches_48 (by decide) (fun _ => ?_) (fun _ => ?_)
      · refine re_iload_n X dX0_countedSpeeches_51 rfl rfl ?_
        refine re_aload_n X dX0_countedSpeeches_52 rfl rfl ?_
        refine re_getR X cl_0 (by decide) fl_RX0_15 ho rfl (zR_0_3 ho) dX0_countedSpeeches_53 ?_
        refine re_iload_n X dX0_countedSpeeches_56 rfl rfl ?_
        refine re_ck (fun hi6 => ?_)
        refine re_iald X (zQ_0_3 X.clo ho) hi6 (j := zIx x3) rfl dX0_countedSpeeches_57 ?_
        refine re_iadd X dX0_countedSpeeches_58 ?_
        refine re_istore_n (lv' := [some (.ref (zA w o)), some (.int u1), some (.int (x2 + (M (o + 2) (zIx x3)))), some (.int x3)]) X dX0_countedSpeeches_59 rfl (zlt rfl) rfl ?_
        refine re_iinc (v := 1) (lv' := [some (.ref (zA w o)), some (.int u1), some (.int (x2 + (M (o + 2) (zIx x3)))), some (.int (x3 + 1))]) X dX0_countedSpeeches_60 rfl (by decide) rfl ?_
        refine re_goto (tgt := 30) X dX0_countedSpeeches_63 (by decide) ?_
        exact ih (x2 + (M (o + 2) (zIx x3))) (x3 + 1) M
      · refine re_iinc (v := 1) (lv' := [some (.ref (zA w o)), some (.int u1), some (.int x2), some (.int (x3 + 1))]) X dX0_countedSpeeches_60 rfl (by decide) rfl ?_
        refine re_goto (tgt := 30) X dX0_countedSpeeches_63 (by decide) ?_
        exact ih x2 (x3 + 1) M

set_option maxRecDepth 100000 in
theorem lk_X0_countedSpeeches (l : Launch) (w : zWD) (o : Nat) (u1 : Int32) (ho : zKd w o = (0, 8)) : zMt l w yX0_countedSpeeches cX0_countedSpeeches 4 (some .int) rm_X0_countedSpeeches 1 [.ref (zA w o), .int u1] (fun M => f_X0_countedSpeeches o u1 M) := by
  refine zMt.of (by decide) [some (.ref (zA w o)), some (.int u1), none, none] rfl (zle rfl) (by intro v hv; simp only [List.mem_cons, List.not_mem_nil, or_false] at hv; rcases hv with rfl | rfl <;> rfl) ?_
  intro p e s m args below meth c X M
  unfold f_X0_countedSpeeches
  refine re_iload_n X dX0_countedSpeeches_0 rfl rfl ?_
  refine re_callNz X (lk_X9_isMember l w u1) (ca_X9_isMember (by decide) (by decide)) (zN_10) sm_X9_isMember rfl rfl rfl (zle rfl) zRo dX0_countedSpeeches_1 (fun r1 M2 hr1 => ?_)
  refine re_if_ne (tgt := 9) X dX0_countedSpeeches_4 (by decide) (fun _ => ?_) (fun _ => ?_)
  · refine re_iconst (v := 0) X dX0_countedSpeeches_7 (by decide) ?_
    exact re_iret X dX0_countedSpeeches_8
  · refine re_aload_n X dX0_countedSpeeches_9 rfl rfl ?_
    refine re_getR X cl_0 (by decide) fl_RX0_22 ho rfl (zR_0_0 ho) dX0_countedSpeeches_10 ?_
    refine re_getI X cl_6 (by decide) fl_RX0_72 (zQ_0_0 X.clo ho) rfl dX0_countedSpeeches_13 ?_
    refine re_if_ne (tgt := 26) X dX0_countedSpeeches_16 (by decide) (fun _ => ?_) (fun _ => ?_)
    · refine re_aload_n X dX0_countedSpeeches_19 rfl rfl ?_
      refine re_getR X cl_0 (by decide) fl_RX0_15 ho rfl (zR_0_3 ho) dX0_countedSpeeches_20 ?_
      refine re_iload_n X dX0_countedSpeeches_23 rfl rfl ?_
      refine re_ck (fun hi3 => ?_)
      refine re_iald X (zQ_0_3 X.clo ho) hi3 (j := zIx u1) rfl dX0_countedSpeeches_24 ?_
      exact re_iret X dX0_countedSpeeches_25
    · refine re_iconst (v := 0) X dX0_countedSpeeches_26 (by decide) ?_
      refine re_istore_n (lv' := [some (.ref (zA w o)), some (.int u1), some (.int 0), none]) X dX0_countedSpeeches_27 rfl (zlt rfl) rfl ?_
      refine re_iconst (v := 0) X dX0_countedSpeeches_28 (by decide) ?_
      refine re_istore_n (lv' := [some (.ref (zA w o)), some (.int u1), some (.int 0), some (.int 0)]) X dX0_countedSpeeches_29 rfl (zlt rfl) rfl ?_
      exact lb_X0_countedSpeeches_30 X ho zFu 0 0 M2
theorem ca_X0_countedSpeeches {R : Room} (h1 : rm_X0_countedSpeeches.frames + 1 ≤ R.frames) (h2 : 8 + (4 + 11) + rm_X0_countedSpeeches.locals ≤ R.locals) : zCa yX0_countedSpeeches cX0_countedSpeeches 4 (some .int) rm_X0_countedSpeeches R 1 := ⟨cd_X0_countedSpeeches, iz_RX0, ⟨by decide, by decide, by decide⟩, rfl, rfl, h1, h2⟩
/-! DebateHouse$Floor.nextPlace -/
abbrev rm_X0_nextPlace : Room := { frames := 2, cells := 0, slots := 0, locals := 43 }
def f_X0_nextPlace_L6 (o : Nat)  : Nat → Int32 → Int32 → Int32 → zMem → zTr
  | 0, _, _, _, _ => none
  | n + 1, x1, x2, x3, M => if (M o 4) ≤ x3 then some (x1, M) else if 24 ≤ x3 then some (x1, M) else zCk (zIn x3 24) (zBd (f_X0_countedSpeeches o (M (o + 1) (zIx x3)) M) (fun r2 M3 => if x1 = (-1) then f_X0_nextPlace_L6 o n x3 r2 (x3 + 1) M3 else if x2 ≤ r2 then f_X0_nextPlace_L6 o n x1 x2 (x3 + 1) M3 else f_X0_nextPlace_L6 o n x3 r2 (x3 + 1) M3))
def f_X0_nextPlace (o : Nat) (M : zMem) : zTr := f_X0_nextPlace_L6 o zFu (-1) 0 0 M
set_option maxRecDepth 100000 in
theorem lb_X0_nextPlace_6 {p : Program} {l : Launch} {e : Env} {s : State} {m : MethodId} {args : Array Value} {below : List Frame} {meth : Method} {c : Code} {w : zWD} {o : Nat} (X : zCx p s m args meth c w (zFree w) RX0 cX0_nextPlace 5 (some .int)) (ho : zKd w o = (0, 8)) : ∀ (n : Nat) (x1 : Int32) (x2 : Int32) (x3 : Int32) (M : zMem), zRm p l e rm_X0_nextPlace s m args below meth c w 1 6 [some (.ref (zA w o)), some (.int x1), some (.int x2), some (.int x3), none] [] M (f_X0_nextPlace_L6 o n x1 x2 x3 M) := by
  intro n
  induction n with
  | zero => intro x1 x2 x3 M; exact re_none
  | succ n ih =>
    intro x1 x2 x3 M
    rw [f_X0_nextPlace_L6]
    refine re_iload_n X dX0_nextPlace_6 rfl rfl ?_
    refine re_aload_n X dX0_nextPlace_7 rfl rfl ?_
    refine re_getI X cl_0 (by decide) fl_RX0_29 ho rfl dX0_nextPlace_8 ?_
    refine re_icmp_ge (tgt := 54) X dX0_nextPlace_11 (by decide) (fun _ => ?_) (fun _ => ?_)
    · refine re_iload_n X dX0_nextPlace_54 rfl rfl ?_
      exact re_iret X dX0_nextPlace_55
    · refine re_iload_n X dX0_nextPlace_14 rfl rfl ?_
      refine re_bipush (v := 24) X dX0_nextPlace_15 (by decide) ?_
      refine re_icmp_ge (tgt := 54) X dX0_nextPlace_17 (by decide) (fun _ => ?_) (fun _ => ?_)
      · refine re_iload_n X dX0_nextPlace_54 rfl rfl ?_
        exact re_iret X dX0_nextPlace_55
      · refine re_aload_n X dX0_nextPlace_20 rfl rfl ?_
        refine re_aload_n X dX0_nextPlace_21 rfl rfl ?_
        refine re_getR X cl_0 (by decide) fl_RX0_9 ho rfl (zR_0_2 ho) dX0_nextPlace_22 ?_
        refine re_iload_n X dX0_nextPlace_25 rfl rfl ?_
        refine re_ck (fun hi1 => ?_)
        refine re_iald X (zQ_0_2 X.clo ho) hi1 (j := zIx x3) rfl dX0_nextPlace_26 ?_
        refine re_callVi X (lk_X0_countedSpeeches l w o (M (o + 1) (zIx x3)) ho) (ca_X0_countedSpeeches (by decide) (by decide)) ml_RX0_69 im_X0_countedSpeeches se_X0_countedSpeeches cl_0 ho rfl rfl rfl (zle rfl) zRo dX0_nextPlace_27 (fun r2 M3 hr2 => ?_)
        refine re_istore (lv' := [some (.ref (zA w o)), some (.int x1), some (.int x2), some (.int x3), some (.int r2)]) X dX0_nextPlace_30 (zlt rfl) rfl ?_
        refine re_iload_n X dX0_nextPlace_32 rfl rfl ?_
        refine re_iconst (v := -1) X dX0_nextPlace_33 (by decide) ?_
        refine re_icmp_eq (tgt := 43) X dX0_nextPlace_34 (by decide) (fun _ => ?_) (fun _ => ?_)
        · refine re_iload_n X dX0_nextPlace_43 rfl rfl ?_
          refine re_istore_n (lv' := [some (.ref (zA w o)), some (.int x3), some (.int x2), some (.int x3), some (.int r2)]) X dX0_nextPlace_44 rfl (zlt rfl) rfl ?_
          refine re_iload X dX0_nextPlace_45 rfl ?_
          refine re_istore_n (lv' := [some (.ref (zA w o)), some (.int x3), some (.int r2), some (.int x3), some (.int r2)]) X dX0_nextPlace_47 rfl (zlt rfl) rfl ?_
          refine re_iinc (v := 1) (lv' := [some (.ref (zA w o)), some (.int x3), some (.int r2), some (.int (x3 + 1)), some (.int r2)]) X dX0_nextPlace_48 rfl (by decide) rfl ?_
          refine re_goto (tgt := 6) X dX0_nextPlace_51 (by decide) ?_
          exact re_sub (ih x3 r2 (x3 + 1) M3) ⟨rfl, ⟨rfl, ⟨rfl, ⟨rfl, trivial⟩⟩⟩⟩
        · refine re_iload X dX0_nextPlace_37 rfl ?_
          refine re_iload_n X dX0_nextPlace_39 rfl rfl ?_
          refine re_icmp_ge (tgt := 48) X dX0_nextPlace_40 (by decide) (fun _ => ?_) (fun _ => ?_)
          · refine re_iinc (v := 1) (lv' := [some (.ref (zA w o)), some (.int x1), some (.int x2), some (.int (x3 + 1)), some (.int r2)]) X dX0_nextPlace_48 rfl (by decide) rfl ?_
            refine re_goto (tgt := 6) X dX0_nextPlace_51 (by decide) ?_
            exact re_sub (ih x1 x2 (x3 + 1) M3) ⟨rfl, ⟨rfl, ⟨rfl, ⟨rfl, trivial⟩⟩⟩⟩
          · refine re_iload_n X dX0_nextPlace_43 rfl rfl ?_
            refine re_istore_n (lv' := [some (.ref (zA w o)), some (.int x3), some (.int x2), some (.int x3), some (.int r2)]) X dX0_nextPlace_44 rfl (zlt rfl) rfl ?_
            refine re_iload X dX0_nextPlace_45 rfl ?_
            refine re_istore_n (lv' := [some (.ref (zA w o)), some (.int x3), some (.int r2), some (.int x3), some (.int r2)]) X dX0_nextPlace_47 rfl (zlt rfl) rfl ?_
            refine re_iinc (v := 1) (lv' := [some (.ref (zA w o)), some (.int x3), some (.int r2), some (.int (x3 + 1)), some (.int r2)]) X dX0_nextPlace_48 rfl (by decide) rfl ?_
            refine re_goto (tgt := 6) X dX0_nextPlace_51 (by decide) ?_
            exact re_sub (ih x3 r2 (x3 + 1) M3) ⟨rfl, ⟨rfl, ⟨rfl, ⟨rfl, trivial⟩⟩⟩⟩

set_option maxRecDepth 100000 in
theorem lk_X0_nextPlace (l : Launch) (w : zWD) (o : Nat) (ho : zKd w o = (0, 8)) : zMt l w yX0_nextPlace cX0_nextPlace 5 (some .int) rm_X0_nextPlace 1 [.ref (zA w o)] (fun M => f_X0_nextPlace o M) := by
  refine zMt.of (by decide) [some (.ref (zA w o)), none, none, none, none] rfl (zle rfl) (by intro v hv; simp only [List.mem_cons, List.not_mem_nil, or_false] at hv; rcases hv with rfl <;> rfl) ?_
  intro p e s m args below meth c X M
  unfold f_X0_nextPlace
  refine re_iconst (v := -1) X dX0_nextPlace_0 (by decide) ?_
  refine re_istore_n (lv' := [some (.ref (zA w o)), some (.int (-1)), none, none, none]) X dX0_nextPlace_1 rfl (zlt rfl) rfl ?_
  refine re_iconst (v := 0) X dX0_nextPlace_2 (by decide) ?_
  refine re_istore_n (lv' := [some (.ref (zA w o)), some (.int (-1)), some (.int 0), none, none]) X dX0_nextPlace_3 rfl (zlt rfl) rfl ?_
  refine re_iconst (v := 0) X dX0_nextPlace_4 (by decide) ?_
  refine re_istore_n (lv' := [some (.ref (zA w o)), some (.int (-1)), some (.int 0), some (.int 0), none]) X dX0_nextPlace_5 rfl (zlt rfl) rfl ?_
  exact lb_X0_nextPlace_6 X ho zFu (-1) 0 0 M
theorem ca_X0_nextPlace {R : Room} (h1 : rm_X0_nextPlace.frames + 1 ≤ R.frames) (h2 : 8 + (5 + 11) + rm_X0_nextPlace.locals ≤ R.locals) : zCa yX0_nextPlace cX0_nextPlace 5 (some .int) rm_X0_nextPlace R 0 := ⟨cd_X0_nextPlace, iz_RX0, ⟨by decide, by decide, by decide⟩, rfl, rfl, h1, h2⟩
/-! DebateHouse$Floor.callNext -/
abbrev rm_X0_callNext : Room := { frames := 3, cells := 0, slots := 0, locals := 67 }
def f_X0_callNext (o : Nat) (u1 : Int32) (M : zMem) : zTr := zBd (f_X0_nextPlace o M) (fun r1 M2 => if r1 < 0 then some (0, M2) else if r1 < 24 then zCk (zIn r1 24) (zBd (f_X0_dequeue o r1 M2) (fun _ M5 => zLt (zUp M5 o 5 (M2 (o + 1) (zIx r1))) (fun M6 => zLt (zUp M6 o 6 u1) (fun M7 => zLt (zUp M7 o 7 0) (fun M8 => zBd (f_X9_isMember (M2 (o + 1) (zIx r1)) M8) (fun r9 M10 => if r9 = 0 then some (0, M10) else zCk (zIn (M2 (o + 1) (zIx r1)) 24) (zCk (zIn (M2 (o + 1) (zIx r1)) 24) (zLt (zUp M10 (o + 2) (zIx (M2 (o + 1) (zIx r1))) ((M10 (o + 2) (zIx (M2 (o + 1) (zIx r1)))) + 1)) (fun M12 => some (0, M12)))))))))) else some (0, M2))
set_option maxRecDepth 100000 in
theorem lk_X0_callNext (l : Launch) (w : zWD) (o : Nat) (u1 : Int32) (ho : zKd w o = (0, 8)) : zMt l w yX0_callNext cX0_callNext 4 none rm_X0_callNext 0 [.ref (zA w o), .int u1] (fun M => f_X0_callNext o u1 M) := by
  refine zMt.of (by decide) [some (.ref (zA w o)), some (.int u1), none, none] rfl (zle rfl) (by intro v hv; simp only [List.mem_cons, List.not_mem_nil, or_false] at hv; rcases hv with rfl | rfl <;> rfl) ?_
  intro p e s m args below meth c X M
  unfold f_X0_callNext
  refine re_aload_n X dX0_callNext_0 rfl rfl ?_
  refine re_callVi X (lk_X0_nextPlace l w o ho) (ca_X0_nextPlace (by decide) (by decide)) ml_RX0_55 im_X0_nextPlace se_X0_nextPlace cl_0 ho rfl rfl rfl (zle rfl) zRo dX0_callNext_1 (fun r1 M2 hr1 => ?_)
  refine re_istore_n (lv' := [some (.ref (zA w o)), some (.int u1), some (.int r1), none]) X dX0_callNext_4 rfl (zlt rfl) rfl ?_
  refine re_iload_n X dX0_callNext_5 rfl rfl ?_
  refine re_if_lt (tgt := 15) X dX0_callNext_6 (by decide) (fun _ => ?_) (fun _ => ?_)
  · exact re_vret X dX0_callNext_15
  · refine re_iload_n X dX0_callNext_9 rfl rfl ?_
    refine re_bipush (v := 24) X dX0_callNext_10 (by decide) ?_
    refine re_icmp_lt (tgt := 16) X dX0_callNext_12 (by decide) (fun _ => ?_) (fun _ => ?_)
    · refine re_aload_n X dX0_callNext_16 rfl rfl ?_
      refine re_getR X cl_0 (by decide) fl_RX0_9 ho rfl (zR_0_2 ho) dX0_callNext_17 ?_
      refine re_iload_n X dX0_callNext_20 rfl rfl ?_
      refine re_ck (fun hi3 => ?_)
      refine re_iald X (zQ_0_2 X.clo ho) hi3 (j := zIx r1) rfl dX0_callNext_21 ?_
      refine re_istore_n (lv' := [some (.ref (zA w o)), some (.int u1), some (.int r1), some (.int (M2 (o + 1) (zIx r1)))]) X dX0_callNext_22 rfl (zlt rfl) rfl ?_
      refine re_aload_n X dX0_callNext_23 rfl rfl ?_
      refine re_iload_n X dX0_callNext_24 rfl rfl ?_
      refine re_callVv X (lk_X0_dequeue l w o r1 ho) (ca_X0_dequeue (by decide) (by decide)) ml_RX0_51 im_X0_dequeue se_X0_dequeue cl_0 ho rfl rfl rfl (zle rfl) zRo dX0_callNext_25 (fun r4 M5 hr4 => ?_)
      refine re_aload_n X dX0_callNext_28 rfl rfl ?_
      refine re_iload_n X dX0_callNext_29 rfl rfl ?_
      refine re_putI X cl_0 (by decide) fl_RX0_18 ho rfl rfl rfl dX0_callNext_30 (fun M6 => ?_)
      refine re_aload_n X dX0_callNext_33 rfl rfl ?_
      refine re_iload_n X dX0_callNext_34 rfl rfl ?_
      refine re_putI X cl_0 (by decide) fl_RX0_35 ho rfl rfl rfl dX0_callNext_35 (fun M7 => ?_)
      refine re_aload_n X dX0_callNext_38 rfl rfl ?_
      refine re_iconst (v := 0) X dX0_callNext_39 (by decide) ?_
      refine re_putZ X cl_0 (by decide) fl_RX0_38 ho rfl rfl rfl (Or.inl rfl) dX0_callNext_40 (fun M8 => ?_)
      refine re_iload_n X dX0_callNext_43 rfl rfl ?_
      refine re_callNz X (lk_X9_isMember l w (M2 (o + 1) (zIx r1))) (ca_X9_isMember (by decide) (by decide)) (zN_10) sm_X9_isMember rfl rfl rfl (zle rfl) zRo dX0_callNext_44 (fun r9 M10 hr9 => ?_)
      refine re_if_eq (tgt := 60) X dX0_callNext_47 (by decide) (fun _ => ?_) (fun _ => ?_)
      · exact re_vret X dX0_callNext_60
      · refine re_aload_n X dX0_callNext_50 rfl rfl ?_
        refine re_getR X cl_0 (by decide) fl_RX0_15 ho rfl (zR_0_3 ho) dX0_callNext_51 ?_
        refine re_iload_n X dX0_callNext_54 rfl rfl ?_
        refine re_dup2 X dX0_callNext_55 rfl rfl ?_
        refine re_ck (fun hi11 => ?_)
        refine re_iald X (zQ_0_3 X.clo ho) hi11 (j := zIx (M2 (o + 1) (zIx r1))) rfl dX0_callNext_56 ?_
        refine re_iconst (v := 1) X dX0_callNext_57 (by decide) ?_
        refine re_iadd X dX0_callNext_58 ?_
        refine re_ck (fun hi13 => ?_)
        refine re_iast X (zQ_0_3 X.clo ho) hi13 (j := zIx (M2 (o + 1) (zIx r1))) rfl dX0_callNext_59 (fun M12 => ?_)
        exact re_vret X dX0_callNext_60
    · exact re_vret X dX0_callNext_15
theorem ca_X0_callNext {R : Room} (h1 : rm_X0_callNext.frames + 1 ≤ R.frames) (h2 : 8 + (4 + 11) + rm_X0_callNext.locals ≤ R.locals) : zCa yX0_callNext cX0_callNext 4 none rm_X0_callNext R 1 := ⟨cd_X0_callNext, iz_RX0, ⟨by decide, by decide, by decide⟩, rfl, rfl, h1, h2⟩
/-! DebateHouse$Floor.yieldTo -/
abbrev rm_X0_yieldTo : Room := { frames := 0, cells := 0, slots := 0, locals := 0 }
def f_X0_yieldTo (o : Nat) (u1 : Int32) (M : zMem) : zTr := zLt (zUp M o 5 u1) (fun M1 => zLt (zUp M1 o 7 1) (fun M2 => some (0, M2)))
set_option maxRecDepth 100000 in
theorem lk_X0_yieldTo (l : Launch) (w : zWD) (o : Nat) (u1 : Int32) (ho : zKd w o = (0, 8)) : zMt l w yX0_yieldTo cX0_yieldTo 2 none rm_X0_yieldTo 0 [.ref (zA w o), .int u1] (fun M => f_X0_yieldTo o u1 M) := by
  refine zMt.of (by decide) [some (.ref (zA w o)), some (.int u1)] rfl (zle rfl) (by intro v hv; simp only [List.mem_cons, List.not_mem_nil, or_false] at hv; rcases hv with rfl | rfl <;> rfl) ?_
  intro p e s m args below meth c X M
  unfold f_X0_yieldTo
  refine re_aload_n X dX0_yieldTo_0 rfl rfl ?_
  refine re_iload_n X dX0_yieldTo_1 rfl rfl ?_
  refine re_putI X cl_0 (by decide) fl_RX0_18 ho rfl rfl rfl dX0_yieldTo_2 (fun M1 => ?_)
  refine re_aload_n X dX0_yieldTo_5 rfl rfl ?_
  refine re_iconst (v := 1) X dX0_yieldTo_6 (by decide) ?_
  refine re_putZ X cl_0 (by decide) fl_RX0_38 ho rfl rfl rfl (Or.inr rfl) dX0_yieldTo_7 (fun M2 => ?_)
  exact re_vret X dX0_yieldTo_10
theorem ca_X0_yieldTo {R : Room} (h1 : rm_X0_yieldTo.frames + 1 ≤ R.frames) (h2 : 8 + (2 + 11) + rm_X0_yieldTo.locals ≤ R.locals) : zCa yX0_yieldTo cX0_yieldTo 2 none rm_X0_yieldTo R 1 := ⟨cd_X0_yieldTo, iz_RX0, ⟨by decide, by decide, by decide⟩, rfl, rfl, h1, h2⟩
/-! DebateHouse$Floor.spend -/
abbrev rm_X0_spend : Room := { frames := 1, cells := 0, slots := 0, locals := 21 }
def f_X0_spend (o : Nat) (u1 : Int32) (M : zMem) : zTr := zLt (zUp M o 6 (zMax 0 ((M o 6) - u1))) (fun M1 => if (M1 o 6) = 0 then zBd (f_X0_setFree o M1) (fun _ M3 => some (0, M3)) else some (0, M1))
set_option maxRecDepth 100000 in
theorem lk_X0_spend (l : Launch) (w : zWD) (o : Nat) (u1 : Int32) (ho : zKd w o = (0, 8)) : zMt l w yX0_spend cX0_spend 2 none rm_X0_spend 0 [.ref (zA w o), .int u1] (fun M => f_X0_spend o u1 M) := by
  refine zMt.of (by decide) [some (.ref (zA w o)), some (.int u1)] rfl (zle rfl) (by intro v hv; simp only [List.mem_cons, List.not_mem_nil, or_false] at hv; rcases hv with rfl | rfl <;> rfl) ?_
  intro p e s m args below meth c X M
  unfold f_X0_spend
  refine re_aload_n X dX0_spend_0 rfl rfl ?_
  refine re_iconst (v := 0) X dX0_spend_1 (by decide) ?_
  refine re_aload_n X dX0_spend_2 rfl rfl ?_
  refine re_getI X cl_0 (by decide) fl_RX0_35 ho rfl dX0_spend_3 ?_
  refine re_iload_n X dX0_spend_6 rfl rfl ?_
  refine re_isub X dX0_spend_7 ?_
  refine re_mmax X ml_RX0_63 (by decide) rfl (zle rfl) zRo dX0_spend_8 ?_
  refine re_putI X cl_0 (by decide) fl_RX0_35 ho rfl rfl rfl dX0_spend_11 (fun M1 => ?_)
  refine re_aload_n X dX0_spend_14 rfl rfl ?_
  refine re_getI X cl_0 (by decide) fl_RX0_35 ho rfl dX0_spend_15 ?_
  refine re_if_ne (tgt := 25) X dX0_spend_18 (by decide) (fun _ => ?_) (fun _ => ?_)
  · refine re_aload_n X dX0_spend_21 rfl rfl ?_
    refine re_callVv X (lk_X0_setFree l w o ho) (ca_X0_setFree (by decide) (by decide)) ml_RX0_32 im_X0_setFree se_X0_setFree cl_0 ho rfl rfl rfl (zle rfl) zRo dX0_spend_22 (fun r2 M3 hr2 => ?_)
    exact re_vret X dX0_spend_25
  · exact re_vret X dX0_spend_25
theorem ca_X0_spend {R : Room} (h1 : rm_X0_spend.frames + 1 ≤ R.frames) (h2 : 8 + (2 + 11) + rm_X0_spend.locals ≤ R.locals) : zCa yX0_spend cX0_spend 2 none rm_X0_spend R 1 := ⟨cd_X0_spend, iz_RX0, ⟨by decide, by decide, by decide⟩, rfl, rfl, h1, h2⟩
