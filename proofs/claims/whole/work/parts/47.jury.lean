def f_X1_init_L54  (k39 : Int32 → zMem → zTr) : Nat → Int32 → Int32 → zMem → zTr
  | 0, _, _, _ => none
  | n + 1, x2, x3, M => if 24 ≤ x3 then k39 (x2 + 1) M else zCk (zIn x2 6) (zCk (zIn x3 24) (zLt (zUp M (67 + zIx x2) (zIx x3) (-1)) (fun M4 => f_X1_init_L54 k39 n x2 (x3 + 1) M4)))
def f_X1_init_L39   : Nat → Int32 → zMem → zTr
  | 0, _, _ => none
  | n + 1, x2, M => if 6 ≤ x2 then some (0, M) else zCk (zIn x2 6) (zLt (zUp M 65 (zIx x2) (-1)) (fun M1 => f_X1_init_L54 (fun x2 M => f_X1_init_L39 n x2 M) zFu x2 0 M1))
set_option maxRecDepth 100000 in
theorem lb_X1_init_54 {p : Program} {l : Launch} {e : Env} {R : Room} {s : State} {m : MethodId} {args : Array Value} {below : List Frame} {meth : Method} {c : Code} {w : zWD} {A : Nat → Prop} {cs ss : Nat} {Qe : Int32 → zMem → State → Prop} (X : zCx p s m args meth c w A RX1 cX1_init 4 none) (ho : zKd w 64 = (1, 4)) (hret : ∀ M : zMem, zRe p l e R s m args below meth c w A cs ss Qe 81 [some (.ref (zA w 64)), none, none, none] [] M (some (0, M))) (k39 : Int32 → zMem → zTr) (hk39 : ∀ (x2 : Int32) (M : zMem), zRe p l e R s m args below meth c w A cs ss Qe 39 [some (.ref (zA w 64)), none, some (.int x2), none] [] M (k39 x2 M)) : ∀ (n : Nat) (x2 : Int32) (x3 : Int32) (M : zMem), zRe p l e R s m args below meth c w A cs ss Qe 54 [some (.ref (zA w 64)), none, some (.int x2), some (.int x3)] [] M (f_X1_init_L54 k39 n x2 x3 M) := by
  intro n
  induction n with
  | zero => intro x2 x3 M; exact re_none
  | succ n ih =>
    intro x2 x3 M
    rw [f_X1_init_L54]
    refine re_iload_n X dX1_init_54 rfl rfl ?_
    refine re_bipush (v := 24) X dX1_init_55 (by decide) ?_
    refine re_icmp_ge (tgt := 75) X dX1_init_57 (by decide) (fun _ => ?_) (fun _ => ?_)
    · refine re_iinc (v := 1) (lv' := [some (.ref (zA w 64)), none, some (.int (x2 + 1)), some (.int x3)]) X dX1_init_75 rfl (by decide) rfl ?_
      refine re_goto (tgt := 39) X dX1_init_78 (by decide) ?_
      exact re_sub (hk39 (x2 + 1) M) ⟨rfl, ⟨rfl, trivial⟩⟩
    · refine re_aload_n X dX1_init_60 rfl rfl ?_
      refine re_getR X cl_1 (by decide) fl_RX1_17 ho rfl (zR_1_2 ho) dX1_init_61 ?_
      refine re_iload_n X dX1_init_64 rfl rfl ?_
      refine re_ck (fun hi3 => ?_)
      refine re_aald X (zQ_1_2 X.clo ho) (by decide) hi3 rfl (rw_66 (zIx_lt hi3)) dX1_init_65 ?_
      refine re_iload_n X dX1_init_66 rfl rfl ?_
      refine re_iconst (v := -1) X dX1_init_67 (by decide) ?_
      refine re_ck (fun hi5 => ?_)
      refine re_iast X (rk_66 X.clo (zQ_1_2 X.clo ho) (zIx_lt hi3)) hi5 (j := zIx x3) rfl dX1_init_68 (fun M4 => ?_)
      refine re_iinc (v := 1) (lv' := [some (.ref (zA w 64)), none, some (.int x2), some (.int (x3 + 1))]) X dX1_init_69 rfl (by decide) rfl ?_
      refine re_goto (tgt := 54) X dX1_init_72 (by decide) ?_
      exact ih x2 (x3 + 1) M4

set_option maxRecDepth 100000 in
theorem lb_X1_init_39 {p : Program} {l : Launch} {e : Env} {R : Room} {s : State} {m : MethodId} {args : Array Value} {below : List Frame} {meth : Method} {c : Code} {w : zWD} {A : Nat → Prop} {cs ss : Nat} {Qe : Int32 → zMem → State → Prop} (X : zCx p s m args meth c w A RX1 cX1_init 4 none) (ho : zKd w 64 = (1, 4)) (hret : ∀ M : zMem, zRe p l e R s m args below meth c w A cs ss Qe 81 [some (.ref (zA w 64)), none, none, none] [] M (some (0, M))) : ∀ (n : Nat) (x2 : Int32) (M : zMem), zRe p l e R s m args below meth c w A cs ss Qe 39 [some (.ref (zA w 64)), none, some (.int x2), none] [] M (f_X1_init_L39 n x2 M) := by
  intro n
  induction n with
  | zero => intro x2 M; exact re_none
  | succ n ih =>
    intro x2 M
    rw [f_X1_init_L39]
    refine re_iload_n X dX1_init_39 rfl rfl ?_
    refine re_bipush (v := 6) X dX1_init_40 (by decide) ?_
    refine re_icmp_ge (tgt := 81) X dX1_init_42 (by decide) (fun _ => ?_) (fun _ => ?_)
    · exact re_sub (hret M) ⟨rfl, trivial⟩
    · refine re_aload_n X dX1_init_45 rfl rfl ?_
      refine re_getR X cl_1 (by decide) fl_RX1_9 ho rfl (zR_1_1 ho) dX1_init_46 ?_
      refine re_iload_n X dX1_init_49 rfl rfl ?_
      refine re_iconst (v := -1) X dX1_init_50 (by decide) ?_
      refine re_ck (fun hi2 => ?_)
      refine re_iast X (zQ_1_1 X.clo ho) hi2 (j := zIx x2) rfl dX1_init_51 (fun M1 => ?_)
      refine re_iconst (v := 0) X dX1_init_52 (by decide) ?_
      refine re_istore_n (lv' := [some (.ref (zA w 64)), none, some (.int x2), some (.int 0)]) X dX1_init_53 rfl (zlt rfl) rfl ?_
      exact lb_X1_init_54 X ho hret _ ih zFu x2 0 M1

def f_X1_init (M : zMem) : zTr := f_X1_init_L39 zFu 0 M
set_option maxRecDepth 100000 in
theorem lb_X1_init_0 {p : Program} {l : Launch} {e : Env} {R : Room} {s : State} {m : MethodId} {args : Array Value} {below : List Frame} {meth : Method} {c : Code} {w : zWD} {A : Nat → Prop} {cs ss : Nat} {Qe : Int32 → zMem → State → Prop} (X : zCx p s m args meth c w A RX1 cX1_init 4 none) (ho : zKd w 64 = (1, 4)) (hret : ∀ M : zMem, zRe p l e R s m args below meth c w A cs ss Qe 81 [some (.ref (zA w 64)), none, none, none] [] M (some (0, M))) : ∀ M : zMem, zRe p l e R s m args below meth c w A cs ss Qe 37 [some (.ref (zA w 64)), none, none, none] [] M (f_X1_init M) := by
  intro M
  unfold f_X1_init
  refine re_iconst (v := 0) X dX1_init_37 (by decide) ?_
  refine re_istore_n (lv' := [some (.ref (zA w 64)), none, some (.int 0), none]) X dX1_init_38 rfl (zlt rfl) rfl ?_
  exact lb_X1_init_39 X ho hret zFu 0 M
