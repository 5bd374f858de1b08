/-! DebateHouse$Paper.takeAway -/
abbrev rm_X4_takeAway : Room := { frames := 0, cells := 0, slots := 0, locals := 0 }
def f_X4_takeAway (o : Nat) (M : zMem) : zTr := zLt (zUp M o 3 0) (fun M1 => zLt (zUp M1 o 4 0) (fun M2 => zLt (zUp M2 o 5 0) (fun M3 => some (0, M3))))
set_option maxRecDepth 100000 in
theorem lk_X4_takeAway (l : Launch) (w : zWD) (o : Nat) (ho : zKd w o = (4, 6)) : zMt l w yX4_takeAway cX4_takeAway 1 none rm_X4_takeAway 0 [.ref (zA w o)] (fun M => f_X4_takeAway o M) := by
  refine zMt.of (by decide) [some (.ref (zA w o))] rfl (zle rfl) (by intro v hv; simp only [List.mem_cons, List.not_mem_nil, or_false] at hv; rcases hv with rfl <;> rfl) ?_
  intro p e s m args below meth c X M
  unfold f_X4_takeAway
  refine re_aload_n X dX4_takeAway_0 rfl rfl ?_
  refine re_iconst (v := 0) X dX4_takeAway_1 (by decide) ?_
  refine re_putZ X cl_4 (by decide) fl_RX4_21 ho rfl rfl rfl (Or.inl rfl) dX4_takeAway_2 (fun M1 => ?_)
  refine re_aload_n X dX4_takeAway_5 rfl rfl ?_
  refine re_iconst (v := 0) X dX4_takeAway_6 (by decide) ?_
  refine re_putI X cl_4 (by decide) fl_RX4_25 ho rfl rfl rfl dX4_takeAway_7 (fun M2 => ?_)
  refine re_aload_n X dX4_takeAway_10 rfl rfl ?_
  refine re_iconst (v := 0) X dX4_takeAway_11 (by decide) ?_
  refine re_putI X cl_4 (by decide) fl_RX4_29 ho rfl rfl rfl dX4_takeAway_12 (fun M3 => ?_)
  exact re_vret X dX4_takeAway_15
theorem ca_X4_takeAway {R : Room} (h1 : rm_X4_takeAway.frames + 1 ≤ R.frames) (h2 : 8 + (1 + 11) + rm_X4_takeAway.locals ≤ R.locals) : zCa yX4_takeAway cX4_takeAway 1 none rm_X4_takeAway R 0 := ⟨cd_X4_takeAway, iz_RX4, ⟨by decide, by decide, by decide⟩, rfl, rfl, h1, h2⟩
/-! DebateHouse$Paper.insert -/
abbrev rm_X4_insert : Room := { frames := 0, cells := 0, slots := 0, locals := 0 }
def f_X4_insert_B60 (o : Nat) (u1 : Int32) (u2 : Int32)  (M : zMem) : zTr := zCk (zIn u1 320) (zLt (zUp M (o + 1) (zIx u1) (M o 4)) (fun M1 => zCk (zIn (M1 o 4) 320) (zLt (zUp M1 (o + 2) (zIx (M1 o 4)) u2) (fun M3 => zCk (zIn (M3 o 4) 320) (zLt (zUp M3 (o + 3) (zIx (M3 o 4)) 0) (fun M5 => zLt (zUp M5 o 4 ((M5 o 4) + 1)) (fun M7 => zLt (zUp M7 o 5 ((M7 o 5) + 1)) (fun M8 => some (0, M8)))))))))
def f_X4_insert_L35 (o : Nat) (u1 : Int32) (u2 : Int32)  : Nat → Int32 → zMem → zTr
  | 0, _, _ => none
  | n + 1, x3, M => if x3 ≤ u1 then f_X4_insert_B60 o u1 u2 M else zCk (zIn (x3 - 1) 320) (zCk (zIn x3 320) (zLt (zUp M (o + 1) (zIx x3) (M (o + 1) (zIx (x3 - 1)))) (fun M10 => f_X4_insert_L35 o u1 u2 n (x3 + (-1)) M10)))
def f_X4_insert (o : Nat) (u1 : Int32) (u2 : Int32) (M : zMem) : zTr := if (M o 4) < 0 then some (0, M) else if 320 ≤ (M o 4) then some (0, M) else if u1 < 0 then some (0, M) else if u1 ≤ (M o 4) then f_X4_insert_L35 o u1 u2 zFu (M o 4) M else some (0, M)
set_option maxRecDepth 100000 in
theorem lb_X4_insert_60 {p : Program} {l : Launch} {e : Env} {s : State} {m : MethodId} {args : Array Value} {below : List Frame} {meth : Method} {c : Code} {w : zWD} {o : Nat} {u1 : Int32} {u2 : Int32} (X : zCx p s m args meth c w (zFree w) RX4 cX4_insert 4 none) (ho : zKd w o = (4, 6)) : ∀ (M : zMem), zRm p l e rm_X4_insert s m args below meth c w 0 60 [some (.ref (zA w o)), some (.int u1), some (.int u2), none] [] M (f_X4_insert_B60 o u1 u2 M) := by
  intro M
  unfold f_X4_insert_B60
  refine re_aload_n X dX4_insert_60 rfl rfl ?_
  refine re_getR X cl_4 (by decide) fl_RX4_9 ho rfl (zR_4_0 ho) dX4_insert_61 ?_
  refine re_iload_n X dX4_insert_64 rfl rfl ?_
  refine re_aload_n X dX4_insert_65 rfl rfl ?_
  refine re_getI X cl_4 (by decide) fl_RX4_25 ho rfl dX4_insert_66 ?_
  refine re_ck (fun hi2 => ?_)
  refine re_iast X (zQ_4_0 X.clo ho) hi2 (j := zIx u1) rfl dX4_insert_69 (fun M1 => ?_)
  refine re_aload_n X dX4_insert_70 rfl rfl ?_
  refine re_getR X cl_4 (by decide) fl_RX4_15 ho rfl (zR_4_1 ho) dX4_insert_71 ?_
  refine re_aload_n X dX4_insert_74 rfl rfl ?_
  refine re_getI X cl_4 (by decide) fl_RX4_25 ho rfl dX4_insert_75 ?_
  refine re_iload_n X dX4_insert_78 rfl rfl ?_
  refine re_ck (fun hi4 => ?_)
  refine re_iast X (zQ_4_1 X.clo ho) hi4 (j := zIx (M1 o 4)) rfl dX4_insert_79 (fun M3 => ?_)
  refine re_aload_n X dX4_insert_80 rfl rfl ?_
  refine re_getR X cl_4 (by decide) fl_RX4_18 ho rfl (zR_4_2 ho) dX4_insert_81 ?_
  refine re_aload_n X dX4_insert_84 rfl rfl ?_
  refine re_getI X cl_4 (by decide) fl_RX4_25 ho rfl dX4_insert_85 ?_
  refine re_iconst (v := 0) X dX4_insert_88 (by decide) ?_
  refine re_ck (fun hi6 => ?_)
  refine re_iast X (zQ_4_2 X.clo ho) hi6 (j := zIx (M3 o 4)) rfl dX4_insert_89 (fun M5 => ?_)
  refine re_aload_n X dX4_insert_90 rfl rfl ?_
  refine re_dup X dX4_insert_91 rfl ?_
  refine re_getI X cl_4 (by decide) fl_RX4_25 ho rfl dX4_insert_92 ?_
  refine re_iconst (v := 1) X dX4_insert_95 (by decide) ?_
  refine re_iadd X dX4_insert_96 ?_
  refine re_putI X cl_4 (by decide) fl_RX4_25 ho rfl rfl rfl dX4_insert_97 (fun M7 => ?_)
  refine re_aload_n X dX4_insert_100 rfl rfl ?_
  refine re_dup X dX4_insert_101 rfl ?_
  refine re_getI X cl_4 (by decide) fl_RX4_29 ho rfl dX4_insert_102 ?_
  refine re_iconst (v := 1) X dX4_insert_105 (by decide) ?_
  refine re_iadd X dX4_insert_106 ?_
  refine re_putI X cl_4 (by decide) fl_RX4_29 ho rfl rfl rfl dX4_insert_107 (fun M8 => ?_)
  exact re_vret X dX4_insert_110

set_option maxRecDepth 100000 in
theorem lb_X4_insert_35 {p : Program} {l : Launch} {e : Env} {s : State} {m : MethodId} {args : Array Value} {below : List Frame} {meth : Method} {c : Code} {w : zWD} {o : Nat} {u1 : Int32} {u2 : Int32} (X : zCx p s m args meth c w (zFree w) RX4 cX4_insert 4 none) (ho : zKd w o = (4, 6)) : ∀ (n : Nat) (x3 : Int32) (M : zMem), zRm p l e rm_X4_insert s m args below meth c w 0 35 [some (.ref (zA w o)), some (.int u1), some (.int u2), some (.int x3)] [] M (f_X4_insert_L35 o u1 u2 n x3 M) := by
  intro n
  induction n with
  | zero => intro x3 M; exact re_none
  | succ n ih =>
    intro x3 M
    rw [f_X4_insert_L35]
    refine re_iload_n X dX4_insert_35 rfl rfl ?_
    refine re_iload_n X dX4_insert_36 rfl rfl ?_
    refine re_icmp_le (tgt := 60) X dX4_insert_37 (by decide) (fun _ => ?_) (fun _ => ?_)
    · exact re_sub (lb_X4_insert_60 X ho M) ⟨rfl, ⟨rfl, ⟨rfl, trivial⟩⟩⟩
    · refine re_aload_n X dX4_insert_40 rfl rfl ?_
      refine re_getR X cl_4 (by decide) fl_RX4_9 ho rfl (zR_4_0 ho) dX4_insert_41 ?_
      refine re_iload_n X dX4_insert_44 rfl rfl ?_
      refine re_aload_n X dX4_insert_45 rfl rfl ?_
      refine re_getR X cl_4 (by decide) fl_RX4_9 ho rfl (zR_4_0 ho) dX4_insert_46 ?_
      refine re_iload_n X dX4_insert_49 rfl rfl ?_
      refine re_iconst (v := 1) X dX4_insert_50 (by decide) ?_
      refine re_isub X dX4_insert_51 ?_
      refine re_ck (fun hi9 => ?_)
      refine re_iald X (zQ_4_0 X.clo ho) hi9 (j := zIx (x3 - 1)) rfl dX4_insert_52 ?_
      refine re_ck (fun hi11 => ?_)
      refine re_iast X (zQ_4_0 X.clo ho) hi11 (j := zIx x3) rfl dX4_insert_53 (fun M10 => ?_)
      refine re_iinc (v := -1) (lv' := [some (.ref (zA w o)), some (.int u1), some (.int u2), some (.int (x3 + (-1)))]) X dX4_insert_54 rfl (by decide) rfl ?_
      refine re_goto (tgt := 35) X dX4_insert_57 (by decide) ?_
      exact ih (x3 + (-1)) M10

set_option maxRecDepth 100000 in
theorem lk_X4_insert (l : Launch) (w : zWD) (o : Nat) (u1 : Int32) (u2 : Int32) (ho : zKd w o = (4, 6)) : zMt l w yX4_insert cX4_insert 4 none rm_X4_insert 0 [.ref (zA w o), .int u1, .int u2] (fun M => f_X4_insert o u1 u2 M) := by
  refine zMt.of (by decide) [some (.ref (zA w o)), some (.int u1), some (.int u2), none] rfl (zle rfl) (by intro v hv; simp only [List.mem_cons, List.not_mem_nil, or_false] at hv; rcases hv with rfl | rfl | rfl <;> rfl) ?_
  intro p e s m args below meth c X M
  unfold f_X4_insert
  refine re_aload_n X dX4_insert_0 rfl rfl ?_
  refine re_getI X cl_4 (by decide) fl_RX4_25 ho rfl dX4_insert_1 ?_
  refine re_if_lt (tgt := 29) X dX4_insert_4 (by decide) (fun _ => ?_) (fun _ => ?_)
  · exact re_vret X dX4_insert_29
  · refine re_aload_n X dX4_insert_7 rfl rfl ?_
    refine re_getI X cl_4 (by decide) fl_RX4_25 ho rfl dX4_insert_8 ?_
    refine re_sipush (v := 320) X dX4_insert_11 (by decide) ?_
    refine re_icmp_ge (tgt := 29) X dX4_insert_14 (by decide) (fun _ => ?_) (fun _ => ?_)
    · exact re_vret X dX4_insert_29
    · refine re_iload_n X dX4_insert_17 rfl rfl ?_
      refine re_if_lt (tgt := 29) X dX4_insert_18 (by decide) (fun _ => ?_) (fun _ => ?_)
      · exact re_vret X dX4_insert_29
      · refine re_iload_n X dX4_insert_21 rfl rfl ?_
        refine re_aload_n X dX4_insert_22 rfl rfl ?_
        refine re_getI X cl_4 (by decide) fl_RX4_25 ho rfl dX4_insert_23 ?_
        refine re_icmp_le (tgt := 30) X dX4_insert_26 (by decide) (fun _ => ?_) (fun _ => ?_)
        · refine re_aload_n X dX4_insert_30 rfl rfl ?_
          refine re_getI X cl_4 (by decide) fl_RX4_25 ho rfl dX4_insert_31 ?_
          refine re_istore_n (lv' := [some (.ref (zA w o)), some (.int u1), some (.int u2), some (.int (M o 4))]) X dX4_insert_34 rfl (zlt rfl) rfl ?_
          exact lb_X4_insert_35 X ho zFu (M o 4) M
        · exact re_vret X dX4_insert_29
theorem ca_X4_insert {R : Room} (h1 : rm_X4_insert.frames + 1 ≤ R.frames) (h2 : 8 + (4 + 11) + rm_X4_insert.locals ≤ R.locals) : zCa yX4_insert cX4_insert 4 none rm_X4_insert R 2 := ⟨cd_X4_insert, iz_RX4, ⟨by decide, by decide, by decide⟩, rfl, rfl, h1, h2⟩
/-! DebateHouse$Paper.lay -/
abbrev rm_X4_lay : Room := { frames := 1, cells := 0, slots := 0, locals := 23 }
def f_X4_lay_L23 (o : Nat) (u1 : Int32) (u2 : Int32)  : Nat → Int32 → zMem → zTr
  | 0, _, _ => none
  | n + 1, x3, M => if u1 ≤ x3 then some (0, M) else if 320 ≤ x3 then some (0, M) else zBd (f_X4_insert o x3 (u2 + x3) M) (fun _ M5 => f_X4_lay_L23 o u1 u2 n (x3 + 1) M5)
def f_X4_lay (o : Nat) (u1 : Int32) (u2 : Int32) (M : zMem) : zTr := if u1 < 1 then some (0, M) else if u1 ≤ 20 then zBd (f_X4_takeAway o M) (fun _ M2 => zLt (zUp M2 o 3 1) (fun M3 => f_X4_lay_L23 o u1 u2 zFu 0 M3)) else some (0, M)
set_option maxRecDepth 100000 in
theorem lb_X4_lay_23 {p : Program} {l : Launch} {e : Env} {s : State} {m : MethodId} {args : Array Value} {below : List Frame} {meth : Method} {c : Code} {w : zWD} {o : Nat} {u1 : Int32} {u2 : Int32} (X : zCx p s m args meth c w (zFree w) RX4 cX4_lay 4 none) (ho : zKd w o = (4, 6)) : ∀ (n : Nat) (x3 : Int32) (M : zMem), zRm p l e rm_X4_lay s m args below meth c w 0 23 [some (.ref (zA w o)), some (.int u1), some (.int u2), some (.int x3)] [] M (f_X4_lay_L23 o u1 u2 n x3 M) := by
  intro n
  induction n with
  | zero => intro x3 M; exact re_none
  | succ n ih =>
    intro x3 M
    rw [f_X4_lay_L23]
    refine re_iload_n X dX4_lay_23 rfl rfl ?_
    refine re_iload_n X dX4_lay_24 rfl rfl ?_
    refine re_icmp_ge (tgt := 49) X dX4_lay_25 (by decide) (fun _ => ?_) (fun _ => ?_)
    · exact re_vret X dX4_lay_49
    · refine re_iload_n X dX4_lay_28 rfl rfl ?_
      refine re_sipush (v := 320) X dX4_lay_29 (by decide) ?_
      refine re_icmp_ge (tgt := 49) X dX4_lay_32 (by decide) (fun _ => ?_) (fun _ => ?_)
      · exact re_vret X dX4_lay_49
      · refine re_aload_n X dX4_lay_35 rfl rfl ?_
        refine re_iload_n X dX4_lay_36 rfl rfl ?_
        refine re_iload_n X dX4_lay_37 rfl rfl ?_
        refine re_iload_n X dX4_lay_38 rfl rfl ?_
        refine re_iadd X dX4_lay_39 ?_
        refine re_callVv X (lk_X4_insert l w o x3 (u2 + x3) ho) (ca_X4_insert (by decide) (by decide)) ml_RX4_35 im_X4_insert se_X4_insert cl_4 ho rfl rfl rfl (zle rfl) zRo dX4_lay_40 (fun r4 M5 hr4 => ?_)
        refine re_iinc (v := 1) (lv' := [some (.ref (zA w o)), some (.int u1), some (.int u2), some (.int (x3 + 1))]) X dX4_lay_43 rfl (by decide) rfl ?_
        refine re_goto (tgt := 23) X dX4_lay_46 (by decide) ?_
        exact ih (x3 + 1) M5

set_option maxRecDepth 100000 in
theorem lk_X4_lay (l : Launch) (w : zWD) (o : Nat) (u1 : Int32) (u2 : Int32) (ho : zKd w o = (4, 6)) : zMt l w yX4_lay cX4_lay 4 none rm_X4_lay 0 [.ref (zA w o), .int u1, .int u2] (fun M => f_X4_lay o u1 u2 M) := by
  refine zMt.of (by decide) [some (.ref (zA w o)), some (.int u1), some (.int u2), none] rfl (zle rfl) (by intro v hv; simp only [List.mem_cons, List.not_mem_nil, or_false] at hv; rcases hv with rfl | rfl | rfl <;> rfl) ?_
  intro p e s m args below meth c X M
  unfold f_X4_lay
  refine re_iload_n X dX4_lay_0 rfl rfl ?_
  refine re_iconst (v := 1) X dX4_lay_1 (by decide) ?_
  refine re_icmp_lt (tgt := 11) X dX4_lay_2 (by decide) (fun _ => ?_) (fun _ => ?_)
  · exact re_vret X dX4_lay_11
  · refine re_iload_n X dX4_lay_5 rfl rfl ?_
    refine re_bipush (v := 20) X dX4_lay_6 (by decide) ?_
    refine re_icmp_le (tgt := 12) X dX4_lay_8 (by decide) (fun _ => ?_) (fun _ => ?_)
    · refine re_aload_n X dX4_lay_12 rfl rfl ?_
      refine re_callVv X (lk_X4_takeAway l w o ho) (ca_X4_takeAway (by decide) (by decide)) ml_RX4_32 im_X4_takeAway se_X4_takeAway cl_4 ho rfl rfl rfl (zle rfl) zRo dX4_lay_13 (fun r1 M2 hr1 => ?_)
      refine re_aload_n X dX4_lay_16 rfl rfl ?_
      refine re_iconst (v := 1) X dX4_lay_17 (by decide) ?_
      refine re_putZ X cl_4 (by decide) fl_RX4_21 ho rfl rfl rfl (Or.inr rfl) dX4_lay_18 (fun M3 => ?_)
      refine re_iconst (v := 0) X dX4_lay_21 (by decide) ?_
      refine re_istore_n (lv' := [some (.ref (zA w o)), some (.int u1), some (.int u2), some (.int 0)]) X dX4_lay_22 rfl (zlt rfl) rfl ?_
      exact lb_X4_lay_23 X ho zFu 0 M3
    · exact re_vret X dX4_lay_11
theorem ca_X4_lay {R : Room} (h1 : rm_X4_lay.frames + 1 ≤ R.frames) (h2 : 8 + (4 + 11) + rm_X4_lay.locals ≤ R.locals) : zCa yX4_lay cX4_lay 4 none rm_X4_lay R 2 := ⟨cd_X4_lay, iz_RX4, ⟨by decide, by decide, by decide⟩, rfl, rfl, h1, h2⟩
/-! DebateHouse$Paper.wasEver -/
abbrev rm_X4_wasEver : Room := { frames := 0, cells := 0, slots := 0, locals := 0 }
def f_X4_wasEver (o : Nat) (u1 : Int32) (M : zMem) : zTr := if u1 < 0 then some (0, M) else if (M o 4) ≤ u1 then some (0, M) else if 320 ≤ u1 then some (0, M) else some (1, M)
set_option maxRecDepth 100000 in
theorem lk_X4_wasEver (l : Launch) (w : zWD) (o : Nat) (u1 : Int32) (ho : zKd w o = (4, 6)) : zMt l w yX4_wasEver cX4_wasEver 2 (some .boolean) rm_X4_wasEver 2 [.ref (zA w o), .int u1] (fun M => f_X4_wasEver o u1 M) := by
  refine zMt.of (by decide) [some (.ref (zA w o)), some (.int u1)] rfl (zle rfl) (by intro v hv; simp only [List.mem_cons, List.not_mem_nil, or_false] at hv; rcases hv with rfl | rfl <;> rfl) ?_
  intro p e s m args below meth c X M
  unfold f_X4_wasEver
  refine re_iload_n X dX4_wasEver_0 rfl rfl ?_
  refine re_if_lt (tgt := 23) X dX4_wasEver_1 (by decide) (fun _ => ?_) (fun _ => ?_)
  · refine re_iconst (v := 0) X dX4_wasEver_23 (by decide) ?_
    exact re_zret X (Or.inl rfl) dX4_wasEver_24
  · refine re_iload_n X dX4_wasEver_4 rfl rfl ?_
    refine re_aload_n X dX4_wasEver_5 rfl rfl ?_
    refine re_getI X cl_4 (by decide) fl_RX4_25 ho rfl dX4_wasEver_6 ?_
    refine re_icmp_ge (tgt := 23) X dX4_wasEver_9 (by decide) (fun _ => ?_) (fun _ => ?_)
    · refine re_iconst (v := 0) X dX4_wasEver_23 (by decide) ?_
      exact re_zret X (Or.inl rfl) dX4_wasEver_24
    · refine re_iload_n X dX4_wasEver_12 rfl rfl ?_
      refine re_sipush (v := 320) X dX4_wasEver_13 (by decide) ?_
      refine re_icmp_ge (tgt := 23) X dX4_wasEver_16 (by decide) (fun _ => ?_) (fun _ => ?_)
      · refine re_iconst (v := 0) X dX4_wasEver_23 (by decide) ?_
        exact re_zret X (Or.inl rfl) dX4_wasEver_24
      · refine re_iconst (v := 1) X dX4_wasEver_19 (by decide) ?_
        refine re_goto (tgt := 24) X dX4_wasEver_20 (by decide) ?_
        exact re_zret X (Or.inr rfl) dX4_wasEver_24
theorem ca_X4_wasEver {R : Room} (h1 : rm_X4_wasEver.frames + 1 ≤ R.frames) (h2 : 8 + (2 + 11) + rm_X4_wasEver.locals ≤ R.locals) : zCa yX4_wasEver cX4_wasEver 2 (some .boolean) rm_X4_wasEver R 1 := ⟨cd_X4_wasEver, iz_RX4, ⟨by decide, by decide, by decide⟩, rfl, rfl, h1, h2⟩
/-! DebateHouse$Paper.isThere -/
abbrev rm_X4_isThere : Room := { frames := 0, cells := 0, slots := 0, locals := 0 }
def f_X4_isThere (o : Nat) (u1 : Int32) (M : zMem) : zTr := if u1 < 0 then some (0, M) else if (M o 4) ≤ u1 then some (0, M) else if 320 ≤ u1 then some (0, M) else zCk (zIn u1 320) (if (M (o + 3) (zIx u1)) = 0 then some (1, M) else some (0, M))
set_option maxRecDepth 100000 in
theorem lk_X4_isThere (l : Launch) (w : zWD) (o : Nat) (u1 : Int32) (ho : zKd w o = (4, 6)) : zMt l w yX4_isThere cX4_isThere 2 (some .boolean) rm_X4_isThere 2 [.ref (zA w o), .int u1] (fun M => f_X4_isThere o u1 M) := by
  refine zMt.of (by decide) [some (.ref (zA w o)), some (.int u1)] rfl (zle rfl) (by intro v hv; simp only [List.mem_cons, List.not_mem_nil, or_false] at hv; rcases hv with rfl | rfl <;> rfl) ?_
  intro p e s m args below meth c X M
  unfold f_X4_isThere
  refine re_iload_n X dX4_isThere_0 rfl rfl ?_
  refine re_if_lt (tgt := 32) X dX4_isThere_1 (by decide) (fun _ => ?_) (fun _ => ?_)
  · refine re_iconst (v := 0) X dX4_isThere_32 (by decide) ?_
    exact re_zret X (Or.inl rfl) dX4_isThere_33
  · refine re_iload_n X dX4_isThere_4 rfl rfl ?_
    refine re_aload_n X dX4_isThere_5 rfl rfl ?_
    refine re_getI X cl_4 (by decide) fl_RX4_25 ho rfl dX4_isThere_6 ?_
    refine re_icmp_ge (tgt := 32) X dX4_isThere_9 (by decide) (fun _ => ?_) (fun _ => ?_)
    · refine re_iconst (v := 0) X dX4_isThere_32 (by decide) ?_
      exact re_zret X (Or.inl rfl) dX4_isThere_33
    · refine re_iload_n X dX4_isThere_12 rfl rfl ?_
      refine re_sipush (v := 320) X dX4_isThere_13 (by decide) ?_
      refine re_icmp_ge (tgt := 32) X dX4_isThere_16 (by decide) (fun _ => ?_) (fun _ => ?_)
      · refine re_iconst (v := 0) X dX4_isThere_32 (by decide) ?_
        exact re_zret X (Or.inl rfl) dX4_isThere_33
      · refine re_aload_n X dX4_isThere_19 rfl rfl ?_
        refine re_getR X cl_4 (by decide) fl_RX4_18 ho rfl (zR_4_2 ho) dX4_isThere_20 ?_
        refine re_iload_n X dX4_isThere_23 rfl rfl ?_
        refine re_ck (fun hi1 => ?_)
        refine re_iald X (zQ_4_2 X.clo ho) hi1 (j := zIx u1) rfl dX4_isThere_24 ?_
        refine re_if_ne (tgt := 32) X dX4_isThere_25 (by decide) (fun _ => ?_) (fun _ => ?_)
        · refine re_iconst (v := 1) X dX4_isThere_28 (by decide) ?_
          refine re_goto (tgt := 33) X dX4_isThere_29 (by decide) ?_
          exact re_zret X (Or.inr rfl) dX4_isThere_33
        · refine re_iconst (v := 0) X dX4_isThere_32 (by decide) ?_
          exact re_zret X (Or.inl rfl) dX4_isThere_33
theorem ca_X4_isThere {R : Room} (h1 : rm_X4_isThere.frames + 1 ≤ R.frames) (h2 : 8 + (2 + 11) + rm_X4_isThere.locals ≤ R.locals) : zCa yX4_isThere cX4_isThere 2 (some .boolean) rm_X4_isThere R 1 := ⟨cd_X4_isThere, iz_RX4, ⟨by decide, by decide, by decide⟩, rfl, rfl, h1, h2⟩
/-! DebateHouse$Paper.behind -/
abbrev rm_X4_behind : Room := { frames := 1, cells := 0, slots := 0, locals := 21 }
def f_X4_behind_B43 (o : Nat) (u1 : Int32) (k4 : Int32 → Int32 → zMem → zTr) (x2 : Int32) (x3 : Int32) (M : zMem) : zTr := if x2 = 0 then zCk (zIn x3 320) (if (M (o + 1) (zIx x3)) = u1 then k4 1 (x3 + 1) M else k4 0 (x3 + 1) M) else k4 1 (x3 + 1) M
def f_X4_behind_L4 (o : Nat) (u1 : Int32)  : Nat → Int32 → Int32 → zMem → zTr
  | 0, _, _, _ => none
  | n + 1, x2, x3, M => if (M o 4) ≤ x3 then some (-1, M) else if 320 ≤ x3 then some (-1, M) else if x2 = 0 then f_X4_behind_B43 o u1 (fun x2 x3 M => f_X4_behind_L4 o u1 n x2 x3 M) x2 x3 M else zCk (zIn x3 320) (zBd (f_X4_isThere o (M (o + 1) (zIx x3)) M) (fun r3 M4 => if r3 = 0 then f_X4_behind_B43 o u1 (fun x2 x3 M => f_X4_behind_L4 o u1 n x2 x3 M) x2 x3 M4 else zCk (zIn x3 320) (some (M4 (o + 1) (zIx x3), M4))))
def f_X4_behind (o : Nat) (u1 : Int32) (M : zMem) : zTr := f_X4_behind_L4 o u1 zFu 0 0 M
set_option maxRecDepth 100000 in
theorem lb_X4_behind_43 {p : Program} {l : Launch} {e : Env} {s : State} {m : MethodId} {args : Array Value} {below : List Frame} {meth : Method} {c : Code} {w : zWD} {o : Nat} {u1 : Int32} (X : zCx p s m args meth c w (zFree w) RX4 cX4_behind 4 (some .int)) (ho : zKd w o = (4, 6)) (k4 : Int32 → Int32 → zMem → zTr) (hk4 : ∀ (x2 : Int32) (x3 : Int32) (M : zMem), zRm p l e rm_X4_behind s m args below meth c w 1 4 [some (.ref (zA w o)), some (.int u1), some (.int x2), some (.int x3)] [] M (k4 x2 x3 M)) : ∀ (x2 : Int32) (x3 : Int32) (M : zMem), zRm p l e rm_X4_behind s m args below meth c w 1 43 [some (.ref (zA w o)), some (.int u1), some (.int x2), some (.int x3)] [] M (f_X4_behind_B43 o u1 k4 x2 x3 M) := by
  intro x2 x3 M
  unfold f_X4_behind_B43
  refine re_iload_n X dX4_behind_43 rfl rfl ?_
  refine re_if_ne (tgt := 57) X dX4_behind_44 (by decide) (fun _ => ?_) (fun _ => ?_)
  · refine re_aload_n X dX4_behind_47 rfl rfl ?_
    refine re_getR X cl_4 (by decide) fl_RX4_9 ho rfl (zR_4_0 ho) dX4_behind_48 ?_
    refine re_iload_n X dX4_behind_51 rfl rfl ?_
    refine re_ck (fun hi1 => ?_)
    refine re_iald X (zQ_4_0 X.clo ho) hi1 (j := zIx x3) rfl dX4_behind_52 ?_
    refine re_iload_n X dX4_behind_53 rfl rfl ?_
    refine re_icmp_ne (tgt := 61) X dX4_behind_54 (by decide) (fun _ => ?_) (fun _ => ?_)
    · refine re_iconst (v := 1) X dX4_behind_57 (by decide) ?_
      refine re_goto (tgt := 62) X dX4_behind_58 (by decide) ?_
      refine re_istore_n (lv' := [some (.ref (zA w o)), some (.int u1), some (.int 1), some (.int x3)]) X dX4_behind_62 rfl (zlt rfl) rfl ?_
      refine re_iinc (v := 1) (lv' := [some (.ref (zA w o)), some (.int u1), some (.int 1), some (.int (x3 + 1))]) X dX4_behind_63 rfl (by decide) rfl ?_
      refine re_goto (tgt := 4) X dX4_behind_66 (by decide) ?_
      exact hk4 1 (x3 + 1) M
    · refine re_iconst (v := 0) X dX4_behind_61 (by decide) ?_
      refine re_istore_n (lv' := [some (.ref (zA w o)), some (.int u1), some (.int 0), some (.int x3)]) X dX4_behind_62 rfl (zlt rfl) rfl ?_
      refine re_iinc (v := 1) (lv' := [some (.ref (zA w o)), some (.int u1), some (.int 0), some (.int (x3 + 1))]) X dX4_behind_63 rfl (by decide) rfl ?_
      refine re_goto (tgt := 4) X dX4_behind_66 (by decide) ?_
      exact hk4 0 (x3 + 1) M
  · refine re_iconst (v := 1) X dX4_behind_57 (by decide) ?_
    refine re_goto (tgt := 62) X dX4_behind_58 (by decide) ?_
    refine re_istore_n (lv' := [some (.ref (zA w o)), some (.int u1), some (.int 1), some (.int x3)]) X dX4_behind_62 rfl (zlt rfl) rfl ?_
    refine re_iinc (v := 1) (lv' := [some (.ref (zA w o)), some (.int u1), some (.int 1), some (.int (x3 + 1))]) X dX4_behind_63 rfl (by decide) rfl ?_
    refine re_goto (tgt := 4) X dX4_behind_66 (by decide) ?_
    exact hk4 1 (x3 + 1) M

set_option maxRecDepth 100000 in
theorem lb_X4_behind_4 {p : Program} {l : Launch} {e : Env} {s : State} {m : MethodId} {args : Array Value} {below : List Frame} {meth : Method} {c : Code} {w : zWD} {o : Nat} {u1 : Int32} (X : zCx p s m args meth c w (zFree w) RX4 cX4_behind 4 (some .int)) (ho : zKd w o = (4, 6)) : ∀ (n : Nat) (x2 : Int32) (x3 : Int32) (M : zMem), zRm p l e rm_X4_behind s m args below meth c w 1 4 [some (.ref (zA w o)), some (.int u1), some (.int x2), some (.int x3)] [] M (f_X4_behind_L4 o u1 n x2 x3 M) := by
  intro n
  induction n with
  | zero => intro x2 x3 M; exact re_none
  | succ n ih =>
    intro x2 x3 M
    rw [f_X4_behind_L4]
    refine re_iload_n X dX4_behind_4 rfl rfl ?_
    refine re_aload_n X dX4_behind_5 rfl rfl ?_
    refine re_getI X cl_4 (by decide) fl_RX4_25 ho rfl dX4_behind_6 ?_
    refine re_icmp_ge (tgt := 69) X dX4_behind_9 (by decide) (fun _ => ?_) (fun _ => ?_)
    · refine re_iconst (v := -1) X dX4_behind_69 (by decide) ?_
      exact re_iret X dX4_behind_70
    · refine re_iload_n X dX4_behind_12 rfl rfl ?_
      refine re_sipush (v := 320) X dX4_behind_13 (by decide) ?_
      refine re_icmp_ge (tgt := 69) X dX4_behind_16 (by decide) (fun _ => ?_) (fun _ => ?_)
      · refine re_iconst (v := -1) X dX4_behind_69 (by decide) ?_
        exact re_iret X dX4_behind_70
      · refine re_iload_n X dX4_behind_19 rfl rfl ?_
        refine re_if_eq (tgt := 43) X dX4_behind_20 (by decide) (fun _ => ?_) (fun _ => ?_)
        · exact lb_X4_behind_43 X ho _ ih x2 x3 M
        · refine re_aload_n X dX4_behind_23 rfl rfl ?_
          refine re_aload_n X dX4_behind_24 rfl rfl ?_
          refine re_getR X cl_4 (by decide) fl_RX4_9 ho rfl (zR_4_0 ho) dX4_behind_25 ?_
          refine re_iload_n X dX4_behind_28 rfl rfl ?_
          refine re_ck (fun hi2 => ?_)
          refine re_iald X (zQ_4_0 X.clo ho) hi2 (j := zIx x3) rfl dX4_behind_29 ?_
          refine re_callVz X (lk_X4_isThere l w o (M (o + 1) (zIx x3)) ho) (ca_X4_isThere (by decide) (by decide)) ml_RX4_39 im_X4_isThere se_X4_isThere cl_4 ho rfl rfl rfl (zle rfl) zRo dX4_behind_30 (fun r3 M4 hr3 => ?_)
          refine re_if_eq (tgt := 43) X dX4_behind_33 (by decide) (fun _ => ?_) (fun _ => ?_)
          · exact lb_X4_behind_43 X ho _ ih x2 x3 M4
          · refine re_aload_n X dX4_behind_36 rfl rfl ?_
            refine re_getR X cl_4 (by decide) fl_RX4_9 ho rfl (zR_4_0 ho) dX4_behind_37 ?_
            refine re_iload_n X dX4_behind_40 rfl rfl ?_
            refine re_ck (fun hi5 => ?_)
            refine re_iald X (zQ_4_0 X.clo ho) hi5 (j := zIx x3) rfl dX4_behind_41 ?_
            exact re_iret X dX4_behind_42

set_option maxRecDepth 100000 in
theorem lk_X4_behind (l : Launch) (w : zWD) (o : Nat) (u1 : Int32) (ho : zKd w o = (4, 6)) : zMt l w yX4_behind cX4_behind 4 (some .int) rm_X4_behind 1 [.ref (zA w o), .int u1] (fun M => f_X4_behind o u1 M) := by
  refine zMt.of (by decide) [some (.ref (zA w o)), some (.int u1), none, none] rfl (zle rfl) (by intro v hv; simp only [List.mem_cons, List.not_mem_nil, or_false] at hv; rcases hv with rfl | rfl <;> rfl) ?_
  intro p e s m args below meth c X M
  unfold f_X4_behind
  refine re_iconst (v := 0) X dX4_behind_0 (by decide) ?_
  refine re_istore_n (lv' := [some (.ref (zA w o)), some (.int u1), some (.int 0), none]) X dX4_behind_1 rfl (zlt rfl) rfl ?_
  refine re_iconst (v := 0) X dX4_behind_2 (by decide) ?_
  refine re_istore_n (lv' := [some (.ref (zA w o)), some (.int u1), some (.int 0), some (.int 0)]) X dX4_behind_3 rfl (zlt rfl) rfl ?_
  exact lb_X4_behind_4 X ho zFu 0 0 M
theorem ca_X4_behind {R : Room} (h1 : rm_X4_behind.frames + 1 ≤ R.frames) (h2 : 8 + (4 + 11) + rm_X4_behind.locals ≤ R.locals) : zCa yX4_behind cX4_behind 4 (some .int) rm_X4_behind R 1 := ⟨cd_X4_behind, iz_RX4, ⟨by decide, by decide, by decide⟩, rfl, rfl, h1, h2⟩
/-! DebateHouse$Paper.mayAmend -/
abbrev rm_X4_mayAmend : Room := { frames := 2, cells := 0, slots := 0, locals := 44 }
def f_X4_mayAmend (o : Nat) (u1 : Int32) (M : zMem) : zTr := zBd (f_X4_isThere o (u1 / 4) M) (fun r1 M2 => if r1 = 0 then some (0, M2) else if (u1 - u1 / 4 * 4) = 0 then (if 40 ≤ (M2 o 5) then some (0, M2) else some (1, M2)) else if (u1 - u1 / 4 * 4) = 3 then zBd (f_X4_behind o (u1 / 4) M2) (fun r5 M6 => if r5 = (-1) then some (0, M6) else some (1, M6)) else some (1, M2))
set_option maxRecDepth 100000 in
theorem lk_X4_mayAmend (l : Launch) (w : zWD) (o : Nat) (u1 : Int32) (ho : zKd w o = (4, 6)) : zMt l w yX4_mayAmend cX4_mayAmend 3 (some .boolean) rm_X4_mayAmend 2 [.ref (zA w o), .int u1] (fun M => f_X4_mayAmend o u1 M) := by
  refine zMt.of (by decide) [some (.ref (zA w o)), some (.int u1), none] rfl (zle rfl) (by intro v hv; simp only [List.mem_cons, List.not_mem_nil, or_false] at hv; rcases hv with rfl | rfl <;> rfl) ?_
  intro p e s m args below meth c X M
  unfold f_X4_mayAmend
  refine re_iload_n X dX4_mayAmend_0 rfl rfl ?_
  refine re_iconst (v := 4) X dX4_mayAmend_1 (by decide) ?_
  refine re_idivK X (by decide) dX4_mayAmend_2 ?_
  refine re_istore_n (lv' := [some (.ref (zA w o)), some (.int u1), some (.int (u1 / 4))]) X dX4_mayAmend_3 rfl (zlt rfl) rfl ?_
  refine re_aload_n X dX4_mayAmend_4 rfl rfl ?_
  refine re_iload_n X dX4_mayAmend_5 rfl rfl ?_
  refine re_callVz X (lk_X4_isThere l w o (u1 / 4) ho) (ca_X4_isThere (by decide) (by decide)) ml_RX4_39 im_X4_isThere se_X4_isThere cl_4 ho rfl rfl rfl (zle rfl) zRo dX4_mayAmend_6 (fun r1 M2 hr1 => ?_)
  refine re_if_ne (tgt := 14) X dX4_mayAmend_9 (by decide) (fun _ => ?_) (fun _ => ?_)
  · refine re_iconst (v := 0) X dX4_mayAmend_12 (by decide) ?_
    exact re_zret X (Or.inl rfl) dX4_mayAmend_13
  · refine re_iload_n X dX4_mayAmend_14 rfl rfl ?_
    refine re_iconst (v := 4) X dX4_mayAmend_15 (by decide) ?_
    refine re_iremK X (by decide) dX4_mayAmend_16 ?_
    refine re_if (fun e3 => ?_) (fun e3 => ?_)
    · refine re_lsw (off := 27) (tgt := 44) X dX4_mayAmend_17 (by decide) (by rw [e3]; first | done | rfl | decide +kernel) (by decide) ?_
      refine re_aload_n X dX4_mayAmend_44 rfl rfl ?_
      refine re_getI X cl_4 (by decide) fl_RX4_29 ho rfl dX4_mayAmend_45 ?_
      refine re_bipush (v := 40) X dX4_mayAmend_48 (by decide) ?_
      refine re_icmp_ge (tgt := 57) X dX4_mayAmend_50 (by decide) (fun _ => ?_) (fun _ => ?_)
      · refine re_iconst (v := 0) X dX4_mayAmend_57 (by decide) ?_
        exact re_zret X (Or.inl rfl) dX4_mayAmend_58
      · refine re_iconst (v := 1) X dX4_mayAmend_53 (by decide) ?_
        refine re_goto (tgt := 58) X dX4_mayAmend_54 (by decide) ?_
        exact re_zret X (Or.inr rfl) dX4_mayAmend_58
    refine re_if (fun e4 => ?_) (fun e4 => ?_)
    · refine re_lsw (off := 42) (tgt := 59) X dX4_mayAmend_17 (by decide) (by rw [e4]; first | done | rfl | decide +kernel) (by decide) ?_
      refine re_aload_n X dX4_mayAmend_59 rfl rfl ?_
      refine re_iload_n X dX4_mayAmend_60 rfl rfl ?_
      refine re_callVi X (lk_X4_behind l w o (u1 / 4) ho) (ca_X4_behind (by decide) (by decide)) ml_RX4_43 im_X4_behind se_X4_behind cl_4 ho rfl rfl rfl (zle rfl) zRo dX4_mayAmend_61 (fun r5 M6 hr5 => ?_)
      refine re_iconst (v := -1) X dX4_mayAmend_64 (by decide) ?_
      refine re_icmp_eq (tgt := 72) X dX4_mayAmend_65 (by decide) (fun _ => ?_) (fun _ => ?_)
      · refine re_iconst (v := 0) X dX4_mayAmend_72 (by decide) ?_
        exact re_zret X (Or.inl rfl) dX4_mayAmend_73
      · refine re_iconst (v := 1) X dX4_mayAmend_68 (by decide) ?_
        refine re_goto (tgt := 73) X dX4_mayAmend_69 (by decide) ?_
        exact re_zret X (Or.inr rfl) dX4_mayAmend_73
    refine re_lsw (off := 57) (tgt := 74) X dX4_mayAmend_17 (by decide) (by rw [lv_osw e3 (by decide), lv_osw e4 (by decide)]; first | done | rfl) (by decide) ?_
    refine re_iconst (v := 1) X dX4_mayAmend_74 (by decide) ?_
    exact re_zret X (Or.inr rfl) dX4_mayAmend_75
theorem ca_X4_mayAmend {R : Room} (h1 : rm_X4_mayAmend.frames + 1 ≤ R.frames) (h2 : 8 + (3 + 11) + rm_X4_mayAmend.locals ≤ R.locals) : zCa yX4_mayAmend cX4_mayAmend 3 (some .boolean) rm_X4_mayAmend R 1 := ⟨cd_X4_mayAmend, iz_RX4, ⟨by decide, by decide, by decide⟩, rfl, rfl, h1, h2⟩
/-! DebateHouse$Paper.addBehind -/
abbrev rm_X4_addBehind : Room := { frames := 1, cells := 0, slots := 0, locals := 23 }
def f_X4_addBehind_B114 (o : Nat) (u1 : Int32) (u2 : Int32)  (x4 : Int32) (M : zMem) : zTr := zBd (f_X4_insert o x4 u2 M) (fun _ M7 => some (0, M7))
def f_X4_addBehind_B105 (o : Nat) (u1 : Int32) (u2 : Int32)  (x4 : Int32) (M : zMem) : zTr := f_X4_addBehind_B114 o u1 u2 x4 M
def f_X4_addBehind_B94 (o : Nat) (u1 : Int32) (u2 : Int32) (k46 : Int32 → Int32 → Int32 → zMem → zTr) (x3 : Int32) (x4 : Int32) (x5 : Int32) (M : zMem) : zTr := zCk (zIn x5 320) (if (M (o + 1) (zIx x5)) = u1 then f_X4_addBehind_B105 o u1 u2 x4 M else k46 x3 x4 (x5 + 1) M)
def f_X4_addBehind_L46 (o : Nat) (u1 : Int32) (u2 : Int32)  : Nat → Int32 → Int32 → Int32 → zMem → zTr
  | 0, _, _, _, _ => none
  | n + 1, x3, x4, x5, M => if (M o 4) ≤ x5 then f_X4_addBehind_B114 o u1 u2 x4 M else if 320 ≤ x5 then f_X4_addBehind_B114 o u1 u2 x4 M else zCk (zIn x5 320) (zBd (f_X4_isThere o (M (o + 1) (zIx x5)) M) (fun r9 M10 => if r9 = 0 then f_X4_addBehind_B94 o u1 u2 (fun x3 x4 x5 M => f_X4_addBehind_L46 o u1 u2 n x3 x4 x5 M) x3 x4 x5 M10 else zCk (zIn x5 320) (if x3 ≤ (M10 (o + 1) (zIx x5)) then f_X4_addBehind_B94 o u1 u2 (fun x3 x4 x5 M => f_X4_addBehind_L46 o u1 u2 n x3 x4 x5 M) x3 x4 x5 M10 else f_X4_addBehind_B94 o u1 u2 (fun x3 x4 x5 M => f_X4_addBehind_L46 o u1 u2 n x3 x4 x5 M) x3 (x5 + 1) x5 M10)))
def f_X4_addBehind (o : Nat) (u1 : Int32) (u2 : Int32) (M : zMem) : zTr := zBd (f_X4_wasEver o u1 M) (fun r1 M2 => if r1 = 0 then some (0, M2) else if (M2 o 5) < 40 then zBd (f_X4_isThere o u1 M2) (fun r3 M4 => if r3 = 0 then zCk (zIn u1 320) (f_X4_addBehind_L46 o u1 u2 zFu (M4 (o + 3) (zIx u1)) 0 0 M4) else f_X4_addBehind_L46 o u1 u2 zFu (M4 o 4) 0 0 M4) else some (0, M2))
set_option maxRecDepth 100000 in
theorem lb_X4_addBehind_114 {p : Program} {l : Launch} {e : Env} {s : State} {m : MethodId} {args : Array Value} {below : List Frame} {meth : Method} {c : Code} {w : zWD} {o : Nat} {u1 : Int32} {u2 : Int32} (X : zCx p s m args meth c w (zFree w) RX4 cX4_addBehind 6 none) (ho : zKd w o = (4, 6)) : ∀ (x4 : Int32) (M : zMem), zRm p l e rm_X4_addBehind s m args below meth c w 0 114 [some (.ref (zA w o)), none, some (.int u2), none, some (.int x4), none] [] M (f_X4_addBehind_B114 o u1 u2 x4 M) := by
  intro x4 M
  unfold f_X4_addBehind_B114
  refine re_aload_n X dX4_addBehind_114 rfl rfl ?_
  refine re_iload X dX4_addBehind_115 rfl ?_
  refine re_iload_n X dX4_addBehind_117 rfl rfl ?_
  refine re_callVv X (lk_X4_insert l w o x4 u2 ho) (ca_X4_insert (by decide) (by decide)) ml_RX4_35 im_X4_insert se_X4_insert cl_4 ho rfl rfl rfl (zle rfl) zRo dX4_addBehind_118 (fun r6 M7 hr6 => ?_)
  exact re_vret X dX4_addBehind_121

set_option maxRecDepth 100000 in
theorem lb_X4_addBehind_105 {p : Program} {l : Launch} {e : Env} {s : State} {m : MethodId} {args : Array Value} {below : List Frame} {meth : Method} {c : Code} {w : zWD} {o : Nat} {u1 : Int32} {u2 : Int32} (X : zCx p s m args meth c w (zFree w) RX4 cX4_addBehind 6 none) (ho : zKd w o = (4, 6)) : ∀ (x4 : Int32) (M : zMem), zRm p l e rm_X4_addBehind s m args below meth c w 0 105 [some (.ref (zA w o)), none, some (.int u2), none, some (.int x4), none] [] M (f_X4_addBehind_B105 o u1 u2 x4 M) := by
  intro x4 M
  unfold f_X4_addBehind_B105
  refine re_goto (tgt := 114) X dX4_addBehind_105 (by decide) ?_
  exact lb_X4_addBehind_114 X ho x4 M

set_option maxRecDepth 100000 in
theorem lb_X4_addBehind_94 {p : Program} {l : Launch} {e : Env} {s : State} {m : MethodId} {args : Array Value} {below : List Frame} {meth : Method} {c : Code} {w : zWD} {o : Nat} {u1 : Int32} {u2 : Int32} (X : zCx p s m args meth c w (zFree w) RX4 cX4_addBehind 6 none) (ho : zKd w o = (4, 6)) (k46 : Int32 → Int32 → Int32 → zMem → zTr) (hk46 : ∀ (x3 : Int32) (x4 : Int32) (x5 : Int32) (M : zMem), zRm p l e rm_X4_addBehind s m args below meth c w 0 46 [some (.ref (zA w o)), some (.int u1), some (.int u2), some (.int x3), some (.int x4), some (.int x5)] [] M (k46 x3 x4 x5 M)) : ∀ (x3 : Int32) (x4 : Int32) (x5 : Int32) (M : zMem), zRm p l e rm_X4_addBehind s m args below meth c w 0 94 [some (.ref (zA w o)), some (.int u1), some (.int u2), some (.int x3), some (.int x4), some (.int x5)] [] M (f_X4_addBehind_B94 o u1 u2 k46 x3 x4 x5 M) := by
  intro x3 x4 x5 M
  unfold f_X4_addBehind_B94
  refine re_aload_n X dX4_addBehind_94 rfl rfl ?_
  refine re_getR X cl_4 (by decide) fl_RX4_9 ho rfl (zR_4_0 ho) dX4_addBehind_95 ?_
  refine re_iload X dX4_addBehind_98 rfl ?_
  refine re_ck (fun hi11 => ?_)
  refine re_iald X (zQ_4_0 X.clo ho) hi11 (j := zIx x5) rfl dX4_addBehind_100 ?_
  refine re_iload_n X dX4_addBehind_101 rfl rfl ?_
  refine re_icmp_ne (tgt := 108) X dX4_addBehind_102 (by decide) (fun _ => ?_) (fun _ => ?_)
  · exact re_sub (lb_X4_addBehind_105 X ho x4 M) ⟨rfl, ⟨rfl, ⟨rfl, trivial⟩⟩⟩
  · refine re_iinc (v := 1) (lv' := [some (.ref (zA w o)), some (.int u1), some (.int u2), some (.int x3), some (.int x4), some (.int (x5 + 1))]) X dX4_addBehind_108 rfl (by decide) rfl ?_
    refine re_goto (tgt := 46) X dX4_addBehind_111 (by decide) ?_
    exact hk46 x3 x4 (x5 + 1) M

set_option maxRecDepth 100000 in
theorem lb_X4_addBehind_46 {p : Program} {l : Launch} {e : Env} {s : State} {m : MethodId} {args : Array Value} {below : List Frame} {meth : Method} {c : Code} {w : zWD} {o : Nat} {u1 : Int32} {u2 : Int32} (X : zCx p s m args meth c w (zFree w) RX4 cX4_addBehind 6 none) (ho : zKd w o = (4, 6)) : ∀ (n : Nat) (x3 : Int32) (x4 : Int32) (x5 : Int32) (M : zMem), zRm p l e rm_X4_addBehind s m args below meth c w 0 46 [some (.ref (zA w o)), some (.int u1), some (.int u2), some (.int x3), some (.int x4), some (.int x5)] [] M (f_X4_addBehind_L46 o u1 u2 n x3 x4 x5 M) := by
  intro n
  induction n with
  | zero => intro x3 x4 x5 M; exact re_none
  | succ n ih =>
    intro x3 x4 x5 M
    rw [f_X4_addBehind_L46]
    refine re_iload X dX4_addBehind_46 rfl ?_
    refine re_aload_n X dX4_addBehind_48 rfl rfl ?_
    refine re_getI X cl_4 (by decide) fl_RX4_25 ho rfl dX4_addBehind_49 ?_
    refine re_icmp_ge (tgt := 114) X dX4_addBehind_52 (by decide) (fun _ => ?_) (fun _ => ?_)
    · exact re_sub (lb_X4_addBehind_114 X ho x4 M) ⟨rfl, ⟨rfl, ⟨rfl, trivial⟩⟩⟩
    · refine re_iload X dX4_addBehind_55 rfl ?_
      refine re_sipush (v := 320) X dX4_addBehind_57 (by decide) ?_
      refine re_icmp_ge (tgt := 114) X dX4_addBehind_60 (by decide) (fun _ => ?_) (fun _ => ?_)
      · exact re_sub (lb_X4_addBehind_114 X ho x4 M) ⟨rfl, ⟨rfl, ⟨rfl, trivial⟩⟩⟩
      · refine re_aload_n X dX4_addBehind_63 rfl rfl ?_
        refine re_aload_n X dX4_addBehind_64 rfl rfl ?_
        refine re_getR X cl_4 (by decide) fl_RX4_9 ho rfl (zR_4_0 ho) dX4_addBehind_65 ?_
        refine re_iload X dX4_addBehind_68 rfl ?_
        refine re_ck (fun hi8 => ?_)
        refine re_iald X (zQ_4_0 X.clo ho) hi8 (j := zIx x5) rfl dX4_addBehind_70 ?_
        refine re_callVz X (lk_X4_isThere l w o (M (o + 1) (zIx x5)) ho) (ca_X4_isThere (by decide) (by decide)) ml_RX4_39 im_X4_isThere se_X4_isThere cl_4 ho rfl rfl rfl (zle rfl) zRo dX4_addBehind_71 (fun r9 M10 hr9 => ?_)
        refine re_if_eq (tgt := 94) X dX4_addBehind_74 (by decide) (fun _ => ?_) (fun _ => ?_)
        · exact lb_X4_addBehind_94 X ho _ ih x3 x4 x5 M10
        · refine re_aload_n X dX4_addBehind_77 rfl rfl ?_
          refine re_getR X cl_4 (by decide) fl_RX4_9 ho rfl (zR_4_0 ho) dX4_addBehind_78 ?_
          refine re_iload X dX4_addBehind_81 rfl ?_
          refine re_ck (fun hi12 => ?_)
          refine re_iald X (zQ_4_0 X.clo ho) hi12 (j := zIx x5) rfl dX4_addBehind_83 ?_
          refine re_iload_n X dX4_addBehind_84 rfl rfl ?_
          refine re_icmp_ge (tgt := 94) X dX4_addBehind_85 (by decide) (fun _ => ?_) (fun _ => ?_)
          · exact lb_X4_addBehind_94 X ho _ ih x3 x4 x5 M10
          · refine re_iload X dX4_addBehind_88 rfl ?_
            refine re_iconst (v := 1) X dX4_addBehind_90 (by decide) ?_
            refine re_iadd X dX4_addBehind_91 ?_
            refine re_istore (lv' := [some (.ref (zA w o)), some (.int u1), some (.int u2), some (.int x3), some (.int (x5 + 1)), some (.int x5)]) X dX4_addBehind_92 (zlt rfl) rfl ?_
            exact lb_X4_addBehind_94 X ho _ ih x3 (x5 + 1) x5 M10

set_option maxRecDepth 100000 in
theorem lk_X4_addBehind (l : Launch) (w : zWD) (o : Nat) (u1 : Int32) (u2 : Int32) (ho : zKd w o = (4, 6)) : zMt l w yX4_addBehind cX4_addBehind 6 none rm_X4_addBehind 0 [.ref (zA w o), .int u1, .int u2] (fun M => f_X4_addBehind o u1 u2 M) := by
  refine zMt.of (by decide) [some (.ref (zA w o)), some (.int u1), some (.int u2), none, none, none] rfl (zle rfl) (by intro v hv; simp only [List.mem_cons, List.not_mem_nil, or_false] at hv; rcases hv with rfl | rfl | rfl <;> rfl) ?_
  intro p e s m args below meth c X M
  unfold f_X4_addBehind
  refine re_aload_n X dX4_addBehind_0 rfl rfl ?_
  refine re_iload_n X dX4_addBehind_1 rfl rfl ?_
  refine re_callVz X (lk_X4_wasEver l w o u1 ho) (ca_X4_wasEver (by decide) (by decide)) ml_RX4_63 im_X4_wasEver se_X4_wasEver cl_4 ho rfl rfl rfl (zle rfl) zRo dX4_addBehind_2 (fun r1 M2 hr1 => ?_)
  refine re_if_eq (tgt := 17) X dX4_addBehind_5 (by decide) (fun _ => ?_) (fun _ => ?_)
  · exact re_vret X dX4_addBehind_17
  · refine re_aload_n X dX4_addBehind_8 rfl rfl ?_
    refine re_getI X cl_4 (by decide) fl_RX4_29 ho rfl dX4_addBehind_9 ?_
    refine re_bipush (v := 40) X dX4_addBehind_12 (by decide) ?_
    refine re_icmp_lt (tgt := 18) X dX4_addBehind_14 (by decide) (fun _ => ?_) (fun _ => ?_)
    · refine re_aload_n X dX4_addBehind_18 rfl rfl ?_
      refine re_iload_n X dX4_addBehind_19 rfl rfl ?_
      refine re_callVz X (lk_X4_isThere l w o u1 ho) (ca_X4_isThere (by decide) (by decide)) ml_RX4_39 im_X4_isThere se_X4_isThere cl_4 ho rfl rfl rfl (zle rfl) zRo dX4_addBehind_20 (fun r3 M4 hr3 => ?_)
      refine re_if_eq (tgt := 33) X dX4_addBehind_23 (by decide) (fun _ => ?_) (fun _ => ?_)
      · refine re_aload_n X dX4_addBehind_33 rfl rfl ?_
        refine re_getR X cl_4 (by decide) fl_RX4_18 ho rfl (zR_4_2 ho) dX4_addBehind_34 ?_
        refine re_iload_n X dX4_addBehind_37 rfl rfl ?_
        refine re_ck (fun hi5 => ?_)
        refine re_iald X (zQ_4_2 X.clo ho) hi5 (j := zIx u1) rfl dX4_addBehind_38 ?_
        refine re_istore_n (lv' := [some (.ref (zA w o)), some (.int u1), some (.int u2), some (.int (M4 (o + 3) (zIx u1))), none, none]) X dX4_addBehind_39 rfl (zlt rfl) rfl ?_
        refine re_iconst (v := 0) X dX4_addBehind_40 (by decide) ?_
        refine re_istore (lv' := [some (.ref (zA w o)), some (.int u1), some (.int u2), some (.int (M4 (o + 3) (zIx u1))), some (.int 0), none]) X dX4_addBehind_41 (zlt rfl) rfl ?_
        refine re_iconst (v := 0) X dX4_addBehind_43 (by decide) ?_
        refine re_istore (lv' := [some (.ref (zA w o)), some (.int u1), some (.int u2), some (.int (M4 (o + 3) (zIx u1))), some (.int 0), some (.int 0)]) X dX4_addBehind_44 (zlt rfl) rfl ?_
        exact lb_X4_addBehind_46 X ho zFu (M4 (o + 3) (zIx u1)) 0 0 M4
      · refine re_aload_n X dX4_addBehind_26 rfl rfl ?_
        refine re_getI X cl_4 (by decide) fl_RX4_25 ho rfl dX4_addBehind_27 ?_
        refine re_goto (tgt := 39) X dX4_addBehind_30 (by decide) ?_
        refine re_istore_n (lv' := [some (.ref (zA w o)), some (.int u1), some (.int u2), some (.int (M4 o 4)), none, none]) X dX4_addBehind_39 rfl (zlt rfl) rfl ?_
        refine re_iconst (v := 0) X dX4_addBehind_40 (by decide) ?_
        refine re_istore (lv' := [some (.ref (zA w o)), some (.int u1), some (.int u2), some (.int (M4 o 4)), some (.int 0), none]) X dX4_addBehind_41 (zlt rfl) rfl ?_
        refine re_iconst (v := 0) X dX4_addBehind_43 (by decide) ?_
        refine re_istore (lv' := [some (.ref (zA w o)), some (.int u1), some (.int u2), some (.int (M4 o 4)), some (.int 0), some (.int 0)]) X dX4_addBehind_44 (zlt rfl) rfl ?_
        exact lb_X4_addBehind_46 X ho zFu (M4 o 4) 0 0 M4
    · exact re_vret X dX4_addBehind_17
theorem ca_X4_addBehind {R : Room} (h1 : rm_X4_addBehind.frames + 1 ≤ R.frames) (h2 : 8 + (6 + 11) + rm_X4_addBehind.locals ≤ R.locals) : zCa yX4_addBehind cX4_addBehind 6 none rm_X4_addBehind R 2 := ⟨cd_X4_addBehind, iz_RX4, ⟨by decide, by decide, by decide⟩, rfl, rfl, h1, h2⟩
/-! DebateHouse$Paper.remove -/
abbrev rm_X4_remove : Room := { frames := 1, cells := 0, slots := 0, locals := 21 }
def f_X4_remove (o : Nat) (u1 : Int32) (M : zMem) : zTr := zBd (f_X4_isThere o u1 M) (fun r1 M2 => if r1 = 0 then some (0, M2) else zCk (zIn u1 320) (zLt (zUp M2 (o + 3) (zIx u1) (M2 o 4)) (fun M3 => zLt (zUp M3 o 5 ((M3 o 5) - 1)) (fun M5 => some (0, M5)))))
set_option maxRecDepth 100000 in
theorem lk_X4_remove (l : Launch) (w : zWD) (o : Nat) (u1 : Int32) (ho : zKd w o = (4, 6)) : zMt l w yX4_remove cX4_remove 2 none rm_X4_remove 0 [.ref (zA w o), .int u1] (fun M => f_X4_remove o u1 M) := by
  refine zMt.of (by decide) [some (.ref (zA w o)), some (.int u1)] rfl (zle rfl) (by intro v hv; simp only [List.mem_cons, List.not_mem_nil, or_false] at hv; rcases hv with rfl | rfl <;> rfl) ?_
  intro p e s m args below meth c X M
  unfold f_X4_remove
  refine re_aload_n X dX4_remove_0 rfl rfl ?_
  refine re_iload_n X dX4_remove_1 rfl rfl ?_
  refine re_callVz X (lk_X4_isThere l w o u1 ho) (ca_X4_isThere (by decide) (by decide)) ml_RX4_39 im_X4_isThere se_X4_isThere cl_4 ho rfl rfl rfl (zle rfl) zRo dX4_remove_2 (fun r1 M2 hr1 => ?_)
  refine re_if_eq (tgt := 28) X dX4_remove_5 (by decide) (fun _ => ?_) (fun _ => ?_)
  · exact re_vret X dX4_remove_28
  · refine re_aload_n X dX4_remove_8 rfl rfl ?_
    refine re_getR X cl_4 (by decide) fl_RX4_18 ho rfl (zR_4_2 ho) dX4_remove_9 ?_
    refine re_iload_n X dX4_remove_12 rfl rfl ?_
    refine re_aload_n X dX4_remove_13 rfl rfl ?_
    refine re_getI X cl_4 (by decide) fl_RX4_25 ho rfl dX4_remove_14 ?_
    refine re_ck (fun hi4 => ?_)
    refine re_iast X (zQ_4_2 X.clo ho) hi4 (j := zIx u1) rfl dX4_remove_17 (fun M3 => ?_)
    refine re_aload_n X dX4_remove_18 rfl rfl ?_
    refine re_dup X dX4_remove_19 rfl ?_
    refine re_getI X cl_4 (by decide) fl_RX4_29 ho rfl dX4_remove_20 ?_
    refine re_iconst (v := 1) X dX4_remove_23 (by decide) ?_
    refine re_isub X dX4_remove_24 ?_
    refine re_putI X cl_4 (by decide) fl_RX4_29 ho rfl rfl rfl dX4_remove_25 (fun M5 => ?_)
    exact re_vret X dX4_remove_28
theorem ca_X4_remove {R : Room} (h1 : rm_X4_remove.frames + 1 ≤ R.frames) (h2 : 8 + (2 + 11) + rm_X4_remove.locals ≤ R.locals) : zCa yX4_remove cX4_remove 2 none rm_X4_remove R 1 := ⟨cd_X4_remove, iz_RX4, ⟨by decide, by decide, by decide⟩, rfl, rfl, h1, h2⟩
/-! DebateHouse$Paper.textOf -/
abbrev rm_X4_textOf : Room := { frames := 1, cells := 0, slots := 0, locals := 21 }
def f_X4_textOf (o : Nat) (u1 : Int32) (M : zMem) : zTr := zBd (f_X4_isThere o u1 M) (fun r1 M2 => if r1 = 0 then some (-1, M2) else zCk (zIn u1 320) (some (M2 (o + 2) (zIx u1), M2)))
set_option maxRecDepth 100000 in
theorem lk_X4_textOf (l : Launch) (w : zWD) (o : Nat) (u1 : Int32) (ho : zKd w o = (4, 6)) : zMt l w yX4_textOf cX4_textOf 2 (some .int) rm_X4_textOf 1 [.ref (zA w o), .int u1] (fun M => f_X4_textOf o u1 M) := by
  refine zMt.of (by decide) [some (.ref (zA w o)), some (.int u1)] rfl (zle rfl) (by intro v hv; simp only [List.mem_cons, List.not_mem_nil, or_false] at hv; rcases hv with rfl | rfl <;> rfl) ?_
  intro p e s m args below meth c X M
  unfold f_X4_textOf
  refine re_aload_n X dX4_textOf_0 rfl rfl ?_
  refine re_iload_n X dX4_textOf_1 rfl rfl ?_
  refine re_callVz X (lk_X4_isThere l w o u1 ho) (ca_X4_isThere (by decide) (by decide)) ml_RX4_39 im_X4_isThere se_X4_isThere cl_4 ho rfl rfl rfl (zle rfl) zRo dX4_textOf_2 (fun r1 M2 hr1 => ?_)
  refine re_if_eq (tgt := 17) X dX4_textOf_5 (by decide) (fun _ => ?_) (fun _ => ?_)
  · refine re_iconst (v := -1) X dX4_textOf_17 (by decide) ?_
    exact re_iret X dX4_textOf_18
  · refine re_aload_n X dX4_textOf_8 rfl rfl ?_
    refine re_getR X cl_4 (by decide) fl_RX4_15 ho rfl (zR_4_1 ho) dX4_textOf_9 ?_
    refine re_iload_n X dX4_textOf_12 rfl rfl ?_
    refine re_ck (fun hi3 => ?_)
    refine re_iald X (zQ_4_1 X.clo ho) hi3 (j := zIx u1) rfl dX4_textOf_13 ?_
    refine re_goto (tgt := 18) X dX4_textOf_14 (by decide) ?_
    exact re_iret X dX4_textOf_18
theorem ca_X4_textOf {R : Room} (h1 : rm_X4_textOf.frames + 1 ≤ R.frames) (h2 : 8 + (2 + 11) + rm_X4_textOf.locals ≤ R.locals) : zCa yX4_textOf cX4_textOf 2 (some .int) rm_X4_textOf R 1 := ⟨cd_X4_textOf, iz_RX4, ⟨by decide, by decide, by decide⟩, rfl, rfl, h1, h2⟩
/-! DebateHouse$Paper.amend -/
abbrev rm_X4_amend : Room := { frames := 2, cells := 0, slots := 0, locals := 48 }
def f_X4_amend (o : Nat) (u1 : Int32) (u2 : Int32) (M : zMem) : zTr := if (u1 - u1 / 4 * 4) = 0 then zBd (f_X4_addBehind o (u1 / 4) u2 M) (fun _ M2 => some (0, M2)) else zBd (f_X4_isThere o (u1 / 4) M) (fun r3 M4 => if r3 = 0 then some (0, M4) else if (u1 - u1 / 4 * 4) = 1 then zBd (f_X4_remove o (u1 / 4) M4) (fun _ M6 => some (0, M6)) else if (u1 - u1 / 4 * 4) = 2 then zCk (zIn (u1 / 4) 320) (zLt (zUp M4 (o + 2) (zIx (u1 / 4)) u2) (fun M7 => some (0, M7))) else if (u1 - u1 / 4 * 4) = 3 then zBd (f_X4_behind o (u1 / 4) M4) (fun r9 M10 => zCk (zIn (u1 / 4) 320) (zBd (f_X4_textOf o r9 M10) (fun r12 M13 => zCk (zIn (u1 / 4) 320) (zLt (zUp M13 (o + 2) (zIx (u1 / 4)) (zMax (M10 (o + 2) (zIx (u1 / 4))) r12)) (fun M14 => zBd (f_X4_remove o r9 M14) (fun _ M17 => some (0, M17))))))) else some (0, M4))
set_option maxRecDepth 100000 in
theorem lk_X4_amend (l : Launch) (w : zWD) (o : Nat) (u1 : Int32) (u2 : Int32) (ho : zKd w o = (4, 6)) : zMt l w yX4_amend cX4_amend 6 none rm_X4_amend 0 [.ref (zA w o), .int u1, .int u2] (fun M => f_X4_amend o u1 u2 M) := by
  refine zMt.of (by decide) [some (.ref (zA w o)), some (.int u1), some (.int u2), none, none, none] rfl (zle rfl) (by intro v hv; simp only [List.mem_cons, List.not_mem_nil, or_false] at hv; rcases hv with rfl | rfl | rfl <;> rfl) ?_
  intro p e s m args below meth c X M
  unfold f_X4_amend
  refine re_iload_n X dX4_amend_0 rfl rfl ?_
  refine re_iconst (v := 4) X dX4_amend_1 (by decide) ?_
  refine re_idivK X (by decide) dX4_amend_2 ?_
  refine re_istore_n (lv' := [some (.ref (zA w o)), some (.int u1), some (.int u2), some (.int (u1 / 4)), none, none]) X dX4_amend_3 rfl (zlt rfl) rfl ?_
  refine re_iload_n X dX4_amend_4 rfl rfl ?_
  refine re_iconst (v := 4) X dX4_amend_5 (by decide) ?_
  refine re_iremK X (by decide) dX4_amend_6 ?_
  refine re_istore (lv' := [some (.ref (zA w o)), some (.int u1), some (.int u2), some (.int (u1 / 4)), some (.int (u1 - u1 / 4 * 4)), none]) X dX4_amend_7 (zlt rfl) rfl ?_
  refine re_iload X dX4_amend_9 rfl ?_
  refine re_if_ne (tgt := 21) X dX4_amend_11 (by decide) (fun _ => ?_) (fun _ => ?_)
  · refine re_aload_n X dX4_amend_14 rfl rfl ?_
    refine re_iload_n X dX4_amend_15 rfl rfl ?_
    refine re_iload_n X dX4_amend_16 rfl rfl ?_
    refine re_callVv X (lk_X4_addBehind l w o (u1 / 4) u2 ho) (ca_X4_addBehind (by decide) (by decide)) ml_RX4_47 im_X4_addBehind se_X4_addBehind cl_4 ho rfl rfl rfl (zle rfl) zRo dX4_amend_17 (fun r1 M2 hr1 => ?_)
    exact re_vret X dX4_amend_20
  · refine re_aload_n X dX4_amend_21 rfl rfl ?_
    refine re_iload_n X dX4_amend_22 rfl rfl ?_
    refine re_callVz X (lk_X4_isThere l w o (u1 / 4) ho) (ca_X4_isThere (by decide) (by decide)) ml_RX4_39 im_X4_isThere se_X4_isThere cl_4 ho rfl rfl rfl (zle rfl) zRo dX4_amend_23 (fun r3 M4 hr3 => ?_)
    refine re_if_ne (tgt := 30) X dX4_amend_26 (by decide) (fun _ => ?_) (fun _ => ?_)
    · exact re_vret X dX4_amend_29
    · refine re_iload X dX4_amend_30 rfl ?_
      refine re_iconst (v := 1) X dX4_amend_32 (by decide) ?_
      refine re_icmp_ne (tgt := 44) X dX4_amend_33 (by decide) (fun _ => ?_) (fun _ => ?_)
      · refine re_aload_n X dX4_amend_36 rfl rfl ?_
        refine re_iload_n X dX4_amend_37 rfl rfl ?_
        refine re_callVv X (lk_X4_remove l w o (u1 / 4) ho) (ca_X4_remove (by decide) (by decide)) ml_RX4_50 im_X4_remove se_X4_remove cl_4 ho rfl rfl rfl (zle rfl) zRo dX4_amend_38 (fun r5 M6 hr5 => ?_)
        refine re_goto (tgt := 100) X dX4_amend_41 (by decide) ?_
        exact re_vret X dX4_amend_100
      · refine re_iload X dX4_amend_44 rfl ?_
        refine re_iconst (v := 2) X dX4_amend_46 (by decide) ?_
        refine re_icmp_ne (tgt := 60) X dX4_amend_47 (by decide) (fun _ => ?_) (fun _ => ?_)
        · refine re_aload_n X dX4_amend_50 rfl rfl ?_
          refine re_getR X cl_4 (by decide) fl_RX4_15 ho rfl (zR_4_1 ho) dX4_amend_51 ?_
          refine re_iload_n X dX4_amend_54 rfl rfl ?_
          refine re_iload_n X dX4_amend_55 rfl rfl ?_
          refine re_ck (fun hi8 => ?_)
          refine re_iast X (zQ_4_1 X.clo ho) hi8 (j := zIx (u1 / 4)) rfl dX4_amend_56 (fun M7 => ?_)
          refine re_goto (tgt := 100) X dX4_amend_57 (by decide) ?_
          exact re_vret X dX4_amend_100
        · refine re_iload X dX4_amend_60 rfl ?_
          refine re_iconst (v := 3) X dX4_amend_62 (by decide) ?_
          refine re_icmp_ne (tgt := 100) X dX4_amend_63 (by decide) (fun _ => ?_) (fun _ => ?_)
          · refine re_aload_n X dX4_amend_66 rfl rfl ?_
            refine re_iload_n X dX4_amend_67 rfl rfl ?_
            refine re_callVi X (lk_X4_behind l w o (u1 / 4) ho) (ca_X4_behind (by decide) (by decide)) ml_RX4_43 im_X4_behind se_X4_behind cl_4 ho rfl rfl rfl (zle rfl) zRo dX4_amend_68 (fun r9 M10 hr9 => ?_)
            refine re_istore (lv' := [some (.ref (zA w o)), some (.int u1), some (.int u2), some (.int (u1 / 4)), some (.int (u1 - u1 / 4 * 4)), some (.int r9)]) X dX4_amend_71 (zlt rfl) rfl ?_
            refine re_aload_n X dX4_amend_73 rfl rfl ?_
            refine re_getR X cl_4 (by decide) fl_RX4_15 ho rfl (zR_4_1 ho) dX4_amend_74 ?_
            refine re_iload_n X dX4_amend_77 rfl rfl ?_
            refine re_aload_n X dX4_amend_78 rfl rfl ?_
            refine re_getR X cl_4 (by decide) fl_RX4_15 ho rfl (zR_4_1 ho) dX4_amend_79 ?_
            refine re_iload_n X dX4_amend_82 rfl rfl ?_
            refine re_ck (fun hi11 => ?_)
            refine re_iald X (zQ_4_1 X.clo ho) hi11 (j := zIx (u1 / 4)) rfl dX4_amend_83 ?_
            refine re_aload_n X dX4_amend_84 rfl rfl ?_
            refine re_iload X dX4_amend_85 rfl ?_
            refine re_callVi X (lk_X4_textOf l w o r9 ho) (ca_X4_textOf (by decide) (by decide)) ml_RX4_54 im_X4_textOf se_X4_textOf cl_4 ho rfl rfl rfl (zle rfl) zRo dX4_amend_87 (fun r12 M13 hr12 => ?_)
            refine re_mmax X ml_RX4_57 (by decide) rfl (zle rfl) zRo dX4_amend_90 ?_
            refine re_ck (fun hi15 => ?_)
            refine re_iast X (zQ_4_1 X.clo ho) hi15 (j := zIx (u1 / 4)) rfl dX4_amend_93 (fun M14 => ?_)
            refine re_aload_n X dX4_amend_94 rfl rfl ?_
            refine re_iload X dX4_amend_95 rfl ?_
            refine re_callVv X (lk_X4_remove l w o r9 ho) (ca_X4_remove (by decide) (by decide)) ml_RX4_50 im_X4_remove se_X4_remove cl_4 ho rfl rfl rfl (zle rfl) zRo dX4_amend_97 (fun r16 M17 hr16 => ?_)
            exact re_vret X dX4_amend_100
          · exact re_vret X dX4_amend_100
theorem ca_X4_amend {R : Room} (h1 : rm_X4_amend.frames + 1 ≤ R.frames) (h2 : 8 + (6 + 11) + rm_X4_amend.locals ≤ R.locals) : zCa yX4_amend cX4_amend 6 none rm_X4_amend R 2 := ⟨cd_X4_amend, iz_RX4, ⟨by decide, by decide, by decide⟩, rfl, rfl, h1, h2⟩
/-! DebateHouse$Paper.numberAt -/
abbrev rm_X4_numberAt : Room := { frames := 1, cells := 0, slots := 0, locals := 21 }
def f_X4_numberAt_L4 (o : Nat) (u1 : Int32)  : Nat → Int32 → Int32 → zMem → zTr
  | 0, _, _, _ => none
  | n + 1, x2, x3, M => if (M o 4) ≤ x3 then some (-1, M) else if 320 ≤ x3 then some (-1, M) else zCk (zIn x3 320) (zBd (f_X4_isThere o (M (o + 1) (zIx x3)) M) (fun r2 M3 => if r2 = 0 then f_X4_numberAt_L4 o u1 n x2 (x3 + 1) M3 else if x2 = u1 then zCk (zIn x3 320) (some (M3 (o + 1) (zIx x3), M3)) else f_X4_numberAt_L4 o u1 n (x2 + 1) (x3 + 1) M3))
def f_X4_numberAt (o : Nat) (u1 : Int32) (M : zMem) : zTr := f_X4_numberAt_L4 o u1 zFu 0 0 M
set_option maxRecDepth 100000 in
theorem lb_X4_numberAt_4 {p : Program} {l : Launch} {e : Env} {s : State} {m : MethodId} {args : Array Value} {below : List Frame} {meth : Method} {c : Code} {w : zWD} {o : Nat} {u1 : Int32} (X : zCx p s m args meth c w (zFree w) RX4 cX4_numberAt 4 (some .int)) (ho : zKd w o = (4, 6)) : ∀ (n : Nat) (x2 : Int32) (x3 : Int32) (M : zMem), zRm p l e rm_X4_numberAt s m args below meth c w 1 4 [some (.ref (zA w o)), some (.int u1), some (.int x2), some (.int x3)] [] M (f_X4_numberAt_L4 o u1 n x2 x3 M) := by
  intro n
  induction n with
  | zero => intro x2 x3 M; exact re_none
  | succ n ih =>
    intro x2 x3 M
    rw [f_X4_numberAt_L4]
    refine re_iload_n X dX4_numberAt_4 rfl rfl ?_
    refine re_aload_n X dX4_numberAt_5 rfl rfl ?_
    refine re_getI X cl_4 (by decide) fl_RX4_25 ho rfl dX4_numberAt_6 ?_
    refine re_icmp_ge (tgt := 53) X dX4_numberAt_9 (by decide) (fun _ => ?_) (fun _ => ?_)
    · refine re_iconst (v := -1) X dX4_numberAt_53 (by decide) ?_
      exact re_iret X dX4_numberAt_54
    · refine re_iload_n X dX4_numberAt_12 rfl rfl ?_
      refine re_sipush (v := 320) X dX4_numberAt_13 (by decide) ?_
      refine re_icmp_ge (tgt := 53) X dX4_numberAt_16 (by decide) (fun _ => ?_) (fun _ => ?_)
      · refine re_iconst (v := -1) X dX4_numberAt_53 (by decide) ?_
        exact re_iret X dX4_numberAt_54
      · refine re_aload_n X dX4_numberAt_19 rfl rfl ?_
        refine re_aload_n X dX4_numberAt_20 rfl rfl ?_
        refine re_getR X cl_4 (by decide) fl_RX4_9 ho rfl (zR_4_0 ho) dX4_numberAt_21 ?_
        refine re_iload_n X dX4_numberAt_24 rfl rfl ?_
        refine re_ck (fun hi1 => ?_)
        refine re_iald X (zQ_4_0 X.clo ho) hi1 (j := zIx x3) rfl dX4_numberAt_25 ?_
        refine re_callVz X (lk_X4_isThere l w o (M (o + 1) (zIx x3)) ho) (ca_X4_isThere (by decide) (by decide)) ml_RX4_39 im_X4_isThere se_X4_isThere cl_4 ho rfl rfl rfl (zle rfl) zRo dX4_numberAt_26 (fun r2 M3 hr2 => ?_)
        refine re_if_eq (tgt := 47) X dX4_numberAt_29 (by decide) (fun _ => ?_) (fun _ => ?_)
        · refine re_iinc (v := 1) (lv' := [some (.ref (zA w o)), some (.int u1), some (.int x2), some (.int (x3 + 1))]) X dX4_numberAt_47 rfl (by decide) rfl ?_
          refine re_goto (tgt := 4) X dX4_numberAt_50 (by decide) ?_
          exact ih x2 (x3 + 1) M3
        · refine re_iload_n X dX4_numberAt_32 rfl rfl ?_
          refine re_iload_n X dX4_numberAt_33 rfl rfl ?_
          refine re_icmp_ne (tgt := 44) X dX4_numberAt_34 (by decide) (fun _ => ?_) (fun _ => ?_)
          · refine re_aload_n X dX4_numberAt_37 rfl rfl ?_
            refine re_getR X cl_4 (by decide) fl_RX4_9 ho rfl (zR_4_0 ho) dX4_numberAt_38 ?_
            refine re_iload_n X dX4_numberAt_41 rfl rfl ?_
            refine re_ck (fun hi4 => ?_)
            refine re_iald X (zQ_4_0 X.clo ho) hi4 (j := zIx x3) rfl dX4_numberAt_42 ?_
            exact re_iret X dX4_numberAt_43
          · refine re_iinc (v := 1) (lv' := [some (.ref (zA w o)), some (.int u1), some (.int (x2 + 1)), some (.int x3)]) X dX4_numberAt_44 rfl (by decide) rfl ?_
            refine re_iinc (v := 1) (lv' := [some (.ref (zA w o)), some (.int u1), some (.int (x2 + 1)), some (.int (x3 + 1))]) X dX4_numberAt_47 rfl (by decide) rfl ?_
            refine re_goto (tgt := 4) X dX4_numberAt_50 (by decide) ?_
            exact ih (x2 + 1) (x3 + 1) M3

set_option maxRecDepth 100000 in
theorem lk_X4_numberAt (l : Launch) (w : zWD) (o : Nat) (u1 : Int32) (ho : zKd w o = (4, 6)) : zMt l w yX4_numberAt cX4_numberAt 4 (some .int) rm_X4_numberAt 1 [.ref (zA w o), .int u1] (fun M => f_X4_numberAt o u1 M) := by
  refine zMt.of (by decide) [some (.ref (zA w o)), some (.int u1), none, none] rfl (zle rfl) (by intro v hv; simp only [List.mem_cons, List.not_mem_nil, or_false] at hv; rcases hv with rfl | rfl <;> rfl) ?_
  intro p e s m args below meth c X M
  unfold f_X4_numberAt
  refine re_iconst (v := 0) X dX4_numberAt_0 (by decide) ?_
  refine re_istore_n (lv' := [some (.ref (zA w o)), some (.int u1), some (.int 0), none]) X dX4_numberAt_1 rfl (zlt rfl) rfl ?_
  refine re_iconst (v := 0) X dX4_numberAt_2 (by decide) ?_
  refine re_istore_n (lv' := [some (.ref (zA w o)), some (.int u1), some (.int 0), some (.int 0)]) X dX4_numberAt_3 rfl (zlt rfl) rfl ?_
  exact lb_X4_numberAt_4 X ho zFu 0 0 M
theorem ca_X4_numberAt {R : Room} (h1 : rm_X4_numberAt.frames + 1 ≤ R.frames) (h2 : 8 + (4 + 11) + rm_X4_numberAt.locals ≤ R.locals) : zCa yX4_numberAt cX4_numberAt 4 (some .int) rm_X4_numberAt R 1 := ⟨cd_X4_numberAt, iz_RX4, ⟨by decide, by decide, by decide⟩, rfl, rfl, h1, h2⟩
/-! DebateHouse$Paper.placeOf -/
abbrev rm_X4_placeOf : Room := { frames := 1, cells := 0, slots := 0, locals := 21 }
def f_X4_placeOf_L4 (o : Nat) (u1 : Int32)  : Nat → Int32 → Int32 → zMem → zTr
  | 0, _, _, _ => none
  | n + 1, x2, x3, M => if (M o 4) ≤ x3 then some (-1, M) else if 320 ≤ x3 then some (-1, M) else zCk (zIn x3 320) (zBd (f_X4_isThere o (M (o + 1) (zIx x3)) M) (fun r2 M3 => if r2 = 0 then f_X4_placeOf_L4 o u1 n x2 (x3 + 1) M3 else zCk (zIn x3 320) (if (M3 (o + 1) (zIx x3)) = u1 then some (x2, M3) else f_X4_placeOf_L4 o u1 n (x2 + 1) (x3 + 1) M3)))
def f_X4_placeOf (o : Nat) (u1 : Int32) (M : zMem) : zTr := f_X4_placeOf_L4 o u1 zFu 0 0 M
set_option maxRecDepth 100000 in
theorem lb_X4_placeOf_4 {p : Program} {l : Launch} {e : Env} {s : State} {m : MethodId} {args : Array Value} {below : List Frame} {meth : Method} {c : Code} {w : zWD} {o : Nat} {u1 : Int32} (X : zCx p s m args meth c w (zFree w) RX4 cX4_placeOf 4 (some .int)) (ho : zKd w o = (4, 6)) : ∀ (n : Nat) (x2 : Int32) (x3 : Int32) (M : zMem), zRm p l e rm_X4_placeOf s m args below meth c w 1 4 [some (.ref (zA w o)), some (.int u1), some (.int x2), some (.int x3)] [] M (f_X4_placeOf_L4 o u1 n x2 x3 M) := by
  intro n
  induction n with
  | zero => intro x2 x3 M; exact re_none
  | succ n ih =>
    intro x2 x3 M
    rw [f_X4_placeOf_L4]
    refine re_iload_n X dX4_placeOf_4 rfl rfl ?_
    refine re_aload_n X dX4_placeOf_5 rfl rfl ?_
    refine re_getI X cl_4 (by decide) fl_RX4_25 ho rfl dX4_placeOf_6 ?_
    refine re_icmp_ge (tgt := 53) X dX4_placeOf_9 (by decide) (fun _ => ?_) (fun _ => ?_)
    · refine re_iconst (v := -1) X dX4_placeOf_53 (by decide) ?_
      exact re_iret X dX4_placeOf_54
    · refine re_iload_n X dX4_placeOf_12 rfl rfl ?_
      refine re_sipush (v := 320) X dX4_placeOf_13 (by decide) ?_
      refine re_icmp_ge (tgt := 53) X dX4_placeOf_16 (by decide) (fun _ => ?_) (fun _ => ?_)
      · refine re_iconst (v := -1) X dX4_placeOf_53 (by decide) ?_
        exact re_iret X dX4_placeOf_54
      · refine re_aload_n X dX4_placeOf_19 rfl rfl ?_
        refine re_aload_n X dX4_placeOf_20 rfl rfl ?_
        refine re_getR X cl_4 (by decide) fl_RX4_9 ho rfl (zR_4_0 ho) dX4_placeOf_21 ?_
        refine re_iload_n X dX4_placeOf_24 rfl rfl ?_
        refine re_ck (fun hi1 => ?_)
        refine re_iald X (zQ_4_0 X.clo ho) hi1 (j := zIx x3) rfl dX4_placeOf_25 ?_
        refine re_callVz X (lk_X4_isThere l w o (M (o + 1) (zIx x3)) ho) (ca_X4_isThere (by decide) (by decide)) ml_RX4_39 im_X4_isThere se_X4_isThere cl_4 ho rfl rfl rfl (zle rfl) zRo dX4_placeOf_26 (fun r2 M3 hr2 => ?_)
        refine re_if_eq (tgt := 47) X dX4_placeOf_29 (by decide) (fun _ => ?_) (fun _ => ?_)
        · refine re_iinc (v := 1) (lv' := [some (.ref (zA w o)), some (.int u1), some (.int x2), some (.int (x3 + 1))]) X dX4_placeOf_47 rfl (by decide) rfl ?_
          refine re_goto (tgt := 4) X dX4_placeOf_50 (by decide) ?_
          exact ih x2 (x3 + 1) M3
        · refine re_aload_n X dX4_placeOf_32 rfl rfl ?_
          refine re_getR X cl_4 (by decide) fl_RX4_9 ho rfl (zR_4_0 ho) dX4_placeOf_33 ?_
          refine re_iload_n X dX4_placeOf_36 rfl rfl ?_
          refine re_ck (fun hi4 => ?_)
          refine re_iald X (zQ_4_0 X.clo ho) hi4 (j := zIx x3) rfl dX4_placeOf_37 ?_
          refine re_iload_n X dX4_placeOf_38 rfl rfl ?_
          refine re_icmp_ne (tgt := 44) X dX4_placeOf_39 (by decide) (fun _ => ?_) (fun _ => ?_)
          · refine re_iload_n X dX4_placeOf_42 rfl rfl ?_
            exact re_iret X dX4_placeOf_43
          · refine re_iinc (v := 1) (lv' := [some (.ref (zA w o)), some (.int u1), some (.int (x2 + 1)), some (.int x3)]) X dX4_placeOf_44 rfl (by decide) rfl ?_
            refine re_iinc (v := 1) (lv' := [some (.ref (zA w o)), some (.int u1), some (.int (x2 + 1)), some (.int (x3 + 1))]) X dX4_placeOf_47 rfl (by decide) rfl ?_
            refine re_goto (tgt := 4) X dX4_placeOf_50 (by decide) ?_
            exact ih (x2 + 1) (x3 + 1) M3

set_option maxRecDepth 100000 in
theorem lk_X4_placeOf (l : Launch) (w : zWD) (o : Nat) (u1 : Int32) (ho : zKd w o = (4, 6)) : zMt l w yX4_placeOf cX4_placeOf 4 (some .int) rm_X4_placeOf 1 [.ref (zA w o), .int u1] (fun M => f_X4_placeOf o u1 M) := by
  refine zMt.of (by decide) [some (.ref (zA w o)), some (.int u1), none, none] rfl (zle rfl) (by intro v hv; simp only [List.mem_cons, List.not_mem_nil, or_false] at hv; rcases hv with rfl | rfl <;> rfl) ?_
  intro p e s m args below meth c X M
  unfold f_X4_placeOf
  refine re_iconst (v := 0) X dX4_placeOf_0 (by decide) ?_
  refine re_istore_n (lv' := [some (.ref (zA w o)), some (.int u1), some (.int 0), none]) X dX4_placeOf_1 rfl (zlt rfl) rfl ?_
  refine re_iconst (v := 0) X dX4_placeOf_2 (by decide) ?_
  refine re_istore_n (lv' := [some (.ref (zA w o)), some (.int u1), some (.int 0), some (.int 0)]) X dX4_placeOf_3 rfl (zlt rfl) rfl ?_
  exact lb_X4_placeOf_4 X ho zFu 0 0 M
theorem ca_X4_placeOf {R : Room} (h1 : rm_X4_placeOf.frames + 1 ≤ R.frames) (h2 : 8 + (4 + 11) + rm_X4_placeOf.locals ≤ R.locals) : zCa yX4_placeOf cX4_placeOf 4 (some .int) rm_X4_placeOf R 1 := ⟨cd_X4_placeOf, iz_RX4, ⟨by decide, by decide, by decide⟩, rfl, rfl, h1, h2⟩
