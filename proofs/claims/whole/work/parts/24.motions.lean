/-! DebateHouse$Motions.top -/
abbrev rm_X3_top : Room := { frames := 0, cells := 0, slots := 0, locals := 0 }
def f_X3_top (o : Nat) (M : zMem) : zTr := if (M o 8) ≤ 0 then some (-1, M) else if 8 < (M o 8) then some (-1, M) else some ((M o 8) - 1, M)
set_option maxRecDepth 100000 in
theorem lk_X3_top (l : Launch) (w : zWD) (o : Nat) (ho : zKd w o = (3, 9)) : zMt l w yX3_top cX3_top 1 (some .int) rm_X3_top 1 [.ref (zA w o)] (fun M => f_X3_top o M) := by
  refine zMt.of (by decide) [some (.ref (zA w o))] rfl (zle rfl) (by intro v hv; simp only [List.mem_cons, List.not_mem_nil, or_false] at hv; rcases hv with rfl <;> rfl) ?_
  intro p e s m args below meth c X M
  unfold f_X3_top
  refine re_aload_n X dX3_top_0 rfl rfl ?_
  refine re_getI X cl_3 (by decide) fl_RX3_38 ho rfl dX3_top_1 ?_
  refine re_if_le (tgt := 25) X dX3_top_4 (by decide) (fun _ => ?_) (fun _ => ?_)
  · refine re_iconst (v := -1) X dX3_top_25 (by decide) ?_
    exact re_iret X dX3_top_26
  · refine re_aload_n X dX3_top_7 rfl rfl ?_
    refine re_getI X cl_3 (by decide) fl_RX3_38 ho rfl dX3_top_8 ?_
    refine re_bipush (v := 8) X dX3_top_11 (by decide) ?_
    refine re_icmp_gt (tgt := 25) X dX3_top_13 (by decide) (fun _ => ?_) (fun _ => ?_)
    · refine re_iconst (v := -1) X dX3_top_25 (by decide) ?_
      exact re_iret X dX3_top_26
    · refine re_aload_n X dX3_top_16 rfl rfl ?_
      refine re_getI X cl_3 (by decide) fl_RX3_38 ho rfl dX3_top_17 ?_
      refine re_iconst (v := 1) X dX3_top_20 (by decide) ?_
      refine re_isub X dX3_top_21 ?_
      refine re_goto (tgt := 26) X dX3_top_22 (by decide) ?_
      exact re_iret X dX3_top_26
theorem ca_X3_top {R : Room} (h1 : rm_X3_top.frames + 1 ≤ R.frames) (h2 : 8 + (1 + 11) + rm_X3_top.locals ≤ R.locals) : zCa yX3_top cX3_top 1 (some .int) rm_X3_top R 0 := ⟨cd_X3_top, iz_RX3, ⟨by decide, by decide, by decide⟩, rfl, rfl, h1, h2⟩
/-! DebateHouse$Motions.isFull -/
abbrev rm_X3_isFull : Room := { frames := 0, cells := 0, slots := 0, locals := 0 }
def f_X3_isFull (o : Nat) (M : zMem) : zTr := if (M o 8) < 8 then some (0, M) else some (1, M)
set_option maxRecDepth 100000 in
theorem lk_X3_isFull (l : Launch) (w : zWD) (o : Nat) (ho : zKd w o = (3, 9)) : zMt l w yX3_isFull cX3_isFull 1 (some .boolean) rm_X3_isFull 2 [.ref (zA w o)] (fun M => f_X3_isFull o M) := by
  refine zMt.of (by decide) [some (.ref (zA w o))] rfl (zle rfl) (by intro v hv; simp only [List.mem_cons, List.not_mem_nil, or_false] at hv; rcases hv with rfl <;> rfl) ?_
  intro p e s m args below meth c X M
  unfold f_X3_isFull
  refine re_aload_n X dX3_isFull_0 rfl rfl ?_
  refine re_getI X cl_3 (by decide) fl_RX3_38 ho rfl dX3_isFull_1 ?_
  refine re_bipush (v := 8) X dX3_isFull_4 (by decide) ?_
  refine re_icmp_lt (tgt := 13) X dX3_isFull_6 (by decide) (fun _ => ?_) (fun _ => ?_)
  · refine re_iconst (v := 0) X dX3_isFull_13 (by decide) ?_
    exact re_zret X (Or.inl rfl) dX3_isFull_14
  · refine re_iconst (v := 1) X dX3_isFull_9 (by decide) ?_
    refine re_goto (tgt := 14) X dX3_isFull_10 (by decide) ?_
    exact re_zret X (Or.inr rfl) dX3_isFull_14
theorem ca_X3_isFull {R : Room} (h1 : rm_X3_isFull.frames + 1 ≤ R.frames) (h2 : 8 + (1 + 11) + rm_X3_isFull.locals ≤ R.locals) : zCa yX3_isFull cX3_isFull 1 (some .boolean) rm_X3_isFull R 0 := ⟨cd_X3_isFull, iz_RX3, ⟨by decide, by decide, by decide⟩, rfl, rfl, h1, h2⟩
/-! DebateHouse$Motions.has -/
abbrev rm_X3_has : Room := { frames := 0, cells := 0, slots := 0, locals := 0 }
def f_X3_has_L2 (o : Nat) (u1 : Int32)  : Nat → Int32 → zMem → zTr
  | 0, _, _ => none
  | n + 1, x2, M => if (M o 8) ≤ x2 then some (0, M) else if 8 ≤ x2 then some (0, M) else zCk (zIn x2 8) (if (M (o + 1) (zIx x2)) = u1 then some (1, M) else f_X3_has_L2 o u1 n (x2 + 1) M)
def f_X3_has (o : Nat) (u1 : Int32) (M : zMem) : zTr := f_X3_has_L2 o u1 zFu 0 M
set_option maxRecDepth 100000 in
theorem lb_X3_has_2 {p : Program} {l : Launch} {e : Env} {s : State} {m : MethodId} {args : Array Value} {below : List Frame} {meth : Method} {c : Code} {w : zWD} {o : Nat} {u1 : Int32} (X : zCx p s m args meth c w (zFree w) RX3 cX3_has 3 (some .boolean)) (ho : zKd w o = (3, 9)) : ∀ (n : Nat) (x2 : Int32) (M : zMem), zRm p l e rm_X3_has s m args below meth c w 2 2 [some (.ref (zA w o)), some (.int u1), some (.int x2)] [] M (f_X3_has_L2 o u1 n x2 M) := by
  intro n
  induction n with
  | zero => intro x2 M; exact re_none
  | succ n ih =>
    intro x2 M
    rw [f_X3_has_L2]
    refine re_iload_n X dX3_has_2 rfl rfl ?_
    refine re_aload_n X dX3_has_3 rfl rfl ?_
    refine re_getI X cl_3 (by decide) fl_RX3_38 ho rfl dX3_has_4 ?_
    refine re_icmp_ge (tgt := 34) X dX3_has_7 (by decide) (fun _ => ?_) (fun _ => ?_)
    · refine re_iconst (v := 0) X dX3_has_34 (by decide) ?_
      exact re_zret X (Or.inl rfl) dX3_has_35
    · refine re_iload_n X dX3_has_10 rfl rfl ?_
      refine re_bipush (v := 8) X dX3_has_11 (by decide) ?_
      refine re_icmp_ge (tgt := 34) X dX3_has_13 (by decide) (fun _ => ?_) (fun _ => ?_)
      · refine re_iconst (v := 0) X dX3_has_34 (by decide) ?_
        exact re_zret X (Or.inl rfl) dX3_has_35
      · refine re_aload_n X dX3_has_16 rfl rfl ?_
        refine re_getR X cl_3 (by decide) fl_RX3_9 ho rfl (zR_3_1 ho) dX3_has_17 ?_
        refine re_iload_n X dX3_has_20 rfl rfl ?_
        refine re_ck (fun hi1 => ?_)
        refine re_iald X (zQ_3_1 X.clo ho) hi1 (j := zIx x2) rfl dX3_has_21 ?_
        refine re_iload_n X dX3_has_22 rfl rfl ?_
        refine re_icmp_ne (tgt := 28) X dX3_has_23 (by decide) (fun _ => ?_) (fun _ => ?_)
        · refine re_iconst (v := 1) X dX3_has_26 (by decide) ?_
          exact re_zret X (Or.inr rfl) dX3_has_27
        · refine re_iinc (v := 1) (lv' := [some (.ref (zA w o)), some (.int u1), some (.int (x2 + 1))]) X dX3_has_28 rfl (by decide) rfl ?_
          refine re_goto (tgt := 2) X dX3_has_31 (by decide) ?_
          exact ih (x2 + 1) M

set_option maxRecDepth 100000 in
theorem lk_X3_has (l : Launch) (w : zWD) (o : Nat) (u1 : Int32) (ho : zKd w o = (3, 9)) : zMt l w yX3_has cX3_has 3 (some .boolean) rm_X3_has 2 [.ref (zA w o), .int u1] (fun M => f_X3_has o u1 M) := by
  refine zMt.of (by decide) [some (.ref (zA w o)), some (.int u1), none] rfl (zle rfl) (by intro v hv; simp only [List.mem_cons, List.not_mem_nil, or_false] at hv; rcases hv with rfl | rfl <;> rfl) ?_
  intro p e s m args below meth c X M
  unfold f_X3_has
  refine re_iconst (v := 0) X dX3_has_0 (by decide) ?_
  refine re_istore_n (lv' := [some (.ref (zA w o)), some (.int u1), some (.int 0)]) X dX3_has_1 rfl (zlt rfl) rfl ?_
  exact lb_X3_has_2 X ho zFu 0 M
theorem ca_X3_has {R : Room} (h1 : rm_X3_has.frames + 1 ≤ R.frames) (h2 : 8 + (3 + 11) + rm_X3_has.locals ≤ R.locals) : zCa yX3_has cX3_has 3 (some .boolean) rm_X3_has R 1 := ⟨cd_X3_has, iz_RX3, ⟨by decide, by decide, by decide⟩, rfl, rfl, h1, h2⟩
/-! DebateHouse$Motions.isOutrankedBy -/
abbrev rm_X3_isOutrankedBy : Room := { frames := 2, cells := 0, slots := 0, locals := 41 }
def f_X3_isOutrankedBy (o : Nat) (u1 : Int32) (M : zMem) : zTr := zBd (f_X3_top o M) (fun r1 M2 => if r1 = (-1) then some (1, M2) else zBd (f_X6_rankOf 3 u1 M2) (fun r3 M4 => zCk (zIn r1 8) (zBd (f_X6_rankOf 3 (M4 (o + 1) (zIx r1)) M4) (fun r6 M7 => if r3 ≤ r6 then some (0, M7) else some (1, M7)))))
set_option maxRecDepth 100000 in
theorem lk_X3_isOutrankedBy (l : Launch) (w : zWD) (o : Nat) (u1 : Int32) (ho : zKd w o = (3, 9)) : zMt l w yX3_isOutrankedBy cX3_isOutrankedBy 3 (some .boolean) rm_X3_isOutrankedBy 2 [.ref (zA w o), .int u1] (fun M => f_X3_isOutrankedBy o u1 M) := by
  refine zMt.of (by decide) [some (.ref (zA w o)), some (.int u1), none] rfl (zle rfl) (by intro v hv; simp only [List.mem_cons, List.not_mem_nil, or_false] at hv; rcases hv with rfl | rfl <;> rfl) ?_
  intro p e s m args below meth c X M
  unfold f_X3_isOutrankedBy
  refine re_aload_n X dX3_isOutrankedBy_0 rfl rfl ?_
  refine re_callVi X (lk_X3_top l w o ho) (ca_X3_top (by decide) (by decide)) ml_RX3_42 im_X3_top se_X3_top cl_3 ho rfl rfl rfl (zle rfl) zRo dX3_isOutrankedBy_1 (fun r1 M2 hr1 => ?_)
  refine re_istore_n (lv' := [some (.ref (zA w o)), some (.int u1), some (.int r1)]) X dX3_isOutrankedBy_4 rfl (zlt rfl) rfl ?_
  refine re_iload_n X dX3_isOutrankedBy_5 rfl rfl ?_
  refine re_iconst (v := -1) X dX3_isOutrankedBy_6 (by decide) ?_
  refine re_icmp_eq (tgt := 34) X dX3_isOutrankedBy_7 (by decide) (fun _ => ?_) (fun _ => ?_)
  · refine re_iconst (v := 1) X dX3_isOutrankedBy_34 (by decide) ?_
    refine re_goto (tgt := 39) X dX3_isOutrankedBy_35 (by decide) ?_
    exact re_zret X (Or.inr rfl) dX3_isOutrankedBy_39
  · refine re_aload_n X dX3_isOutrankedBy_10 rfl rfl ?_
    refine re_getR X cl_3 (by decide) fl_RX3_34 ho rfl (zR_3_0 ho) dX3_isOutrankedBy_11 ?_
    refine re_iload_n X dX3_isOutrankedBy_14 rfl rfl ?_
    refine re_callVi X (lk_X6_rankOf l w 3 u1 (zQ_3_0 X.clo ho)) (ca_X6_rankOf (by decide) (by decide)) ml_RX3_46 im_X6_rankOf se_X6_rankOf cl_6 (zQ_3_0 X.clo ho) rfl rfl rfl (zle rfl) zRo dX3_isOutrankedBy_15 (fun r3 M4 hr3 => ?_)
    refine re_aload_n X dX3_isOutrankedBy_18 rfl rfl ?_
    refine re_getR X cl_3 (by decide) fl_RX3_34 ho rfl (zR_3_0 ho) dX3_isOutrankedBy_19 ?_
    refine re_aload_n X dX3_isOutrankedBy_22 rfl rfl ?_
    refine re_getR X cl_3 (by decide) fl_RX3_9 ho rfl (zR_3_1 ho) dX3_isOutrankedBy_23 ?_
    refine re_iload_n X dX3_isOutrankedBy_26 rfl rfl ?_
    refine re_ck (fun hi5 => ?_)
    refine re_iald X (zQ_3_1 X.clo ho) hi5 (j := zIx r1) rfl dX3_isOutrankedBy_27 ?_
    refine re_callVi X (lk_X6_rankOf l w 3 (M4 (o + 1) (zIx r1)) (zQ_3_0 X.clo ho)) (ca_X6_rankOf (by decide) (by decide)) ml_RX3_46 im_X6_rankOf se_X6_rankOf cl_6 (zQ_3_0 X.clo ho) rfl rfl rfl (zle rfl) zRo dX3_isOutrankedBy_28 (fun r6 M7 hr6 => ?_)
    refine re_icmp_le (tgt := 38) X dX3_isOutrankedBy_31 (by decide) (fun _ => ?_) (fun _ => ?_)
    · refine re_iconst (v := 0) X dX3_isOutrankedBy_38 (by decide) ?_
      exact re_zret X (Or.inl rfl) dX3_isOutrankedBy_39
    · refine re_iconst (v := 1) X dX3_isOutrankedBy_34 (by decide) ?_
      refine re_goto (tgt := 39) X dX3_isOutrankedBy_35 (by decide) ?_
      exact re_zret X (Or.inr rfl) dX3_isOutrankedBy_39
theorem ca_X3_isOutrankedBy {R : Room} (h1 : rm_X3_isOutrankedBy.frames + 1 ≤ R.frames) (h2 : 8 + (3 + 11) + rm_X3_isOutrankedBy.locals ≤ R.locals) : zCa yX3_isOutrankedBy cX3_isOutrankedBy 3 (some .boolean) rm_X3_isOutrankedBy R 1 := ⟨cd_X3_isOutrankedBy, iz_RX3, ⟨by decide, by decide, by decide⟩, rfl, rfl, h1, h2⟩
/-! DebateHouse$Motions.maySecond -/
abbrev rm_X3_maySecond : Room := { frames := 1, cells := 0, slots := 0, locals := 20 }
def f_X3_maySecond (o : Nat) (u1 : Int32) (M : zMem) : zTr := zBd (f_X3_top o M) (fun r1 M2 => if r1 = (-1) then some (0, M2) else zCk (zIn r1 8) (if (M2 (o + 6) (zIx r1)) = 0 then zCk (zIn r1 8) (if (M2 (o + 2) (zIx r1)) = u1 then some (0, M2) else some (1, M2)) else some (0, M2)))
set_option maxRecDepth 100000 in
theorem lk_X3_maySecond (l : Launch) (w : zWD) (o : Nat) (u1 : Int32) (ho : zKd w o = (3, 9)) : zMt l w yX3_maySecond cX3_maySecond 3 (some .boolean) rm_X3_maySecond 2 [.ref (zA w o), .int u1] (fun M => f_X3_maySecond o u1 M) := by
  refine zMt.of (by decide) [some (.ref (zA w o)), some (.int u1), none] rfl (zle rfl) (by intro v hv; simp only [List.mem_cons, List.not_mem_nil, or_false] at hv; rcases hv with rfl | rfl <;> rfl) ?_
  intro p e s m args below meth c X M
  unfold f_X3_maySecond
  refine re_aload_n X dX3_maySecond_0 rfl rfl ?_
  refine re_callVi X (lk_X3_top l w o ho) (ca_X3_top (by decide) (by decide)) ml_RX3_42 im_X3_top se_X3_top cl_3 ho rfl rfl rfl (zle rfl) zRo dX3_maySecond_1 (fun r1 M2 hr1 => ?_)
  refine re_istore_n (lv' := [some (.ref (zA w o)), some (.int u1), some (.int r1)]) X dX3_maySecond_4 rfl (zlt rfl) rfl ?_
  refine re_iload_n X dX3_maySecond_5 rfl rfl ?_
  refine re_iconst (v := -1) X dX3_maySecond_6 (by decide) ?_
  refine re_icmp_eq (tgt := 33) X dX3_maySecond_7 (by decide) (fun _ => ?_) (fun _ => ?_)
  · refine re_iconst (v := 0) X dX3_maySecond_33 (by decide) ?_
    exact re_zret X (Or.inl rfl) dX3_maySecond_34
  · refine re_aload_n X dX3_maySecond_10 rfl rfl ?_
    refine re_getR X cl_3 (by decide) fl_RX3_27 ho rfl (zR_3_6 ho) dX3_maySecond_11 ?_
    refine re_iload_n X dX3_maySecond_14 rfl rfl ?_
    refine re_ck (fun hi3 => ?_)
    refine re_zald X (zQ_3_6 X.clo ho) hi3 (j := zIx r1) rfl dX3_maySecond_15 ?_
    refine re_if_ne (tgt := 33) X dX3_maySecond_16 (by decide) (fun _ => ?_) (fun _ => ?_)
    · refine re_aload_n X dX3_maySecond_19 rfl rfl ?_
      refine re_getR X cl_3 (by decide) fl_RX3_15 ho rfl (zR_3_2 ho) dX3_maySecond_20 ?_
      refine re_iload_n X dX3_maySecond_23 rfl rfl ?_
      refine re_ck (fun hi4 => ?_)
      refine re_iald X (zQ_3_2 X.clo ho) hi4 (j := zIx r1) rfl dX3_maySecond_24 ?_
      refine re_iload_n X dX3_maySecond_25 rfl rfl ?_
      refine re_icmp_eq (tgt := 33) X dX3_maySecond_26 (by decide) (fun _ => ?_) (fun _ => ?_)
      · refine re_iconst (v := 0) X dX3_maySecond_33 (by decide) ?_
        exact re_zret X (Or.inl rfl) dX3_maySecond_34
      · refine re_iconst (v := 1) X dX3_maySecond_29 (by decide) ?_
        refine re_goto (tgt := 34) X dX3_maySecond_30 (by decide) ?_
        exact re_zret X (Or.inr rfl) dX3_maySecond_34
    · refine re_iconst (v := 0) X dX3_maySecond_33 (by decide) ?_
      exact re_zret X (Or.inl rfl) dX3_maySecond_34
theorem ca_X3_maySecond {R : Room} (h1 : rm_X3_maySecond.frames + 1 ≤ R.frames) (h2 : 8 + (3 + 11) + rm_X3_maySecond.locals ≤ R.locals) : zCa yX3_maySecond cX3_maySecond 3 (some .boolean) rm_X3_maySecond R 1 := ⟨cd_X3_maySecond, iz_RX3, ⟨by decide, by decide, by decide⟩, rfl, rfl, h1, h2⟩
/-! DebateHouse$Motions.mayDecide -/
abbrev rm_X3_mayDecide : Room := { frames := 1, cells := 0, slots := 0, locals := 20 }
def f_X3_mayDecide_B65 (o : Nat) (u1 : Int32)  (y0 : Int32) (M : zMem) : zTr := if y0 = u1 then some (1, M) else some (0, M)
def f_X3_mayDecide (o : Nat) (u1 : Int32) (M : zMem) : zTr := zBd (f_X3_top o M) (fun r1 M2 => if r1 = (-1) then some (0, M2) else zCk (zIn r1 8) (zBd (f_X9_isKind (M2 (o + 1) (zIx r1)) M2) (fun r4 M5 => if r4 = 0 then some (0, M5) else zCk (zIn r1 8) (if (M5 (o + 6) (zIx r1)) = 0 then some (0, M5) else zCk (zIn r1 8) (if (M5 (o + 7) (zIx r1)) = 0 then some (0, M5) else zCk (zIn r1 8) (zCk (zIn (M5 (o + 1) (zIx r1)) 8) (if (M5 (3 + 2) (zIx (M5 (o + 1) (zIx r1)))) = 3 then f_X3_mayDecide_B65 o u1 1 M5 else f_X3_mayDecide_B65 o u1 0 M5)))))))
set_option maxRecDepth 100000 in
theorem lb_X3_mayDecide_65 {p : Program} {l : Launch} {e : Env} {s : State} {m : MethodId} {args : Array Value} {below : List Frame} {meth : Method} {c : Code} {w : zWD} {o : Nat} {u1 : Int32} (X : zCx p s m args meth c w (zFree w) RX3 cX3_mayDecide 3 (some .boolean)) (ho : zKd w o = (3, 9)) : ∀ (y0 : Int32) (M : zMem), zRm p l e rm_X3_mayDecide s m args below meth c w 2 65 [none, some (.int u1), none] [.int y0] M (f_X3_mayDecide_B65 o u1 y0 M) := by
  intro y0 M
  unfold f_X3_mayDecide_B65
  refine re_iload_n X dX3_mayDecide_65 rfl rfl ?_
  refine re_icmp_ne (tgt := 73) X dX3_mayDecide_66 (by decide) (fun _ => ?_) (fun _ => ?_)
  · refine re_iconst (v := 1) X dX3_mayDecide_69 (by decide) ?_
    refine re_goto (tgt := 74) X dX3_mayDecide_70 (by decide) ?_
    exact re_zret X (Or.inr rfl) dX3_mayDecide_74
  · refine re_iconst (v := 0) X dX3_mayDecide_73 (by decide) ?_
    exact re_zret X (Or.inl rfl) dX3_mayDecide_74

set_option maxRecDepth 100000 in
theorem lk_X3_mayDecide (l : Launch) (w : zWD) (o : Nat) (u1 : Int32) (ho : zKd w o = (3, 9)) : zMt l w yX3_mayDecide cX3_mayDecide 3 (some .boolean) rm_X3_mayDecide 2 [.ref (zA w o), .int u1] (fun M => f_X3_mayDecide o u1 M) := by
  refine zMt.of (by decide) [some (.ref (zA w o)), some (.int u1), none] rfl (zle rfl) (by intro v hv; simp only [List.mem_cons, List.not_mem_nil, or_false] at hv; rcases hv with rfl | rfl <;> rfl) ?_
  intro p e s m args below meth c X M
  unfold f_X3_mayDecide
  refine re_aload_n X dX3_mayDecide_0 rfl rfl ?_
  refine re_callVi X (lk_X3_top l w o ho) (ca_X3_top (by decide) (by decide)) ml_RX3_42 im_X3_top se_X3_top cl_3 ho rfl rfl rfl (zle rfl) zRo dX3_mayDecide_1 (fun r1 M2 hr1 => ?_)
  refine re_istore_n (lv' := [some (.ref (zA w o)), some (.int u1), some (.int r1)]) X dX3_mayDecide_4 rfl (zlt rfl) rfl ?_
  refine re_iload_n X dX3_mayDecide_5 rfl rfl ?_
  refine re_iconst (v := -1) X dX3_mayDecide_6 (by decide) ?_
  refine re_icmp_eq (tgt := 22) X dX3_mayDecide_7 (by decide) (fun _ => ?_) (fun _ => ?_)
  · refine re_iconst (v := 0) X dX3_mayDecide_22 (by decide) ?_
    exact re_zret X (Or.inl rfl) dX3_mayDecide_23
  · refine re_aload_n X dX3_mayDecide_10 rfl rfl ?_
    refine re_getR X cl_3 (by decide) fl_RX3_9 ho rfl (zR_3_1 ho) dX3_mayDecide_11 ?_
    refine re_iload_n X dX3_mayDecide_14 rfl rfl ?_
    refine re_ck (fun hi3 => ?_)
    refine re_iald X (zQ_3_1 X.clo ho) hi3 (j := zIx r1) rfl dX3_mayDecide_15 ?_
    refine re_callNz X (lk_X9_isKind l w (M2 (o + 1) (zIx r1))) (ca_X9_isKind (by decide) (by decide)) (zN_9) sm_X9_isKind rfl rfl rfl (zle rfl) zRo dX3_mayDecide_16 (fun r4 M5 hr4 => ?_)
    refine re_if_ne (tgt := 24) X dX3_mayDecide_19 (by decide) (fun _ => ?_) (fun _ => ?_)
    · refine re_iconst (v := 0) X dX3_mayDecide_22 (by decide) ?_
      exact re_zret X (Or.inl rfl) dX3_mayDecide_23
    · refine re_aload_n X dX3_mayDecide_24 rfl rfl ?_
      refine re_getR X cl_3 (by decide) fl_RX3_27 ho rfl (zR_3_6 ho) dX3_mayDecide_25 ?_
      refine re_iload_n X dX3_mayDecide_28 rfl rfl ?_
      refine re_ck (fun hi6 => ?_)
      refine re_zald X (zQ_3_6 X.clo ho) hi6 (j := zIx r1) rfl dX3_mayDecide_29 ?_
      refine re_if_eq (tgt := 73) X dX3_mayDecide_30 (by decide) (fun _ => ?_) (fun _ => ?_)
      · refine re_iconst (v := 0) X dX3_mayDecide_73 (by decide) ?_
        exact re_zret X (Or.inl rfl) dX3_mayDecide_74
      · refine re_aload_n X dX3_mayDecide_33 rfl rfl ?_
        refine re_getR X cl_3 (by decide) fl_RX3_31 ho rfl (zR_3_7 ho) dX3_mayDecide_34 ?_
        refine re_iload_n X dX3_mayDecide_37 rfl rfl ?_
        refine re_ck (fun hi7 => ?_)
        refine re_zald X (zQ_3_7 X.clo ho) hi7 (j := zIx r1) rfl dX3_mayDecide_38 ?_
        refine re_if_eq (tgt := 73) X dX3_mayDecide_39 (by decide) (fun _ => ?_) (fun _ => ?_)
        · refine re_iconst (v := 0) X dX3_mayDecide_73 (by decide) ?_
          exact re_zret X (Or.inl rfl) dX3_mayDecide_74
        · refine re_aload_n X dX3_mayDecide_42 rfl rfl ?_
          refine re_getR X cl_3 (by decide) fl_RX3_34 ho rfl (zR_3_0 ho) dX3_mayDecide_43 ?_
          refine re_getR X cl_6 (by decide) fl_RX3_56 (zQ_3_0 X.clo ho) rfl (zR_6_1 (zQ_3_0 X.clo ho)) dX3_mayDecide_46 ?_
          refine re_aload_n X dX3_mayDecide_49 rfl rfl ?_
          refine re_getR X cl_3 (by decide) fl_RX3_9 ho rfl (zR_3_1 ho) dX3_mayDecide_50 ?_
          refine re_iload_n X dX3_mayDecide_53 rfl rfl ?_
          refine re_ck (fun hi8 => ?_)
          refine re_iald X (zQ_3_1 X.clo ho) hi8 (j := zIx r1) rfl dX3_mayDecide_54 ?_
          refine re_ck (fun hi9 => ?_)
          refine re_iald X (zQ_6_1 X.clo (zQ_3_0 X.clo ho)) hi9 (j := zIx (M5 (o + 1) (zIx r1))) rfl dX3_mayDecide_55 ?_
          refine re_iconst (v := 3) X dX3_mayDecide_56 (by decide) ?_
          refine re_icmp_ne (tgt := 64) X dX3_mayDecide_57 (by decide) (fun _ => ?_) (fun _ => ?_)
          · refine re_iconst (v := 1) X dX3_mayDecide_60 (by decide) ?_
            refine re_goto (tgt := 65) X dX3_mayDecide_61 (by decide) ?_
            exact re_sub (lb_X3_mayDecide_65 X ho 1 M5) ⟨rfl, trivial⟩
          · refine re_iconst (v := 0) X dX3_mayDecide_64 (by decide) ?_
            exact re_sub (lb_X3_mayDecide_65 X ho 0 M5) ⟨rfl, trivial⟩
theorem ca_X3_mayDecide {R : Room} (h1 : rm_X3_mayDecide.frames + 1 ≤ R.frames) (h2 : 8 + (3 + 11) + rm_X3_mayDecide.locals ≤ R.locals) : zCa yX3_mayDecide cX3_mayDecide 3 (some .boolean) rm_X3_mayDecide R 1 := ⟨cd_X3_mayDecide, iz_RX3, ⟨by decide, by decide, by decide⟩, rfl, rfl, h1, h2⟩
/-! DebateHouse$Motions.push -/
abbrev rm_X3_push : Room := { frames := 1, cells := 0, slots := 0, locals := 20 }
def f_X3_push_B125 (o : Nat) (u1 : Int32) (u2 : Int32) (u3 : Int32) (u4 : Int32) (u5 : Int32)  (y0 : Int32) (y1 : Int32) (M : zMem) : zTr := zCk (zIn y1 8) (zCk (y0 = 0 ∨ y0 = 1) (zLt (zUp M (o + 7) (zIx y1) y0) (fun M20 => zLt (zUp M20 o 8 ((M20 o 8) + 1)) (fun M23 => some (0, M23)))))
def f_X3_push_B99 (o : Nat) (u1 : Int32) (u2 : Int32) (u3 : Int32) (u4 : Int32) (u5 : Int32)  (y0 : Int32) (y1 : Int32) (M : zMem) : zTr := zCk (zIn y1 8) (zCk (y0 = 0 ∨ y0 = 1) (zLt (zUp M (o + 6) (zIx y1) y0) (fun M16 => zCk (zIn u1 8) (if (M16 (3 + 4) (zIx u1)) = 0 then f_X3_push_B125 o u1 u2 u3 u4 u5 1 (M16 o 8) M16 else f_X3_push_B125 o u1 u2 u3 u4 u5 0 (M16 o 8) M16))))
def f_X3_push (o : Nat) (u1 : Int32) (u2 : Int32) (u3 : Int32) (u4 : Int32) (u5 : Int32) (M : zMem) : zTr := if (M o 8) < 0 then some (0, M) else zBd (f_X3_isFull o M) (fun r1 M2 => if r1 = 0 then zBd (f_X9_isKind u1 M2) (fun r3 M4 => if r3 = 0 then some (0, M4) else zCk (zIn (M4 o 8) 8) (zLt (zUp M4 (o + 1) (zIx (M4 o 8)) u1) (fun M5 => zCk (zIn (M5 o 8) 8) (zLt (zUp M5 (o + 2) (zIx (M5 o 8)) u2) (fun M7 => zCk (zIn (M7 o 8) 8) (zLt (zUp M7 (o + 3) (zIx (M7 o 8)) u3) (fun M9 => zCk (zIn (M9 o 8) 8) (zLt (zUp M9 (o + 4) (zIx (M9 o 8)) u4) (fun M11 => zCk (zIn (M11 o 8) 8) (zLt (zUp M11 (o + 5) (zIx (M11 o 8)) u5) (fun M13 => zCk (zIn u1 8) (if (M13 (3 + 3) (zIx u1)) = 0 then f_X3_push_B99 o u1 u2 u3 u4 u5 1 (M13 o 8) M13 else f_X3_push_B99 o u1 u2 u3 u4 u5 0 (M13 o 8) M13)))))))))))) else some (0, M2))
set_option maxRecDepth 100000 in
theorem lb_X3_push_125 {p : Program} {l : Launch} {e : Env} {s : State} {m : MethodId} {args : Array Value} {below : List Frame} {meth : Method} {c : Code} {w : zWD} {o : Nat} {u1 : Int32} {u2 : Int32} {u3 : Int32} {u4 : Int32} {u5 : Int32} (X : zCx p s m args meth c w (zFree w) RX3 cX3_push 6 none) (ho : zKd w o = (3, 9)) : ∀ (y0 : Int32) (y1 : Int32) (M : zMem), zRm p l e rm_X3_push s m args below meth c w 0 125 [some (.ref (zA w o)), none, none, none, none, none] [.int y0, .int y1, .ref (zA w (o + 7))] M (f_X3_push_B125 o u1 u2 u3 u4 u5 y0 y1 M) := by
  intro y0 y1 M
  unfold f_X3_push_B125
  refine re_ck (fun hi21 => ?_)
  refine re_ck (fun hz22 => ?_)
  refine re_zast X (zQ_3_7 X.clo ho) hi21 (j := zIx y1) rfl (zNar_b hz22) dX3_push_125 (fun M20 => ?_)
  refine re_aload_n X dX3_push_126 rfl rfl ?_
  refine re_dup X dX3_push_127 rfl ?_
  refine re_getI X cl_3 (by decide) fl_RX3_38 ho rfl dX3_push_128 ?_
  refine re_iconst (v := 1) X dX3_push_131 (by decide) ?_
  refine re_iadd X dX3_push_132 ?_
  refine re_putI X cl_3 (by decide) fl_RX3_38 ho rfl rfl rfl dX3_push_133 (fun M23 => ?_)
  exact re_vret X dX3_push_136

set_option maxRecDepth 100000 in
theorem lb_X3_push_99 {p : Program} {l : Launch} {e : Env} {s : State} {m : MethodId} {args : Array Value} {below : List Frame} {meth : Method} {c : Code} {w : zWD} {o : Nat} {u1 : Int32} {u2 : Int32} {u3 : Int32} {u4 : Int32} {u5 : Int32} (X : zCx p s m args meth c w (zFree w) RX3 cX3_push 6 none) (ho : zKd w o = (3, 9)) : ∀ (y0 : Int32) (y1 : Int32) (M : zMem), zRm p l e rm_X3_push s m args below meth c w 0 99 [some (.ref (zA w o)), some (.int u1), none, none, none, none] [.int y0, .int y1, .ref (zA w (o + 6))] M (f_X3_push_B99 o u1 u2 u3 u4 u5 y0 y1 M) := by
  intro y0 y1 M
  unfold f_X3_push_B99
  refine re_ck (fun hi17 => ?_)
  refine re_ck (fun hz18 => ?_)
  refine re_zast X (zQ_3_6 X.clo ho) hi17 (j := zIx y1) rfl (zNar_b hz18) dX3_push_99 (fun M16 => ?_)
  refine re_aload_n X dX3_push_100 rfl rfl ?_
  refine re_getR X cl_3 (by decide) fl_RX3_31 ho rfl (zR_3_7 ho) dX3_push_101 ?_
  refine re_aload_n X dX3_push_104 rfl rfl ?_
  refine re_getI X cl_3 (by decide) fl_RX3_38 ho rfl dX3_push_105 ?_
  refine re_aload_n X dX3_push_108 rfl rfl ?_
  refine re_getR X cl_3 (by decide) fl_RX3_34 ho rfl (zR_3_0 ho) dX3_push_109 ?_
  refine re_getR X cl_6 (by decide) fl_RX3_66 (zQ_3_0 X.clo ho) rfl (zR_6_3 (zQ_3_0 X.clo ho)) dX3_push_112 ?_
  refine re_iload_n X dX3_push_115 rfl rfl ?_
  refine re_ck (fun hi19 => ?_)
  refine re_zald X (zQ_6_3 X.clo (zQ_3_0 X.clo ho)) hi19 (j := zIx u1) rfl dX3_push_116 ?_
  refine re_if_ne (tgt := 124) X dX3_push_117 (by decide) (fun _ => ?_) (fun _ => ?_)
  · refine re_iconst (v := 1) X dX3_push_120 (by decide) ?_
    refine re_goto (tgt := 125) X dX3_push_121 (by decide) ?_
    exact re_sub (lb_X3_push_125 X ho 1 (M16 o 8) M16) ⟨rfl, trivial⟩
  · refine re_iconst (v := 0) X dX3_push_124 (by decide) ?_
    exact re_sub (lb_X3_push_125 X ho 0 (M16 o 8) M16) ⟨rfl, trivial⟩

set_option maxRecDepth 100000 in
theorem lk_X3_push (l : Launch) (w : zWD) (o : Nat) (u1 : Int32) (u2 : Int32) (u3 : Int32) (u4 : Int32) (u5 : Int32) (ho : zKd w o = (3, 9)) : zMt l w yX3_push cX3_push 6 none rm_X3_push 0 [.ref (zA w o), .int u1, .int u2, .int u3, .int u4, .int u5] (fun M => f_X3_push o u1 u2 u3 u4 u5 M) := by
  refine zMt.of (by decide) [some (.ref (zA w o)), some (.int u1), some (.int u2), some (.int u3), some (.int u4), some (.int u5)] rfl (zle rfl) (by intro v hv; simp only [List.mem_cons, List.not_mem_nil, or_false] at hv; rcases hv with rfl | rfl | rfl | rfl | rfl | rfl <;> rfl) ?_
  intro p e s m args below meth c X M
  unfold f_X3_push
  refine re_aload_n X dX3_push_0 rfl rfl ?_
  refine re_getI X cl_3 (by decide) fl_RX3_38 ho rfl dX3_push_1 ?_
  refine re_if_lt (tgt := 21) X dX3_push_4 (by decide) (fun _ => ?_) (fun _ => ?_)
  · exact re_vret X dX3_push_21
  · refine re_aload_n X dX3_push_7 rfl rfl ?_
    refine re_callVz X (lk_X3_isFull l w o ho) (ca_X3_isFull (by decide) (by decide)) ml_RX3_59 im_X3_isFull se_X3_isFull cl_3 ho rfl rfl rfl (zle rfl) zRo dX3_push_8 (fun r1 M2 hr1 => ?_)
    refine re_if_ne (tgt := 21) X dX3_push_11 (by decide) (fun _ => ?_) (fun _ => ?_)
    · refine re_iload_n X dX3_push_14 rfl rfl ?_
      refine re_callNz X (lk_X9_isKind l w u1) (ca_X9_isKind (by decide) (by decide)) (zN_9) sm_X9_isKind rfl rfl rfl (zle rfl) zRo dX3_push_15 (fun r3 M4 hr3 => ?_)
      refine re_if_ne (tgt := 22) X dX3_push_18 (by decide) (fun _ => ?_) (fun _ => ?_)
      · exact re_vret X dX3_push_21
      · refine re_aload_n X dX3_push_22 rfl rfl ?_
        refine re_getR X cl_3 (by decide) fl_RX3_9 ho rfl (zR_3_1 ho) dX3_push_23 ?_
        refine re_aload_n X dX3_push_26 rfl rfl ?_
        refine re_getI X cl_3 (by decide) fl_RX3_38 ho rfl dX3_push_27 ?_
        refine re_iload_n X dX3_push_30 rfl rfl ?_
        refine re_ck (fun hi6 => ?_)
        refine re_iast X (zQ_3_1 X.clo ho) hi6 (j := zIx (M4 o 8)) rfl dX3_push_31 (fun M5 => ?_)
        refine re_aload_n X dX3_push_32 rfl rfl ?_
        refine re_getR X cl_3 (by decide) fl_RX3_15 ho rfl (zR_3_2 ho) dX3_push_33 ?_
        refine re_aload_n X dX3_push_36 rfl rfl ?_
        refine re_getI X cl_3 (by decide) fl_RX3_38 ho rfl dX3_push_37 ?_
        refine re_iload_n X dX3_push_40 rfl rfl ?_
        refine re_ck (fun hi8 => ?_)
        refine re_iast X (zQ_3_2 X.clo ho) hi8 (j := zIx (M5 o 8)) rfl dX3_push_41 (fun M7 => ?_)
        refine re_aload_n X dX3_push_42 rfl rfl ?_
        refine re_getR X cl_3 (by decide) fl_RX3_18 ho rfl (zR_3_3 ho) dX3_push_43 ?_
        refine re_aload_n X dX3_push_46 rfl rfl ?_
        refine re_getI X cl_3 (by decide) fl_RX3_38 ho rfl dX3_push_47 ?_
        refine re_iload_n X dX3_push_50 rfl rfl ?_
        refine re_ck (fun hi10 => ?_)
        refine re_iast X (zQ_3_3 X.clo ho) hi10 (j := zIx (M7 o 8)) rfl dX3_push_51 (fun M9 => ?_)
        refine re_aload_n X dX3_push_52 rfl rfl ?_
        refine re_getR X cl_3 (by decide) fl_RX3_21 ho rfl (zR_3_4 ho) dX3_push_53 ?_
        refine re_aload_n X dX3_push_56 rfl rfl ?_
        refine re_getI X cl_3 (by decide) fl_RX3_38 ho rfl dX3_push_57 ?_
        refine re_iload X dX3_push_60 rfl ?_
        refine re_ck (fun hi12 => ?_)
        refine re_iast X (zQ_3_4 X.clo ho) hi12 (j := zIx (M9 o 8)) rfl dX3_push_62 (fun M11 => ?_)
        refine re_aload_n X dX3_push_63 rfl rfl ?_
        refine re_getR X cl_3 (by decide) fl_RX3_24 ho rfl (zR_3_5 ho) dX3_push_64 ?_
        refine re_aload_n X dX3_push_67 rfl rfl ?_
        refine re_getI X cl_3 (by decide) fl_RX3_38 ho rfl dX3_push_68 ?_
        refine re_iload X dX3_push_71 rfl ?_
        refine re_ck (fun hi14 => ?_)
        refine re_iast X (zQ_3_5 X.clo ho) hi14 (j := zIx (M11 o 8)) rfl dX3_push_73 (fun M13 => ?_)
        refine re_aload_n X dX3_push_74 rfl rfl ?_
        refine re_getR X cl_3 (by decide) fl_RX3_27 ho rfl (zR_3_6 ho) dX3_push_75 ?_
        refine re_aload_n X dX3_push_78 rfl rfl ?_
        refine re_getI X cl_3 (by decide) fl_RX3_38 ho rfl dX3_push_79 ?_
        refine re_aload_n X dX3_push_82 rfl rfl ?_
        refine re_getR X cl_3 (by decide) fl_RX3_34 ho rfl (zR_3_0 ho) dX3_push_83 ?_
        refine re_getR X cl_6 (by decide) fl_RX3_63 (zQ_3_0 X.clo ho) rfl (zR_6_2 (zQ_3_0 X.clo ho)) dX3_push_86 ?_
        refine re_iload_n X dX3_push_89 rfl rfl ?_
        refine re_ck (fun hi15 => ?_)
        refine re_zald X (zQ_6_2 X.clo (zQ_3_0 X.clo ho)) hi15 (j := zIx u1) rfl dX3_push_90 ?_
        refine re_if_ne (tgt := 98) X dX3_push_91 (by decide) (fun _ => ?_) (fun _ => ?_)
        · refine re_iconst (v := 1) X dX3_push_94 (by decide) ?_
          refine re_goto (tgt := 99) X dX3_push_95 (by decide) ?_
          exact re_sub (lb_X3_push_99 X ho 1 (M13 o 8) M13) ⟨rfl, ⟨rfl, trivial⟩⟩
        · refine re_iconst (v := 0) X dX3_push_98 (by decide) ?_
          exact re_sub (lb_X3_push_99 X ho 0 (M13 o 8) M13) ⟨rfl, ⟨rfl, trivial⟩⟩
    · exact re_vret X dX3_push_21
theorem ca_X3_push {R : Room} (h1 : rm_X3_push.frames + 1 ≤ R.frames) (h2 : 8 + (6 + 11) + rm_X3_push.locals ≤ R.locals) : zCa yX3_push cX3_push 6 none rm_X3_push R 5 := ⟨cd_X3_push, iz_RX3, ⟨by decide, by decide, by decide⟩, rfl, rfl, h1, h2⟩
/-! DebateHouse$Motions.secondTop -/
abbrev rm_X3_secondTop : Room := { frames := 1, cells := 0, slots := 0, locals := 20 }
def f_X3_secondTop (o : Nat) (M : zMem) : zTr := zBd (f_X3_top o M) (fun r1 M2 => if r1 = (-1) then some (0, M2) else zCk (zIn r1 8) (zLt (zUp M2 (o + 6) (zIx r1) 1) (fun M3 => some (0, M3))))
set_option maxRecDepth 100000 in
theorem lk_X3_secondTop (l : Launch) (w : zWD) (o : Nat) (ho : zKd w o = (3, 9)) : zMt l w yX3_secondTop cX3_secondTop 2 none rm_X3_secondTop 0 [.ref (zA w o)] (fun M => f_X3_secondTop o M) := by
  refine zMt.of (by decide) [some (.ref (zA w o)), none] rfl (zle rfl) (by intro v hv; simp only [List.mem_cons, List.not_mem_nil, or_false] at hv; rcases hv with rfl <;> rfl) ?_
  intro p e s m args below meth c X M
  unfold f_X3_secondTop
  refine re_aload_n X dX3_secondTop_0 rfl rfl ?_
  refine re_callVi X (lk_X3_top l w o ho) (ca_X3_top (by decide) (by decide)) ml_RX3_42 im_X3_top se_X3_top cl_3 ho rfl rfl rfl (zle rfl) zRo dX3_secondTop_1 (fun r1 M2 hr1 => ?_)
  refine re_istore_n (lv' := [some (.ref (zA w o)), some (.int r1)]) X dX3_secondTop_4 rfl (zlt rfl) rfl ?_
  refine re_iload_n X dX3_secondTop_5 rfl rfl ?_
  refine re_iconst (v := -1) X dX3_secondTop_6 (by decide) ?_
  refine re_icmp_eq (tgt := 17) X dX3_secondTop_7 (by decide) (fun _ => ?_) (fun _ => ?_)
  · exact re_vret X dX3_secondTop_17
  · refine re_aload_n X dX3_secondTop_10 rfl rfl ?_
    refine re_getR X cl_3 (by decide) fl_RX3_27 ho rfl (zR_3_6 ho) dX3_secondTop_11 ?_
    refine re_iload_n X dX3_secondTop_14 rfl rfl ?_
    refine re_iconst (v := 1) X dX3_secondTop_15 (by decide) ?_
    refine re_ck (fun hi4 => ?_)
    refine re_zast X (zQ_3_6 X.clo ho) hi4 (j := zIx r1) rfl (zNar_b (Or.inr rfl)) dX3_secondTop_16 (fun M3 => ?_)
    exact re_vret X dX3_secondTop_17
theorem ca_X3_secondTop {R : Room} (h1 : rm_X3_secondTop.frames + 1 ≤ R.frames) (h2 : 8 + (2 + 11) + rm_X3_secondTop.locals ≤ R.locals) : zCa yX3_secondTop cX3_secondTop 2 none rm_X3_secondTop R 0 := ⟨cd_X3_secondTop, iz_RX3, ⟨by decide, by decide, by decide⟩, rfl, rfl, h1, h2⟩
/-! DebateHouse$Motions.debateTop -/
abbrev rm_X3_debateTop : Room := { frames := 1, cells := 0, slots := 0, locals := 20 }
def f_X3_debateTop (o : Nat) (M : zMem) : zTr := zBd (f_X3_top o M) (fun r1 M2 => if r1 = (-1) then some (0, M2) else zCk (zIn r1 8) (zLt (zUp M2 (o + 7) (zIx r1) 1) (fun M3 => some (0, M3))))
set_option maxRecDepth 100000 in
theorem lk_X3_debateTop (l : Launch) (w : zWD) (o : Nat) (ho : zKd w o = (3, 9)) : zMt l w yX3_debateTop cX3_debateTop 2 none rm_X3_debateTop 0 [.ref (zA w o)] (fun M => f_X3_debateTop o M) := by
  refine zMt.of (by decide) [some (.ref (zA w o)), none] rfl (zle rfl) (by intro v hv; simp only [List.mem_cons, List.not_mem_nil, or_false] at hv; rcases hv with rfl <;> rfl) ?_
  intro p e s m args below meth c X M
  unfold f_X3_debateTop
  refine re_aload_n X dX3_debateTop_0 rfl rfl ?_
  refine re_callVi X (lk_X3_top l w o ho) (ca_X3_top (by decide) (by decide)) ml_RX3_42 im_X3_top se_X3_top cl_3 ho rfl rfl rfl (zle rfl) zRo dX3_debateTop_1 (fun r1 M2 hr1 => ?_)
  refine re_istore_n (lv' := [some (.ref (zA w o)), some (.int r1)]) X dX3_debateTop_4 rfl (zlt rfl) rfl ?_
  refine re_iload_n X dX3_debateTop_5 rfl rfl ?_
  refine re_iconst (v := -1) X dX3_debateTop_6 (by decide) ?_
  refine re_icmp_eq (tgt := 17) X dX3_debateTop_7 (by decide) (fun _ => ?_) (fun _ => ?_)
  · exact re_vret X dX3_debateTop_17
  · refine re_aload_n X dX3_debateTop_10 rfl rfl ?_
    refine re_getR X cl_3 (by decide) fl_RX3_31 ho rfl (zR_3_7 ho) dX3_debateTop_11 ?_
    refine re_iload_n X dX3_debateTop_14 rfl rfl ?_
    refine re_iconst (v := 1) X dX3_debateTop_15 (by decide) ?_
    refine re_ck (fun hi4 => ?_)
    refine re_zast X (zQ_3_7 X.clo ho) hi4 (j := zIx r1) rfl (zNar_b (Or.inr rfl)) dX3_debateTop_16 (fun M3 => ?_)
    exact re_vret X dX3_debateTop_17
theorem ca_X3_debateTop {R : Room} (h1 : rm_X3_debateTop.frames + 1 ≤ R.frames) (h2 : 8 + (2 + 11) + rm_X3_debateTop.locals ≤ R.locals) : zCa yX3_debateTop cX3_debateTop 2 none rm_X3_debateTop R 0 := ⟨cd_X3_debateTop, iz_RX3, ⟨by decide, by decide, by decide⟩, rfl, rfl, h1, h2⟩
/-! DebateHouse$Motions.endDebate -/
abbrev rm_X3_endDebate : Room := { frames := 0, cells := 0, slots := 0, locals := 0 }
def f_X3_endDebate_L2 (o : Nat)  : Nat → Int32 → zMem → zTr
  | 0, _, _ => none
  | n + 1, x1, M => if (M o 8) ≤ x1 then some (0, M) else if 8 ≤ x1 then some (0, M) else zCk (zIn x1 8) (zLt (zUp M (o + 7) (zIx x1) 1) (fun M1 => f_X3_endDebate_L2 o n (x1 + 1) M1))
def f_X3_endDebate (o : Nat) (M : zMem) : zTr := f_X3_endDebate_L2 o zFu 0 M
set_option maxRecDepth 100000 in
theorem lb_X3_endDebate_2 {p : Program} {l : Launch} {e : Env} {s : State} {m : MethodId} {args : Array Value} {below : List Frame} {meth : Method} {c : Code} {w : zWD} {o : Nat} (X : zCx p s m args meth c w (zFree w) RX3 cX3_endDebate 2 none) (ho : zKd w o = (3, 9)) : ∀ (n : Nat) (x1 : Int32) (M : zMem), zRm p l e rm_X3_endDebate s m args below meth c w 0 2 [some (.ref (zA w o)), some (.int x1)] [] M (f_X3_endDebate_L2 o n x1 M) := by
  intro n
  induction n with
  | zero => intro x1 M; exact re_none
  | succ n ih =>
    intro x1 M
    rw [f_X3_endDebate_L2]
    refine re_iload_n X dX3_endDebate_2 rfl rfl ?_
    refine re_aload_n X dX3_endDebate_3 rfl rfl ?_
    refine re_getI X cl_3 (by decide) fl_RX3_38 ho rfl dX3_endDebate_4 ?_
    refine re_icmp_ge (tgt := 29) X dX3_endDebate_7 (by decide) (fun _ => ?_) (fun _ => ?_)
    · exact re_vret X dX3_endDebate_29
    · refine re_iload_n X dX3_endDebate_10 rfl rfl ?_
      refine re_bipush (v := 8) X dX3_endDebate_11 (by decide) ?_
      refine re_icmp_ge (tgt := 29) X dX3_endDebate_13 (by decide) (fun _ => ?_) (fun _ => ?_)
      · exact re_vret X dX3_endDebate_29
      · refine re_aload_n X dX3_endDebate_16 rfl rfl ?_
        refine re_getR X cl_3 (by decide) fl_RX3_31 ho rfl (zR_3_7 ho) dX3_endDebate_17 ?_
        refine re_iload_n X dX3_endDebate_20 rfl rfl ?_
        refine re_iconst (v := 1) X dX3_endDebate_21 (by decide) ?_
        refine re_ck (fun hi2 => ?_)
        refine re_zast X (zQ_3_7 X.clo ho) hi2 (j := zIx x1) rfl (zNar_b (Or.inr rfl)) dX3_endDebate_22 (fun M1 => ?_)
        refine re_iinc (v := 1) (lv' := [some (.ref (zA w o)), some (.int (x1 + 1))]) X dX3_endDebate_23 rfl (by decide) rfl ?_
        refine re_goto (tgt := 2) X dX3_endDebate_26 (by decide) ?_
        exact ih (x1 + 1) M1

set_option maxRecDepth 100000 in
theorem lk_X3_endDebate (l : Launch) (w : zWD) (o : Nat) (ho : zKd w o = (3, 9)) : zMt l w yX3_endDebate cX3_endDebate 2 none rm_X3_endDebate 0 [.ref (zA w o)] (fun M => f_X3_endDebate o M) := by
  refine zMt.of (by decide) [some (.ref (zA w o)), none] rfl (zle rfl) (by intro v hv; simp only [List.mem_cons, List.not_mem_nil, or_false] at hv; rcases hv with rfl <;> rfl) ?_
  intro p e s m args below meth c X M
  unfold f_X3_endDebate
  refine re_iconst (v := 0) X dX3_endDebate_0 (by decide) ?_
  refine re_istore_n (lv' := [some (.ref (zA w o)), some (.int 0)]) X dX3_endDebate_1 rfl (zlt rfl) rfl ?_
  exact lb_X3_endDebate_2 X ho zFu 0 M
theorem ca_X3_endDebate {R : Room} (h1 : rm_X3_endDebate.frames + 1 ≤ R.frames) (h2 : 8 + (2 + 11) + rm_X3_endDebate.locals ≤ R.locals) : zCa yX3_endDebate cX3_endDebate 2 none rm_X3_endDebate R 0 := ⟨cd_X3_endDebate, iz_RX3, ⟨by decide, by decide, by decide⟩, rfl, rfl, h1, h2⟩
/-! DebateHouse$Motions.tell -/
abbrev rm_X3_tell : Room := { frames := 0, cells := 0, slots := 0, locals := 0 }
def f_X3_tell (o : Nat) (u1 : Int32) (u2 : Int32) (M : zMem) : zTr := if u1 < 0 then some (-1, M) else if (M o 8) ≤ u1 then some (-1, M) else if u1 < 8 then (if u2 = 0 then zCk (zIn u1 8) (some (M (o + 1) (zIx u1), M)) else if u2 = 1 then zCk (zIn u1 8) (some (M (o + 2) (zIx u1), M)) else if u2 = 2 then zCk (zIn u1 8) (some (M (o + 3) (zIx u1), M)) else if u2 = 3 then zCk (zIn u1 8) (some (M (o + 4) (zIx u1), M)) else if u2 = 4 then zCk (zIn u1 8) (if (M (o + 6) (zIx u1)) = 0 then some (0, M) else some (1, M)) else if u2 = 5 then zCk (zIn u1 8) (if (M (o + 7) (zIx u1)) = 0 then some (0, M) else some (1, M)) else some (-1, M)) else some (-1, M)
set_option maxRecDepth 100000 in
theorem lk_X3_tell (l : Launch) (w : zWD) (o : Nat) (u1 : Int32) (u2 : Int32) (ho : zKd w o = (3, 9)) : zMt l w yX3_tell cX3_tell 3 (some .int) rm_X3_tell 1 [.ref (zA w o), .int u1, .int u2] (fun M => f_X3_tell o u1 u2 M) := by
  refine zMt.of (by decide) [some (.ref (zA w o)), some (.int u1), some (.int u2)] rfl (zle rfl) (by intro v hv; simp only [List.mem_cons, List.not_mem_nil, or_false] at hv; rcases hv with rfl | rfl | rfl <;> rfl) ?_
  intro p e s m args below meth c X M
  unfold f_X3_tell
  refine re_iload_n X dX3_tell_0 rfl rfl ?_
  refine re_if_lt (tgt := 18) X dX3_tell_1 (by decide) (fun _ => ?_) (fun _ => ?_)
  · refine re_iconst (v := -1) X dX3_tell_18 (by decide) ?_
    exact re_iret X dX3_tell_19
  · refine re_iload_n X dX3_tell_4 rfl rfl ?_
    refine re_aload_n X dX3_tell_5 rfl rfl ?_
    refine re_getI X cl_3 (by decide) fl_RX3_38 ho rfl dX3_tell_6 ?_
    refine re_icmp_ge (tgt := 18) X dX3_tell_9 (by decide) (fun _ => ?_) (fun _ => ?_)
    · refine re_iconst (v := -1) X dX3_tell_18 (by decide) ?_
      exact re_iret X dX3_tell_19
    · refine re_iload_n X dX3_tell_12 rfl rfl ?_
      refine re_bipush (v := 8) X dX3_tell_13 (by decide) ?_
      refine re_icmp_lt (tgt := 20) X dX3_tell_15 (by decide) (fun _ => ?_) (fun _ => ?_)
      · refine re_iload_n X dX3_tell_20 rfl rfl ?_
        refine re_if (fun e1 => ?_) (fun e1 => ?_)
        · refine re_sw_in (v := 0) (off := 39) (tgt := 60) X dX3_tell_21 e1 (by decide) (by decide) (by decide +kernel) (by decide) ?_
          refine re_aload_n X dX3_tell_60 rfl rfl ?_
          refine re_getR X cl_3 (by decide) fl_RX3_9 ho rfl (zR_3_1 ho) dX3_tell_61 ?_
          refine re_iload_n X dX3_tell_64 rfl rfl ?_
          refine re_ck (fun hi2 => ?_)
          refine re_iald X (zQ_3_1 X.clo ho) hi2 (j := zIx u1) rfl dX3_tell_65 ?_
          exact re_iret X dX3_tell_66
        refine re_if (fun e3 => ?_) (fun e3 => ?_)
        · refine re_sw_in (v := 1) (off := 46) (tgt := 67) X dX3_tell_21 e3 (by decide) (by decide) (by decide +kernel) (by decide) ?_
          refine re_aload_n X dX3_tell_67 rfl rfl ?_
          refine re_getR X cl_3 (by decide) fl_RX3_15 ho rfl (zR_3_2 ho) dX3_tell_68 ?_
          refine re_iload_n X dX3_tell_71 rfl rfl ?_
          refine re_ck (fun hi4 => ?_)
          refine re_iald X (zQ_3_2 X.clo ho) hi4 (j := zIx u1) rfl dX3_tell_72 ?_
          exact re_iret X dX3_tell_73
        refine re_if (fun e5 => ?_) (fun e5 => ?_)
        · refine re_sw_in (v := 2) (off := 53) (tgt := 74) X dX3_tell_21 e5 (by decide) (by decide) (by decide +kernel) (by decide) ?_
          refine re_aload_n X dX3_tell_74 rfl rfl ?_
          refine re_getR X cl_3 (by decide) fl_RX3_18 ho rfl (zR_3_3 ho) dX3_tell_75 ?_
          refine re_iload_n X dX3_tell_78 rfl rfl ?_
          refine re_ck (fun hi6 => ?_)
          refine re_iald X (zQ_3_3 X.clo ho) hi6 (j := zIx u1) rfl dX3_tell_79 ?_
          exact re_iret X dX3_tell_80
        refine re_if (fun e7 => ?_) (fun e7 => ?_)
        · refine re_sw_in (v := 3) (off := 60) (tgt := 81) X dX3_tell_21 e7 (by decide) (by decide) (by decide +kernel) (by decide) ?_
          refine re_aload_n X dX3_tell_81 rfl rfl ?_
          refine re_getR X cl_3 (by decide) fl_RX3_21 ho rfl (zR_3_4 ho) dX3_tell_82 ?_
          refine re_iload_n X dX3_tell_85 rfl rfl ?_
          refine re_ck (fun hi8 => ?_)
          refine re_iald X (zQ_3_4 X.clo ho) hi8 (j := zIx u1) rfl dX3_tell_86 ?_
          exact re_iret X dX3_tell_87
        refine re_if (fun e9 => ?_) (fun e9 => ?_)
        · refine re_sw_in (v := 4) (off := 67) (tgt := 88) X dX3_tell_21 e9 (by decide) (by decide) (by decide +kernel) (by decide) ?_
          refine re_aload_n X dX3_tell_88 rfl rfl ?_
          refine re_getR X cl_3 (by decide) fl_RX3_27 ho rfl (zR_3_6 ho) dX3_tell_89 ?_
          refine re_iload_n X dX3_tell_92 rfl rfl ?_
          refine re_ck (fun hi10 => ?_)
          refine re_zald X (zQ_3_6 X.clo ho) hi10 (j := zIx u1) rfl dX3_tell_93 ?_
          refine re_if_eq (tgt := 101) X dX3_tell_94 (by decide) (fun _ => ?_) (fun _ => ?_)
          · refine re_iconst (v := 0) X dX3_tell_101 (by decide) ?_
            exact re_iret X dX3_tell_102
          · refine re_iconst (v := 1) X dX3_tell_97 (by decide) ?_
            refine re_goto (tgt := 102) X dX3_tell_98 (by decide) ?_
            exact re_iret X dX3_tell_102
        refine re_if (fun e11 => ?_) (fun e11 => ?_)
        · refine re_sw_in (v := 5) (off := 82) (tgt := 103) X dX3_tell_21 e11 (by decide) (by decide) (by decide +kernel) (by decide) ?_
          refine re_aload_n X dX3_tell_103 rfl rfl ?_
          refine re_getR X cl_3 (by decide) fl_RX3_31 ho rfl (zR_3_7 ho) dX3_tell_104 ?_
          refine re_iload_n X dX3_tell_107 rfl rfl ?_
          refine re_ck (fun hi12 => ?_)
          refine re_zald X (zQ_3_7 X.clo ho) hi12 (j := zIx u1) rfl dX3_tell_108 ?_
          refine re_if_eq (tgt := 116) X dX3_tell_109 (by decide) (fun _ => ?_) (fun _ => ?_)
          · refine re_iconst (v := 0) X dX3_tell_116 (by decide) ?_
            exact re_iret X dX3_tell_117
          · refine re_iconst (v := 1) X dX3_tell_112 (by decide) ?_
            refine re_goto (tgt := 117) X dX3_tell_113 (by decide) ?_
            exact re_iret X dX3_tell_117
        refine re_sw_out (tgt := 118) X dX3_tell_21 (by
            have e1 := lv_neT (a := 0) e1 (by decide)
            have e3 := lv_neT (a := 1) e3 (by decide)
            have e5 := lv_neT (a := 2) e5 (by decide)
            have e7 := lv_neT (a := 3) e7 (by decide)
            have e9 := lv_neT (a := 4) e9 (by decide)
            have e11 := lv_neT (a := 5) e11 (by decide)
            omega) (by decide) ?_
        refine re_iconst (v := -1) X dX3_tell_118 (by decide) ?_
        exact re_iret X dX3_tell_119
      · refine re_iconst (v := -1) X dX3_tell_18 (by decide) ?_
        exact re_iret X dX3_tell_19
theorem ca_X3_tell {R : Room} (h1 : rm_X3_tell.frames + 1 ≤ R.frames) (h2 : 8 + (3 + 11) + rm_X3_tell.locals ≤ R.locals) : zCa yX3_tell cX3_tell 3 (some .int) rm_X3_tell R 2 := ⟨cd_X3_tell, iz_RX3, ⟨by decide, by decide, by decide⟩, rfl, rfl, h1, h2⟩
