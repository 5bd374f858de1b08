/-! DebateHouse.isMember -/
abbrev rm_X9_isMember : Room := { frames := 0, cells := 0, slots := 0, locals := 0 }
def f_X9_isMember (u1 : Int32) (M : zMem) : zTr := if u1 < 0 then some (0, M) else if 24 ≤ u1 then some (0, M) else some (1, M)
set_option maxRecDepth 100000 in
theorem lk_X9_isMember (l : Launch) (w : zWD) (u1 : Int32)  : zMt l w yX9_isMember cX9_isMember 1 (some .boolean) rm_X9_isMember 2 [.int u1] (fun M => f_X9_isMember u1 M) := by
  refine zMt.of (by decide) [some (.int u1)] rfl (zle rfl) (by intro v hv; simp only [List.mem_cons, List.not_mem_nil, or_false] at hv; rcases hv with rfl <;> rfl) ?_
  intro p e s m args below meth c X M
  unfold f_X9_isMember
  refine re_iload_n X dX9_isMember_0 rfl rfl ?_
  refine re_if_lt (tgt := 14) X dX9_isMember_1 (by decide) (fun _ => ?_) (fun _ => ?_)
  · refine re_iconst (v := 0) X dX9_isMember_14 (by decide) ?_
    exact re_zret X (Or.inl rfl) dX9_isMember_15
  · refine re_iload_n X dX9_isMember_4 rfl rfl ?_
    refine re_bipush (v := 24) X dX9_isMember_5 (by decide) ?_
    refine re_icmp_ge (tgt := 14) X dX9_isMember_7 (by decide) (fun _ => ?_) (fun _ => ?_)
    · refine re_iconst (v := 0) X dX9_isMember_14 (by decide) ?_
      exact re_zret X (Or.inl rfl) dX9_isMember_15
    · refine re_iconst (v := 1) X dX9_isMember_10 (by decide) ?_
      refine re_goto (tgt := 15) X dX9_isMember_11 (by decide) ?_
      exact re_zret X (Or.inr rfl) dX9_isMember_15
theorem ca_X9_isMember {R : Room} (h1 : rm_X9_isMember.frames + 1 ≤ R.frames) (h2 : 8 + (1 + 11) + rm_X9_isMember.locals ≤ R.locals) : zCa yX9_isMember cX9_isMember 1 (some .boolean) rm_X9_isMember R 1 := ⟨cd_X9_isMember, iz_RX9, ⟨by decide, by decide, by decide⟩, rfl, rfl, h1, h2⟩
/-! DebateHouse.isSchool -/
abbrev rm_X9_isSchool : Room := { frames := 0, cells := 0, slots := 0, locals := 0 }
def f_X9_isSchool (u1 : Int32) (M : zMem) : zTr := if u1 < 0 then some (0, M) else if 8 ≤ u1 then some (0, M) else some (1, M)
set_option maxRecDepth 100000 in
theorem lk_X9_isSchool (l : Launch) (w : zWD) (u1 : Int32)  : zMt l w yX9_isSchool cX9_isSchool 1 (some .boolean) rm_X9_isSchool 2 [.int u1] (fun M => f_X9_isSchool u1 M) := by
  refine zMt.of (by decide) [some (.int u1)] rfl (zle rfl) (by intro v hv; simp only [List.mem_cons, List.not_mem_nil, or_false] at hv; rcases hv with rfl <;> rfl) ?_
  intro p e s m args below meth c X M
  unfold f_X9_isSchool
  refine re_iload_n X dX9_isSchool_0 rfl rfl ?_
  refine re_if_lt (tgt := 14) X dX9_isSchool_1 (by decide) (fun _ => ?_) (fun _ => ?_)
  · refine re_iconst (v := 0) X dX9_isSchool_14 (by decide) ?_
    exact re_zret X (Or.inl rfl) dX9_isSchool_15
  · refine re_iload_n X dX9_isSchool_4 rfl rfl ?_
    refine re_bipush (v := 8) X dX9_isSchool_5 (by decide) ?_
    refine re_icmp_ge (tgt := 14) X dX9_isSchool_7 (by decide) (fun _ => ?_) (fun _ => ?_)
    · refine re_iconst (v := 0) X dX9_isSchool_14 (by decide) ?_
      exact re_zret X (Or.inl rfl) dX9_isSchool_15
    · refine re_iconst (v := 1) X dX9_isSchool_10 (by decide) ?_
      refine re_goto (tgt := 15) X dX9_isSchool_11 (by decide) ?_
      exact re_zret X (Or.inr rfl) dX9_isSchool_15
theorem ca_X9_isSchool {R : Room} (h1 : rm_X9_isSchool.frames + 1 ≤ R.frames) (h2 : 8 + (1 + 11) + rm_X9_isSchool.locals ≤ R.locals) : zCa yX9_isSchool cX9_isSchool 1 (some .boolean) rm_X9_isSchool R 1 := ⟨cd_X9_isSchool, iz_RX9, ⟨by decide, by decide, by decide⟩, rfl, rfl, h1, h2⟩
/-! DebateHouse.isKind -/
abbrev rm_X9_isKind : Room := { frames := 0, cells := 0, slots := 0, locals := 0 }
def f_X9_isKind (u1 : Int32) (M : zMem) : zTr := if u1 < 0 then some (0, M) else if 8 ≤ u1 then some (0, M) else some (1, M)
set_option maxRecDepth 100000 in
theorem lk_X9_isKind (l : Launch) (w : zWD) (u1 : Int32)  : zMt l w yX9_isKind cX9_isKind 1 (some .boolean) rm_X9_isKind 2 [.int u1] (fun M => f_X9_isKind u1 M) := by
  refine zMt.of (by decide) [some (.int u1)] rfl (zle rfl) (by intro v hv; simp only [List.mem_cons, List.not_mem_nil, or_false] at hv; rcases hv with rfl <;> rfl) ?_
  intro p e s m args below meth c X M
  unfold f_X9_isKind
  refine re_iload_n X dX9_isKind_0 rfl rfl ?_
  refine re_if_lt (tgt := 14) X dX9_isKind_1 (by decide) (fun _ => ?_) (fun _ => ?_)
  · refine re_iconst (v := 0) X dX9_isKind_14 (by decide) ?_
    exact re_zret X (Or.inl rfl) dX9_isKind_15
  · refine re_iload_n X dX9_isKind_4 rfl rfl ?_
    refine re_bipush (v := 8) X dX9_isKind_5 (by decide) ?_
    refine re_icmp_ge (tgt := 14) X dX9_isKind_7 (by decide) (fun _ => ?_) (fun _ => ?_)
    · refine re_iconst (v := 0) X dX9_isKind_14 (by decide) ?_
      exact re_zret X (Or.inl rfl) dX9_isKind_15
    · refine re_iconst (v := 1) X dX9_isKind_10 (by decide) ?_
      refine re_goto (tgt := 15) X dX9_isKind_11 (by decide) ?_
      exact re_zret X (Or.inr rfl) dX9_isKind_15
theorem ca_X9_isKind {R : Room} (h1 : rm_X9_isKind.frames + 1 ≤ R.frames) (h2 : 8 + (1 + 11) + rm_X9_isKind.locals ≤ R.locals) : zCa yX9_isKind cX9_isKind 1 (some .boolean) rm_X9_isKind R 1 := ⟨cd_X9_isKind, iz_RX9, ⟨by decide, by decide, by decide⟩, rfl, rfl, h1, h2⟩
/-! DebateHouse.isActNumber -/
abbrev rm_X9_isActNumber : Room := { frames := 0, cells := 0, slots := 0, locals := 0 }
def f_X9_isActNumber (u1 : Int32) (M : zMem) : zTr := if u1 < 0 then some (0, M) else if 300 ≤ u1 then some (0, M) else some (1, M)
set_option maxRecDepth 100000 in
theorem lk_X9_isActNumber (l : Launch) (w : zWD) (u1 : Int32)  : zMt l w yX9_isActNumber cX9_isActNumber 1 (some .boolean) rm_X9_isActNumber 2 [.int u1] (fun M => f_X9_isActNumber u1 M) := by
  refine zMt.of (by decide) [some (.int u1)] rfl (zle rfl) (by intro v hv; simp only [List.mem_cons, List.not_mem_nil, or_false] at hv; rcases hv with rfl <;> rfl) ?_
  intro p e s m args below meth c X M
  unfold f_X9_isActNumber
  refine re_iload_n X dX9_isActNumber_0 rfl rfl ?_
  refine re_if_lt (tgt := 15) X dX9_isActNumber_1 (by decide) (fun _ => ?_) (fun _ => ?_)
  · refine re_iconst (v := 0) X dX9_isActNumber_15 (by decide) ?_
    exact re_zret X (Or.inl rfl) dX9_isActNumber_16
  · refine re_iload_n X dX9_isActNumber_4 rfl rfl ?_
    refine re_sipush (v := 300) X dX9_isActNumber_5 (by decide) ?_
    refine re_icmp_ge (tgt := 15) X dX9_isActNumber_8 (by decide) (fun _ => ?_) (fun _ => ?_)
    · refine re_iconst (v := 0) X dX9_isActNumber_15 (by decide) ?_
      exact re_zret X (Or.inl rfl) dX9_isActNumber_16
    · refine re_iconst (v := 1) X dX9_isActNumber_11 (by decide) ?_
      refine re_goto (tgt := 16) X dX9_isActNumber_12 (by decide) ?_
      exact re_zret X (Or.inr rfl) dX9_isActNumber_16
theorem ca_X9_isActNumber {R : Room} (h1 : rm_X9_isActNumber.frames + 1 ≤ R.frames) (h2 : 8 + (1 + 11) + rm_X9_isActNumber.locals ≤ R.locals) : zCa yX9_isActNumber cX9_isActNumber 1 (some .boolean) rm_X9_isActNumber R 1 := ⟨cd_X9_isActNumber, iz_RX9, ⟨by decide, by decide, by decide⟩, rfl, rfl, h1, h2⟩
/-! DebateHouse$Tape.append -/
abbrev rm_X8_append : Room := { frames := 0, cells := 0, slots := 0, locals := 0 }
def f_X8_append_L3 (u1 : Int32)  : Nat → Int32 → zMem → zTr
  | 0, _, _ => none
  | n + 1, x2, M => if x2 < 0 then some (0, M) else if (M 1 1) < 0 then f_X8_append_L3 u1 n (x2 + (-8)) M else if 600 ≤ (M 1 1) then f_X8_append_L3 u1 n (x2 + (-8)) M else zCk (zIn (M 1 1) 600) (zLt (zUp M 2 (zIx (M 1 1)) ((zUsr u1 x2).toInt8.toInt32)) (fun M1 => zLt (zUp M1 1 1 ((M1 1 1) + 1)) (fun M3 => f_X8_append_L3 u1 n (x2 + (-8)) M3)))
def f_X8_append (u1 : Int32) (M : zMem) : zTr := f_X8_append_L3 u1 zFu 24 M
set_option maxRecDepth 100000 in
theorem lb_X8_append_3 {p : Program} {l : Launch} {e : Env} {s : State} {m : MethodId} {args : Array Value} {below : List Frame} {meth : Method} {c : Code} {w : zWD} {u1 : Int32} (X : zCx p s m args meth c w (zFree w) RX8 cX8_append 3 none) (ho : zKd w 1 = (8, 2)) : ∀ (n : Nat) (x2 : Int32) (M : zMem), zRm p l e rm_X8_append s m args below meth c w 0 3 [some (.ref (zA w 1)), some (.int u1), some (.int x2)] [] M (f_X8_append_L3 u1 n x2 M) := by
  intro n
  induction n with
  | zero => intro x2 M; exact re_none
  | succ n ih =>
    intro x2 M
    rw [f_X8_append_L3]
    refine re_iload_n X dX8_append_3 rfl rfl ?_
    refine re_if_lt (tgt := 53) X dX8_append_4 (by decide) (fun _ => ?_) (fun _ => ?_)
    · exact re_vret X dX8_append_53
    · refine re_aload_n X dX8_append_7 rfl rfl ?_
      refine re_getI X cl_8 (by decide) fl_RX8_15 ho rfl dX8_append_8 ?_
      refine re_if_lt (tgt := 47) X dX8_append_11 (by decide) (fun _ => ?_) (fun _ => ?_)
      · refine re_iinc (v := -8) (lv' := [some (.ref (zA w 1)), some (.int u1), some (.int (x2 + (-8)))]) X dX8_append_47 rfl (by decide) rfl ?_
        refine re_goto (tgt := 3) X dX8_append_50 (by decide) ?_
        exact ih (x2 + (-8)) M
      · refine re_aload_n X dX8_append_14 rfl rfl ?_
        refine re_getI X cl_8 (by decide) fl_RX8_15 ho rfl dX8_append_15 ?_
        refine re_sipush (v := 600) X dX8_append_18 (by decide) ?_
        refine re_icmp_ge (tgt := 47) X dX8_append_21 (by decide) (fun _ => ?_) (fun _ => ?_)
        · refine re_iinc (v := -8) (lv' := [some (.ref (zA w 1)), some (.int u1), some (.int (x2 + (-8)))]) X dX8_append_47 rfl (by decide) rfl ?_
          refine re_goto (tgt := 3) X dX8_append_50 (by decide) ?_
          exact ih (x2 + (-8)) M
        · refine re_aload_n X dX8_append_24 rfl rfl ?_
          refine re_getR X cl_8 (by decide) fl_RX8_9 ho rfl (zR_8_0 ho) dX8_append_25 ?_
          refine re_aload_n X dX8_append_28 rfl rfl ?_
          refine re_getI X cl_8 (by decide) fl_RX8_15 ho rfl dX8_append_29 ?_
          refine re_iload_n X dX8_append_32 rfl rfl ?_
          refine re_iload_n X dX8_append_33 rfl rfl ?_
          refine re_iushr X dX8_append_34 ?_
          refine re_i2b X dX8_append_35 ?_
          refine re_ck (fun hi2 => ?_)
          refine re_bast X (zQ_8_0 X.clo ho) hi2 (j := zIx (M 1 1)) rfl (pk_vb _) dX8_append_36 (fun M1 => ?_)
          refine re_aload_n X dX8_append_37 rfl rfl ?_
          refine re_dup X dX8_append_38 rfl ?_
          refine re_getI X cl_8 (by decide) fl_RX8_15 ho rfl dX8_append_39 ?_
          refine re_iconst (v := 1) X dX8_append_42 (by decide) ?_
          refine re_iadd X dX8_append_43 ?_
          refine re_putI X cl_8 (by decide) fl_RX8_15 ho rfl rfl rfl dX8_append_44 (fun M3 => ?_)
          refine re_iinc (v := -8) (lv' := [some (.ref (zA w 1)), some (.int u1), some (.int (x2 + (-8)))]) X dX8_append_47 rfl (by decide) rfl ?_
          refine re_goto (tgt := 3) X dX8_append_50 (by decide) ?_
          exact ih (x2 + (-8)) M3

set_option maxRecDepth 100000 in
theorem lk_X8_append (l : Launch) (w : zWD) (u1 : Int32) (ho : zKd w 1 = (8, 2)) : zMt l w yX8_append cX8_append 3 none rm_X8_append 0 [.ref (zA w 1), .int u1] (fun M => f_X8_append u1 M) := by
  refine zMt.of (by decide) [some (.ref (zA w 1)), some (.int u1), none] rfl (zle rfl) (by intro v hv; simp only [List.mem_cons, List.not_mem_nil, or_false] at hv; rcases hv with rfl | rfl <;> rfl) ?_
  intro p e s m args below meth c X M
  unfold f_X8_append
  refine re_bipush (v := 24) X dX8_append_0 (by decide) ?_
  refine re_istore_n (lv' := [some (.ref (zA w 1)), some (.int u1), some (.int 24)]) X dX8_append_2 rfl (zlt rfl) rfl ?_
  exact lb_X8_append_3 X ho zFu 24 M
theorem ca_X8_append {R : Room} (h1 : rm_X8_append.frames + 1 ≤ R.frames) (h2 : 8 + (3 + 11) + rm_X8_append.locals ≤ R.locals) : zCa yX8_append cX8_append 3 none rm_X8_append R 1 := ⟨cd_X8_append, iz_RX8, ⟨by decide, by decide, by decide⟩, rfl, rfl, h1, h2⟩
/-! DebateHouse$Tape.byteAt -/
abbrev rm_X8_byteAt : Room := { frames := 0, cells := 0, slots := 0, locals := 0 }
def f_X8_byteAt (u1 : Int32) (M : zMem) : zTr := if u1 < 0 then some (-1, M) else if (M 1 1) ≤ u1 then some (-1, M) else if 600 ≤ u1 then some (-1, M) else zCk (zIn u1 600) (some ((M 2 (zIx u1)) &&& 255, M))
set_option maxRecDepth 100000 in
theorem lk_X8_byteAt (l : Launch) (w : zWD) (u1 : Int32) (ho : zKd w 1 = (8, 2)) : zMt l w yX8_byteAt cX8_byteAt 2 (some .int) rm_X8_byteAt 1 [.ref (zA w 1), .int u1] (fun M => f_X8_byteAt u1 M) := by
  refine zMt.of (by decide) [some (.ref (zA w 1)), some (.int u1)] rfl (zle rfl) (by intro v hv; simp only [List.mem_cons, List.not_mem_nil, or_false] at hv; rcases hv with rfl | rfl <;> rfl) ?_
  intro p e s m args below meth c X M
  unfold f_X8_byteAt
  refine re_iload_n X dX8_byteAt_0 rfl rfl ?_
  refine re_if_lt (tgt := 32) X dX8_byteAt_1 (by decide) (fun _ => ?_) (fun _ => ?_)
  · refine re_iconst (v := -1) X dX8_byteAt_32 (by decide) ?_
    exact re_iret X dX8_byteAt_33
  · refine re_iload_n X dX8_byteAt_4 rfl rfl ?_
    refine re_aload_n X dX8_byteAt_5 rfl rfl ?_
    refine re_getI X cl_8 (by decide) fl_RX8_15 ho rfl dX8_byteAt_6 ?_
    refine re_icmp_ge (tgt := 32) X dX8_byteAt_9 (by decide) (fun _ => ?_) (fun _ => ?_)
    · refine re_iconst (v := -1) X dX8_byteAt_32 (by decide) ?_
      exact re_iret X dX8_byteAt_33
    · refine re_iload_n X dX8_byteAt_12 rfl rfl ?_
      refine re_sipush (v := 600) X dX8_byteAt_13 (by decide) ?_
      refine re_icmp_ge (tgt := 32) X dX8_byteAt_16 (by decide) (fun _ => ?_) (fun _ => ?_)
      · refine re_iconst (v := -1) X dX8_byteAt_32 (by decide) ?_
        exact re_iret X dX8_byteAt_33
      · refine re_aload_n X dX8_byteAt_19 rfl rfl ?_
        refine re_getR X cl_8 (by decide) fl_RX8_9 ho rfl (zR_8_0 ho) dX8_byteAt_20 ?_
        refine re_iload_n X dX8_byteAt_23 rfl rfl ?_
        refine re_ck (fun hi1 => ?_)
        refine re_bald X (zQ_8_0 X.clo ho) hi1 (j := zIx u1) rfl dX8_byteAt_24 ?_
        refine re_sipush (v := 255) X dX8_byteAt_25 (by decide) ?_
        refine re_iand X dX8_byteAt_28 ?_
        refine re_goto (tgt := 33) X dX8_byteAt_29 (by decide) ?_
        exact re_iret X dX8_byteAt_33
theorem ca_X8_byteAt {R : Room} (h1 : rm_X8_byteAt.frames + 1 ≤ R.frames) (h2 : 8 + (2 + 11) + rm_X8_byteAt.locals ≤ R.locals) : zCa yX8_byteAt cX8_byteAt 2 (some .int) rm_X8_byteAt R 1 := ⟨cd_X8_byteAt, iz_RX8, ⟨by decide, by decide, by decide⟩, rfl, rfl, h1, h2⟩
/-! DebateHouse$Rules.clear -/
abbrev rm_X6_clear : Room := { frames := 0, cells := 0, slots := 0, locals := 0 }
def f_X6_clear_B42 (o : Nat)  (M : zMem) : zTr := zLt (zUp M o 4 60) (fun M1 => zLt (zUp M1 o 5 0) (fun M2 => zLt (zUp M2 o 6 0) (fun M3 => zLt (zUp M3 o 7 1) (fun M4 => some (0, M4)))))
def f_X6_clear_L2 (o : Nat)  : Nat → Int32 → zMem → zTr
  | 0, _, _ => none
  | n + 1, x1, M => if 8 ≤ x1 then f_X6_clear_B42 o M else zCk (zIn x1 8) (zLt (zUp M (o + 1) (zIx x1) 0) (fun M5 => zCk (zIn x1 8) (zLt (zUp M5 (o + 2) (zIx x1) (-1)) (fun M7 => zCk (zIn x1 8) (zLt (zUp M7 (o + 3) (zIx x1) 0) (fun M9 => zCk (zIn x1 8) (zLt (zUp M9 (o + 4) (zIx x1) 0) (fun M11 => f_X6_clear_L2 o n (x1 + 1) M11))))))))
def f_X6_clear (o : Nat) (M : zMem) : zTr := f_X6_clear_L2 o zFu 0 M
set_option maxRecDepth 100000 in
theorem lb_X6_clear_42 {p : Program} {l : Launch} {e : Env} {s : State} {m : MethodId} {args : Array Value} {below : List Frame} {meth : Method} {c : Code} {w : zWD} {o : Nat} (X : zCx p s m args meth c w (zFree w) RX6 cX6_clear 2 none) (ho : zKd w o = (6, 8)) : ∀ (M : zMem), zRm p l e rm_X6_clear s m args below meth c w 0 42 [some (.ref (zA w o)), none] [] M (f_X6_clear_B42 o M) := by
  intro M
  unfold f_X6_clear_B42
  refine re_aload_n X dX6_clear_42 rfl rfl ?_
  refine re_bipush (v := 60) X dX6_clear_43 (by decide) ?_
  refine re_putI X cl_6 (by decide) fl_RX6_28 ho rfl rfl rfl dX6_clear_45 (fun M1 => ?_)
  refine re_aload_n X dX6_clear_48 rfl rfl ?_
  refine re_iconst (v := 0) X dX6_clear_49 (by decide) ?_
  refine re_putI X cl_6 (by decide) fl_RX6_32 ho rfl rfl rfl dX6_clear_50 (fun M2 => ?_)
  refine re_aload_n X dX6_clear_53 rfl rfl ?_
  refine re_iconst (v := 0) X dX6_clear_54 (by decide) ?_
  refine re_putZ X cl_6 (by decide) fl_RX6_35 ho rfl rfl rfl (Or.inl rfl) dX6_clear_55 (fun M3 => ?_)
  refine re_aload_n X dX6_clear_58 rfl rfl ?_
  refine re_iconst (v := 1) X dX6_clear_59 (by decide) ?_
  refine re_putZ X cl_6 (by decide) fl_RX6_39 ho rfl rfl rfl (Or.inr rfl) dX6_clear_60 (fun M4 => ?_)
  exact re_vret X dX6_clear_63

set_option maxRecDepth 100000 in
theorem lb_X6_clear_2 {p : Program} {l : Launch} {e : Env} {s : State} {m : MethodId} {args : Array Value} {below : List Frame} {meth : Method} {c : Code} {w : zWD} {o : Nat} (X : zCx p s m args meth c w (zFree w) RX6 cX6_clear 2 none) (ho : zKd w o = (6, 8)) : ∀ (n : Nat) (x1 : Int32) (M : zMem), zRm p l e rm_X6_clear s m args below meth c w 0 2 [some (.ref (zA w o)), some (.int x1)] [] M (f_X6_clear_L2 o n x1 M) := by
  intro n
  induction n with
  | zero => intro x1 M; exact re_none
  | succ n ih =>
    intro x1 M
    rw [f_X6_clear_L2]
    refine re_iload_n X dX6_clear_2 rfl rfl ?_
    refine re_bipush (v := 8) X dX6_clear_3 (by decide) ?_
    refine re_icmp_ge (tgt := 42) X dX6_clear_5 (by decide) (fun _ => ?_) (fun _ => ?_)
    · exact re_sub (lb_X6_clear_42 X ho M) ⟨rfl, trivial⟩
    · refine re_aload_n X dX6_clear_8 rfl rfl ?_
      refine re_getR X cl_6 (by decide) fl_RX6_9 ho rfl (zR_6_0 ho) dX6_clear_9 ?_
      refine re_iload_n X dX6_clear_12 rfl rfl ?_
      refine re_iconst (v := 0) X dX6_clear_13 (by decide) ?_
      refine re_ck (fun hi6 => ?_)
      refine re_iast X (zQ_6_0 X.clo ho) hi6 (j := zIx x1) rfl dX6_clear_14 (fun M5 => ?_)
      refine re_aload_n X dX6_clear_15 rfl rfl ?_
      refine re_getR X cl_6 (by decide) fl_RX6_15 ho rfl (zR_6_1 ho) dX6_clear_16 ?_
      refine re_iload_n X dX6_clear_19 rfl rfl ?_
      refine re_iconst (v := -1) X dX6_clear_20 (by decide) ?_
      refine re_ck (fun hi8 => ?_)
      refine re_iast X (zQ_6_1 X.clo ho) hi8 (j := zIx x1) rfl dX6_clear_21 (fun M7 => ?_)
      refine re_aload_n X dX6_clear_22 rfl rfl ?_
      refine re_getR X cl_6 (by decide) fl_RX6_18 ho rfl (zR_6_2 ho) dX6_clear_23 ?_
      refine re_iload_n X dX6_clear_26 rfl rfl ?_
      refine re_iconst (v := 0) X dX6_clear_27 (by decide) ?_
      refine re_ck (fun hi10 => ?_)
      refine re_zast X (zQ_6_2 X.clo ho) hi10 (j := zIx x1) rfl (zNar_b (Or.inl rfl)) dX6_clear_28 (fun M9 => ?_)
      refine re_aload_n X dX6_clear_29 rfl rfl ?_
      refine re_getR X cl_6 (by decide) fl_RX6_22 ho rfl (zR_6_3 ho) dX6_clear_30 ?_
      refine re_iload_n X dX6_clear_33 rfl rfl ?_
      refine re_iconst (v := 0) X dX6_clear_34 (by decide) ?_
      refine re_ck (fun hi12 => ?_)
      refine re_zast X (zQ_6_3 X.clo ho) hi12 (j := zIx x1) rfl (zNar_b (Or.inl rfl)) dX6_clear_35 (fun M11 => ?_)
      refine re_iinc (v := 1) (lv' := [some (.ref (zA w o)), some (.int (x1 + 1))]) X dX6_clear_36 rfl (by decide) rfl ?_
      refine re_goto (tgt := 2) X dX6_clear_39 (by decide) ?_
      exact ih (x1 + 1) M11

set_option maxRecDepth 100000 in
theorem lk_X6_clear (l : Launch) (w : zWD) (o : Nat) (ho : zKd w o = (6, 8)) : zMt l w yX6_clear cX6_clear 2 none rm_X6_clear 0 [.ref (zA w o)] (fun M => f_X6_clear o M) := by
  refine zMt.of (by decide) [some (.ref (zA w o)), none] rfl (zle rfl) (by intro v hv; simp only [List.mem_cons, List.not_mem_nil, or_false] at hv; rcases hv with rfl <;> rfl) ?_
  intro p e s m args below meth c X M
  unfold f_X6_clear
  refine re_iconst (v := 0) X dX6_clear_0 (by decide) ?_
  refine re_istore_n (lv' := [some (.ref (zA w o)), some (.int 0)]) X dX6_clear_1 rfl (zlt rfl) rfl ?_
  exact lb_X6_clear_2 X ho zFu 0 M
theorem ca_X6_clear {R : Room} (h1 : rm_X6_clear.frames + 1 ≤ R.frames) (h2 : 8 + (2 + 11) + rm_X6_clear.locals ≤ R.locals) : zCa yX6_clear cX6_clear 2 none rm_X6_clear R 0 := ⟨cd_X6_clear, iz_RX6, ⟨by decide, by decide, by decide⟩, rfl, rfl, h1, h2⟩
/-! DebateHouse$Rules.copyFrom -/
abbrev rm_X6_copyFrom : Room := { frames := 0, cells := 0, slots := 0, locals := 0 }
def f_X6_copyFrom_B62 (o : Nat) (u1 : Nat)  (M : zMem) : zTr := zLt (zUp M o 4 (M u1 4)) (fun M1 => zLt (zUp M1 o 5 (M1 u1 5)) (fun M2 => zCk ((M2 u1 6) = 0 ∨ (M2 u1 6) = 1) (zLt (zUp M2 o 6 (M2 u1 6)) (fun M3 => zCk ((M3 u1 7) = 0 ∨ (M3 u1 7) = 1) (zLt (zUp M3 o 7 (M3 u1 7)) (fun M5 => some (0, M5)))))))
def f_X6_copyFrom_L2 (o : Nat) (u1 : Nat)  : Nat → Int32 → zMem → zTr
  | 0, _, _ => none
  | n + 1, x2, M => if 8 ≤ x2 then f_X6_copyFrom_B62 o u1 M else zCk (zIn x2 8) (zCk (zIn x2 8) (zLt (zUp M (o + 1) (zIx x2) (M (u1 + 1) (zIx x2))) (fun M8 => zCk (zIn x2 8) (zCk (zIn x2 8) (zLt (zUp M8 (o + 2) (zIx x2) (M8 (u1 + 2) (zIx x2))) (fun M11 => zCk (zIn x2 8) (zCk (zIn x2 8) (zCk ((M11 (u1 + 3) (zIx x2)) = 0 ∨ (M11 (u1 + 3) (zIx x2)) = 1) (zLt (zUp M11 (o + 3) (zIx x2) (M11 (u1 + 3) (zIx x2))) (fun M14 => zCk (zIn x2 8) (zCk (zIn x2 8) (zCk ((M14 (u1 + 4) (zIx x2)) = 0 ∨ (M14 (u1 + 4) (zIx x2)) = 1) (zLt (zUp M14 (o + 4) (zIx x2) (M14 (u1 + 4) (zIx x2))) (fun M18 => f_X6_copyFrom_L2 o u1 n (x2 + 1) M18))))))))))))))
def f_X6_copyFrom (o : Nat) (u1 : Nat) (M : zMem) : zTr := f_X6_copyFrom_L2 o u1 zFu 0 M
set_option maxRecDepth 100000 in
theorem lb_X6_copyFrom_62 {p : Program} {l : Launch} {e : Env} {s : State} {m : MethodId} {args : Array Value} {below : List Frame} {meth : Method} {c : Code} {w : zWD} {o : Nat} {u1 : Nat} (X : zCx p s m args meth c w (zFree w) RX6 cX6_copyFrom 3 none) (ho : zKd w o = (6, 8)) (hu1 : zKd w u1 = (6, 8)) : ∀ (M : zMem), zRm p l e rm_X6_copyFrom s m args below meth c w 0 62 [some (.ref (zA w o)), some (.ref (zA w u1)), none] [] M (f_X6_copyFrom_B62 o u1 M) := by
  intro M
  unfold f_X6_copyFrom_B62
  refine re_aload_n X dX6_copyFrom_62 rfl rfl ?_
  refine re_aload_n X dX6_copyFrom_63 rfl rfl ?_
  refine re_getI X cl_6 (by decide) fl_RX6_28 hu1 rfl dX6_copyFrom_64 ?_
  refine re_putI X cl_6 (by decide) fl_RX6_28 ho rfl rfl rfl dX6_copyFrom_67 (fun M1 => ?_)
  refine re_aload_n X dX6_copyFrom_70 rfl rfl ?_
  refine re_aload_n X dX6_copyFrom_71 rfl rfl ?_
  refine re_getI X cl_6 (by decide) fl_RX6_32 hu1 rfl dX6_copyFrom_72 ?_
  refine re_putI X cl_6 (by decide) fl_RX6_32 ho rfl rfl rfl dX6_copyFrom_75 (fun M2 => ?_)
  refine re_aload_n X dX6_copyFrom_78 rfl rfl ?_
  refine re_aload_n X dX6_copyFrom_79 rfl rfl ?_
  refine re_getI X cl_6 (by decide) fl_RX6_35 hu1 rfl dX6_copyFrom_80 ?_
  refine re_ck (fun hz4 => ?_)
  refine re_putZ X cl_6 (by decide) fl_RX6_35 ho rfl rfl rfl hz4 dX6_copyFrom_83 (fun M3 => ?_)
  refine re_aload_n X dX6_copyFrom_86 rfl rfl ?_
  refine re_aload_n X dX6_copyFrom_87 rfl rfl ?_
  refine re_getI X cl_6 (by decide) fl_RX6_39 hu1 rfl dX6_copyFrom_88 ?_
  refine re_ck (fun hz6 => ?_)
  refine re_putZ X cl_6 (by decide) fl_RX6_39 ho rfl rfl rfl hz6 dX6_copyFrom_91 (fun M5 => ?_)
  exact re_vret X dX6_copyFrom_94

set_option maxRecDepth 100000 in
theorem lb_X6_copyFrom_2 {p : Program} {l : Launch} {e : Env} {s : State} {m : MethodId} {args : Array Value} {below : List Frame} {meth : Method} {c : Code} {w : zWD} {o : Nat} {u1 : Nat} (X : zCx p s m args meth c w (zFree w) RX6 cX6_copyFrom 3 none) (ho : zKd w o = (6, 8)) (hu1 : zKd w u1 = (6, 8)) : ∀ (n : Nat) (x2 : Int32) (M : zMem), zRm p l e rm_X6_copyFrom s m args below meth c w 0 2 [some (.ref (zA w o)), some (.ref (zA w u1)), some (.int x2)] [] M (f_X6_copyFrom_L2 o u1 n x2 M) := by
  intro n
  induction n with
  | zero => intro x2 M; exact re_none
  | succ n ih =>
    intro x2 M
    rw [f_X6_copyFrom_L2]
    refine re_iload_n X dX6_copyFrom_2 rfl rfl ?_
    refine re_bipush (v := 8) X dX6_copyFrom_3 (by decide) ?_
    refine re_icmp_ge (tgt := 62) X dX6_copyFrom_5 (by decide) (fun _ => ?_) (fun _ => ?_)
    · exact re_sub (lb_X6_copyFrom_62 X ho hu1 M) ⟨rfl, ⟨rfl, trivial⟩⟩
    · refine re_aload_n X dX6_copyFrom_8 rfl rfl ?_
      refine re_getR X cl_6 (by decide) fl_RX6_9 ho rfl (zR_6_0 ho) dX6_copyFrom_9 ?_
      refine re_iload_n X dX6_copyFrom_12 rfl rfl ?_
      refine re_aload_n X dX6_copyFrom_13 rfl rfl ?_
      refine re_getR X cl_6 (by decide) fl_RX6_9 hu1 rfl (zR_6_0 hu1) dX6_copyFrom_14 ?_
      refine re_iload_n X dX6_copyFrom_17 rfl rfl ?_
      refine re_ck (fun hi7 => ?_)
      refine re_iald X (zQ_6_0 X.clo hu1) hi7 (j := zIx x2) rfl dX6_copyFrom_18 ?_
      refine re_ck (fun hi9 => ?_)
      refine re_iast X (zQ_6_0 X.clo ho) hi9 (j := zIx x2) rfl dX6_copyFrom_19 (fun M8 => ?_)
      refine re_aload_n X dX6_copyFrom_20 rfl rfl ?_
      refine re_getR X cl_6 (by decide) fl_RX6_15 ho rfl (zR_6_1 ho) dX6_copyFrom_21 ?_
      refine re_iload_n X dX6_copyFrom_24 rfl rfl ?_
      refine re_aload_n X dX6_copyFrom_25 rfl rfl ?_
      refine re_getR X cl_6 (by decide) fl_RX6_15 hu1 rfl (zR_6_1 hu1) dX6_copyFrom_26 ?_
      refine re_iload_n X dX6_copyFrom_29 rfl rfl ?_
      refine re_ck (fun hi10 => ?_)
      refine re_iald X (zQ_6_1 X.clo hu1) hi10 (j := zIx x2) rfl dX6_copyFrom_30 ?_
      refine re_ck (fun hi12 => ?_)
      refine re_iast X (zQ_6_1 X.clo ho) hi12 (j := zIx x2) rfl dX6_copyFrom_31 (fun M11 => ?_)
      refine re_aload_n X dX6_copyFrom_32 rfl rfl ?_
      refine re_getR X cl_6 (by decide) fl_RX6_18 ho rfl (zR_6_2 ho) dX6_copyFrom_33 ?_
      refine re_iload_n X dX6_copyFrom_36 rfl rfl ?_
      refine re_aload_n X dX6_copyFrom_37 rfl rfl ?_
      refine re_getR X cl_6 (by decide) fl_RX6_18 hu1 rfl (zR_6_2 hu1) dX6_copyFrom_38 ?_
      refine re_iload_n X dX6_copyFrom_41 rfl rfl ?_
      refine re_ck (fun hi13 => ?_)
      refine re_zald X (zQ_6_2 X.clo hu1) hi13 (j := zIx x2) rfl dX6_copyFrom_42 ?_
      refine re_ck (fun hi15 => ?_)
      refine re_ck (fun hz16 => ?_)
      refine re_zast X (zQ_6_2 X.clo ho) hi15 (j := zIx x2) rfl (zNar_b hz16) dX6_copyFrom_43 (fun M14 => ?_)
      refine re_aload_n X dX6_copyFrom_44 rfl rfl ?_
      refine re_getR X cl_6 (by decide) fl_RX6_22 ho rfl (zR_6_3 ho) dX6_copyFrom_45 ?_
      refine re_iload_n X dX6_copyFrom_48 rfl rfl ?_
      refine re_aload_n X dX6_copyFrom_49 rfl rfl ?_
      refine re_getR X cl_6 (by decide) fl_RX6_22 hu1 rfl (zR_6_3 hu1) dX6_copyFrom_50 ?_
      refine re_iload_n X dX6_copyFrom_53 rfl rfl ?_
      refine re_ck (fun hi17 => ?_)
      refine re_zald X (zQ_6_3 X.clo hu1) hi17 (j := zIx x2) rfl dX6_copyFrom_54 ?_
      refine re_ck (fun hi19 => ?_)
      refine re_ck (fun hz20 => ?_)
      refine re_zast X (zQ_6_3 X.clo ho) hi19 (j := zIx x2) rfl (zNar_b hz20) dX6_copyFrom_55 (fun M18 => ?_)
      refine re_iinc (v := 1) (lv' := [some (.ref (zA w o)), some (.ref (zA w u1)), some (.int (x2 + 1))]) X dX6_copyFrom_56 rfl (by decide) rfl ?_
      refine re_goto (tgt := 2) X dX6_copyFrom_59 (by decide) ?_
      exact ih (x2 + 1) M18

set_option maxRecDepth 100000 in
theorem lk_X6_copyFrom (l : Launch) (w : zWD) (o : Nat) (u1 : Nat) (ho : zKd w o = (6, 8)) (hu1 : zKd w u1 = (6, 8)) : zMt l w yX6_copyFrom cX6_copyFrom 3 none rm_X6_copyFrom 0 [.ref (zA w o), .ref (zA w u1)] (fun M => f_X6_copyFrom o u1 M) := by
  refine zMt.of (by decide) [some (.ref (zA w o)), some (.ref (zA w u1)), none] rfl (zle rfl) (by intro v hv; simp only [List.mem_cons, List.not_mem_nil, or_false] at hv; rcases hv with rfl | rfl <;> rfl) ?_
  intro p e s m args below meth c X M
  unfold f_X6_copyFrom
  refine re_iconst (v := 0) X dX6_copyFrom_0 (by decide) ?_
  refine re_istore_n (lv' := [some (.ref (zA w o)), some (.ref (zA w u1)), some (.int 0)]) X dX6_copyFrom_1 rfl (zlt rfl) rfl ?_
  exact lb_X6_copyFrom_2 X ho hu1 zFu 0 M
theorem ca_X6_copyFrom {R : Room} (h1 : rm_X6_copyFrom.frames + 1 ≤ R.frames) (h2 : 8 + (3 + 11) + rm_X6_copyFrom.locals ≤ R.locals) : zCa yX6_copyFrom cX6_copyFrom 3 none rm_X6_copyFrom R 1 := ⟨cd_X6_copyFrom, iz_RX6, ⟨by decide, by decide, by decide⟩, rfl, rfl, h1, h2⟩
/-! DebateHouse$Rules.lets -/
abbrev rm_X6_lets : Room := { frames := 1, cells := 0, slots := 0, locals := 20 }
def f_X6_lets (o : Nat) (u1 : Int32) (M : zMem) : zTr := zBd (f_X9_isKind u1 M) (fun r1 M2 => if r1 = 0 then some (0, M2) else zCk (zIn u1 8) (if (M2 (o + 1) (zIx u1)) ≤ 0 then some (0, M2) else some (1, M2)))
set_option maxRecDepth 100000 in
theorem lk_X6_lets (l : Launch) (w : zWD) (o : Nat) (u1 : Int32) (ho : zKd w o = (6, 8)) : zMt l w yX6_lets cX6_lets 2 (some .boolean) rm_X6_lets 2 [.ref (zA w o), .int u1] (fun M => f_X6_lets o u1 M) := by
  refine zMt.of (by decide) [some (.ref (zA w o)), some (.int u1)] rfl (zle rfl) (by intro v hv; simp only [List.mem_cons, List.not_mem_nil, or_false] at hv; rcases hv with rfl | rfl <;> rfl) ?_
  intro p e s m args below meth c X M
  unfold f_X6_lets
  refine re_iload_n X dX6_lets_0 rfl rfl ?_
  refine re_callNz X (lk_X9_isKind l w u1) (ca_X9_isKind (by decide) (by decide)) (zN_4) sm_X9_isKind rfl rfl rfl (zle rfl) zRo dX6_lets_1 (fun r1 M2 hr1 => ?_)
  refine re_if_eq (tgt := 20) X dX6_lets_4 (by decide) (fun _ => ?_) (fun _ => ?_)
  · refine re_iconst (v := 0) X dX6_lets_20 (by decide) ?_
    exact re_zret X (Or.inl rfl) dX6_lets_21
  · refine re_aload_n X dX6_lets_7 rfl rfl ?_
    refine re_getR X cl_6 (by decide) fl_RX6_9 ho rfl (zR_6_0 ho) dX6_lets_8 ?_
    refine re_iload_n X dX6_lets_11 rfl rfl ?_
    refine re_ck (fun hi3 => ?_)
    refine re_iald X (zQ_6_0 X.clo ho) hi3 (j := zIx u1) rfl dX6_lets_12 ?_
    refine re_if_le (tgt := 20) X dX6_lets_13 (by decide) (fun _ => ?_) (fun _ => ?_)
    · refine re_iconst (v := 0) X dX6_lets_20 (by decide) ?_
      exact re_zret X (Or.inl rfl) dX6_lets_21
    · refine re_iconst (v := 1) X dX6_lets_16 (by decide) ?_
      refine re_goto (tgt := 21) X dX6_lets_17 (by decide) ?_
      exact re_zret X (Or.inr rfl) dX6_lets_21
theorem ca_X6_lets {R : Room} (h1 : rm_X6_lets.frames + 1 ≤ R.frames) (h2 : 8 + (2 + 11) + rm_X6_lets.locals ≤ R.locals) : zCa yX6_lets cX6_lets 2 (some .boolean) rm_X6_lets R 1 := ⟨cd_X6_lets, iz_RX6, ⟨by decide, by decide, by decide⟩, rfl, rfl, h1, h2⟩
/-! DebateHouse$Rules.rankOf -/
abbrev rm_X6_rankOf : Room := { frames := 1, cells := 0, slots := 0, locals := 20 }
def f_X6_rankOf (o : Nat) (u1 : Int32) (M : zMem) : zTr := zBd (f_X9_isKind u1 M) (fun r1 M2 => if r1 = 0 then some (0, M2) else zCk (zIn u1 8) (some (M2 (o + 1) (zIx u1), M2)))
set_option maxRecDepth 100000 in
theorem lk_X6_rankOf (l : Launch) (w : zWD) (o : Nat) (u1 : Int32) (ho : zKd w o = (6, 8)) : zMt l w yX6_rankOf cX6_rankOf 2 (some .int) rm_X6_rankOf 1 [.ref (zA w o), .int u1] (fun M => f_X6_rankOf o u1 M) := by
  refine zMt.of (by decide) [some (.ref (zA w o)), some (.int u1)] rfl (zle rfl) (by intro v hv; simp only [List.mem_cons, List.not_mem_nil, or_false] at hv; rcases hv with rfl | rfl <;> rfl) ?_
  intro p e s m args below meth c X M
  unfold f_X6_rankOf
  refine re_iload_n X dX6_rankOf_0 rfl rfl ?_
  refine re_callNz X (lk_X9_isKind l w u1) (ca_X9_isKind (by decide) (by decide)) (zN_4) sm_X9_isKind rfl rfl rfl (zle rfl) zRo dX6_rankOf_1 (fun r1 M2 hr1 => ?_)
  refine re_if_eq (tgt := 16) X dX6_rankOf_4 (by decide) (fun _ => ?_) (fun _ => ?_)
  · refine re_iconst (v := 0) X dX6_rankOf_16 (by decide) ?_
    exact re_iret X dX6_rankOf_17
  · refine re_aload_n X dX6_rankOf_7 rfl rfl ?_
    refine re_getR X cl_6 (by decide) fl_RX6_9 ho rfl (zR_6_0 ho) dX6_rankOf_8 ?_
    refine re_iload_n X dX6_rankOf_11 rfl rfl ?_
    refine re_ck (fun hi3 => ?_)
    refine re_iald X (zQ_6_0 X.clo ho) hi3 (j := zIx u1) rfl dX6_rankOf_12 ?_
    refine re_goto (tgt := 17) X dX6_rankOf_13 (by decide) ?_
    exact re_iret X dX6_rankOf_17
theorem ca_X6_rankOf {R : Room} (h1 : rm_X6_rankOf.frames + 1 ≤ R.frames) (h2 : 8 + (2 + 11) + rm_X6_rankOf.locals ≤ R.locals) : zCa yX6_rankOf cX6_rankOf 2 (some .int) rm_X6_rankOf R 1 := ⟨cd_X6_rankOf, iz_RX6, ⟨by decide, by decide, by decide⟩, rfl, rfl, h1, h2⟩
/-! DebateHouse$Log.add -/
abbrev rm_X2_add : Room := { frames := 1, cells := 0, slots := 0, locals := 20 }
def f_X2_add (u1 : Int32) (u2 : Int32) (u3 : Int32) (u4 : Int32) (u5 : Int32) (M : zMem) : zTr := zBd (f_X9_isActNumber (M 15 5) M) (fun r1 M2 => if r1 = 0 then some (0, M2) else zCk (zIn (M2 15 5) 300) (zLt (zUp M2 16 (zIx (M2 15 5)) u1) (fun M3 => zCk (zIn (M3 15 5) 300) (zLt (zUp M3 17 (zIx (M3 15 5)) u2) (fun M5 => zCk (zIn (M5 15 5) 300) (zLt (zUp M5 18 (zIx (M5 15 5)) u3) (fun M7 => zCk (zIn (M7 15 5) 300) (zLt (zUp M7 19 (zIx (M7 15 5)) u4) (fun M9 => zCk (zIn (M9 15 5) 300) (zLt (zUp M9 20 (zIx (M9 15 5)) u5) (fun M11 => zLt (zUp M11 15 5 ((M11 15 5) + 1)) (fun M13 => some (0, M13)))))))))))))
set_option maxRecDepth 100000 in
theorem lk_X2_add (l : Launch) (w : zWD) (u1 : Int32) (u2 : Int32) (u3 : Int32) (u4 : Int32) (u5 : Int32) (ho : zKd w 15 = (2, 6)) : zMt l w yX2_add cX2_add 6 none rm_X2_add 0 [.ref (zA w 15), .int u1, .int u2, .int u3, .int u4, .int u5] (fun M => f_X2_add u1 u2 u3 u4 u5 M) := by
  refine zMt.of (by decide) [some (.ref (zA w 15)), some (.int u1), some (.int u2), some (.int u3), some (.int u4), some (.int u5)] rfl (zle rfl) (by intro v hv; simp only [List.mem_cons, List.not_mem_nil, or_false] at hv; rcases hv with rfl | rfl | rfl | rfl | rfl | rfl <;> rfl) ?_
  intro p e s m args below meth c X M
  unfold f_X2_add
  refine re_aload_n X dX2_add_0 rfl rfl ?_
  refine re_getI X cl_2 (by decide) fl_RX2_27 ho rfl dX2_add_1 ?_
  refine re_callNz X (lk_X9_isActNumber l w (M 15 5)) (ca_X9_isActNumber (by decide) (by decide)) (zN_5) sm_X9_isActNumber rfl rfl rfl (zle rfl) zRo dX2_add_4 (fun r1 M2 hr1 => ?_)
  refine re_if_ne (tgt := 11) X dX2_add_7 (by decide) (fun _ => ?_) (fun _ => ?_)
  · exact re_vret X dX2_add_10
  · refine re_aload_n X dX2_add_11 rfl rfl ?_
    refine re_getR X cl_2 (by decide) fl_RX2_9 ho rfl (zR_2_0 ho) dX2_add_12 ?_
    refine re_aload_n X dX2_add_15 rfl rfl ?_
    refine re_getI X cl_2 (by decide) fl_RX2_27 ho rfl dX2_add_16 ?_
    refine re_iload_n X dX2_add_19 rfl rfl ?_
    refine re_ck (fun hi4 => ?_)
    refine re_iast X (zQ_2_0 X.clo ho) hi4 (j := zIx (M2 15 5)) rfl dX2_add_20 (fun M3 => ?_)
    refine re_aload_n X dX2_add_21 rfl rfl ?_
    refine re_getR X cl_2 (by decide) fl_RX2_15 ho rfl (zR_2_1 ho) dX2_add_22 ?_
    refine re_aload_n X dX2_add_25 rfl rfl ?_
    refine re_getI X cl_2 (by decide) fl_RX2_27 ho rfl dX2_add_26 ?_
    refine re_iload_n X dX2_add_29 rfl rfl ?_
    refine re_ck (fun hi6 => ?_)
    refine re_iast X (zQ_2_1 X.clo ho) hi6 (j := zIx (M3 15 5)) rfl dX2_add_30 (fun M5 => ?_)
    refine re_aload_n X dX2_add_31 rfl rfl ?_
    refine re_getR X cl_2 (by decide) fl_RX2_18 ho rfl (zR_2_2 ho) dX2_add_32 ?_
    refine re_aload_n X dX2_add_35 rfl rfl ?_
    refine re_getI X cl_2 (by decide) fl_RX2_27 ho rfl dX2_add_36 ?_
    refine re_iload_n X dX2_add_39 rfl rfl ?_
    refine re_ck (fun hi8 => ?_)
    refine re_iast X (zQ_2_2 X.clo ho) hi8 (j := zIx (M5 15 5)) rfl dX2_add_40 (fun M7 => ?_)
    refine re_aload_n X dX2_add_41 rfl rfl ?_
    refine re_getR X cl_2 (by decide) fl_RX2_21 ho rfl (zR_2_3 ho) dX2_add_42 ?_
    refine re_aload_n X dX2_add_45 rfl rfl ?_
    refine re_getI X cl_2 (by decide) fl_RX2_27 ho rfl dX2_add_46 ?_
    refine re_iload X dX2_add_49 rfl ?_
    refine re_ck (fun hi10 => ?_)
    refine re_iast X (zQ_2_3 X.clo ho) hi10 (j := zIx (M7 15 5)) rfl dX2_add_51 (fun M9 => ?_)
    refine re_aload_n X dX2_add_52 rfl rfl ?_
    refine re_getR X cl_2 (by decide) fl_RX2_24 ho rfl (zR_2_4 ho) dX2_add_53 ?_
    refine re_aload_n X dX2_add_56 rfl rfl ?_
    refine re_getI X cl_2 (by decide) fl_RX2_27 ho rfl dX2_add_57 ?_
    refine re_iload X dX2_add_60 rfl ?_
    refine re_ck (fun hi12 => ?_)
    refine re_iast X (zQ_2_4 X.clo ho) hi12 (j := zIx (M9 15 5)) rfl dX2_add_62 (fun M11 => ?_)
    refine re_aload_n X dX2_add_63 rfl rfl ?_
    refine re_dup X dX2_add_64 rfl ?_
    refine re_getI X cl_2 (by decide) fl_RX2_27 ho rfl dX2_add_65 ?_
    refine re_iconst (v := 1) X dX2_add_68 (by decide) ?_
    refine re_iadd X dX2_add_69 ?_
    refine re_putI X cl_2 (by decide) fl_RX2_27 ho rfl rfl rfl dX2_add_70 (fun M13 => ?_)
    exact re_vret X dX2_add_73
theorem ca_X2_add {R : Room} (h1 : rm_X2_add.frames + 1 ≤ R.frames) (h2 : 8 + (6 + 11) + rm_X2_add.locals ≤ R.locals) : zCa yX2_add cX2_add 6 none rm_X2_add R 5 := ⟨cd_X2_add, iz_RX2, ⟨by decide, by decide, by decide⟩, rfl, rfl, h1, h2⟩
