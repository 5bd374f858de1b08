/-! DebateHouse.feed -/
abbrev rm_X9_feed : Room := { frames := 1, cells := 0, slots := 0, locals := 22 }
def f_X9_feed (u1 : Int32) (u2 : Int32) (u3 : Int32) (u4 : Int32) (u5 : Int32) (M : zMem) : zTr := if ((M 1 1) + 20) ≤ 600 then zBd (f_X8_append u1 M) (fun _ M2 => zBd (f_X8_append u2 M2) (fun _ M4 => zBd (f_X8_append u3 M4) (fun _ M6 => zBd (f_X8_append u4 M6) (fun _ M8 => zBd (f_X8_append u5 M8) (fun _ M10 => some (M10 1 1, M10)))))) else some (-1, M)
set_option maxRecDepth 100000 in
theorem lk_X9_feed (l : Launch) (w : zWD) (u1 : Int32) (u2 : Int32) (u3 : Int32) (u4 : Int32) (u5 : Int32) (ho : zKd w 0 = (9, 10)) : zMt l w yX9_feed cX9_feed 6 (some .int) rm_X9_feed 1 [.ref (zA w 0), .int u1, .int u2, .int u3, .int u4, .int u5] (fun M => f_X9_feed u1 u2 u3 u4 u5 M) := by
  refine zMt.of (by decide) [some (.ref (zA w 0)), some (.int u1), some (.int u2), some (.int u3), some (.int u4), some (.int u5)] rfl (zle rfl) (by intro v hv; simp only [List.mem_cons, List.not_mem_nil, or_false] at hv; rcases hv with rfl | rfl | rfl | rfl | rfl | rfl <;> rfl) ?_
  intro p e s m args below meth c X M
  unfold f_X9_feed
  refine re_aload_n X dX9_feed_0 rfl rfl ?_
  refine re_getR X cl_9 (by decide) fl_RX9_12 ho rfl (zR_9_0 ho) dX9_feed_1 ?_
  refine re_getI X cl_8 (by decide) fl_RX9_76 (zQ_9_0 X.clo ho) rfl dX9_feed_4 ?_
  refine re_bipush (v := 20) X dX9_feed_7 (by decide) ?_
  refine re_iadd X dX9_feed_9 ?_
  refine re_sipush (v := 600) X dX9_feed_10 (by decide) ?_
  refine re_icmp_le (tgt := 18) X dX9_feed_13 (by decide) (fun _ => ?_) (fun _ => ?_)
  · refine re_aload_n X dX9_feed_18 rfl rfl ?_
    refine re_getR X cl_9 (by decide) fl_RX9_12 ho rfl (zR_9_0 ho) dX9_feed_19 ?_
    refine re_iload_n X dX9_feed_22 rfl rfl ?_
    refine re_callVv X (lk_X8_append l w u1 (zQ_9_0 X.clo ho)) (ca_X8_append (by decide) (by decide)) ml_RX9_80 im_X8_append se_X8_append cl_8 (zQ_9_0 X.clo ho) rfl rfl rfl (zle rfl) zRo dX9_feed_23 (fun r1 M2 hr1 => ?_)
    refine re_aload_n X dX9_feed_26 rfl rfl ?_
    refine re_getR X cl_9 (by decide) fl_RX9_12 ho rfl (zR_9_0 ho) dX9_feed_27 ?_
    refine re_iload_n X dX9_feed_30 rfl rfl ?_
    refine re_callVv X (lk_X8_append l w u2 (zQ_9_0 X.clo ho)) (ca_X8_append (by decide) (by decide)) ml_RX9_80 im_X8_append se_X8_append cl_8 (zQ_9_0 X.clo ho) rfl rfl rfl (zle rfl) zRo dX9_feed_31 (fun r3 M4 hr3 => ?_)
    refine re_aload_n X dX9_feed_34 rfl rfl ?_
    refine re_getR X cl_9 (by decide) fl_RX9_12 ho rfl (zR_9_0 ho) dX9_feed_35 ?_
    refine re_iload_n X dX9_feed_38 rfl rfl ?_
    refine re_callVv X (lk_X8_append l w u3 (zQ_9_0 X.clo ho)) (ca_X8_append (by decide) (by decide)) ml_RX9_80 im_X8_append se_X8_append cl_8 (zQ_9_0 X.clo ho) rfl rfl rfl (zle rfl) zRo dX9_feed_39 (fun r5 M6 hr5 => ?_)
    refine re_aload_n X dX9_feed_42 rfl rfl ?_
    refine re_getR X cl_9 (by decide) fl_RX9_12 ho rfl (zR_9_0 ho) dX9_feed_43 ?_
    refine re_iload X dX9_feed_46 rfl ?_
    refine re_callVv X (lk_X8_append l w u4 (zQ_9_0 X.clo ho)) (ca_X8_append (by decide) (by decide)) ml_RX9_80 im_X8_append se_X8_append cl_8 (zQ_9_0 X.clo ho) rfl rfl rfl (zle rfl) zRo dX9_feed_48 (fun r7 M8 hr7 => ?_)
    refine re_aload_n X dX9_feed_51 rfl rfl ?_
    refine re_getR X cl_9 (by decide) fl_RX9_12 ho rfl (zR_9_0 ho) dX9_feed_52 ?_
    refine re_iload X dX9_feed_55 rfl ?_
    refine re_callVv X (lk_X8_append l w u5 (zQ_9_0 X.clo ho)) (ca_X8_append (by decide) (by decide)) ml_RX9_80 im_X8_append se_X8_append cl_8 (zQ_9_0 X.clo ho) rfl rfl rfl (zle rfl) zRo dX9_feed_57 (fun r9 M10 hr9 => ?_)
    refine re_aload_n X dX9_feed_60 rfl rfl ?_
    refine re_getR X cl_9 (by decide) fl_RX9_12 ho rfl (zR_9_0 ho) dX9_feed_61 ?_
    refine re_getI X cl_8 (by decide) fl_RX9_76 (zQ_9_0 X.clo ho) rfl dX9_feed_64 ?_
    exact re_iret X dX9_feed_67
  · refine re_iconst (v := -1) X dX9_feed_16 (by decide) ?_
    exact re_iret X dX9_feed_17
theorem ca_X9_feed {R : Room} (h1 : rm_X9_feed.frames + 1 ≤ R.frames) (h2 : 8 + (6 + 11) + rm_X9_feed.locals ≤ R.locals) : zCa yX9_feed cX9_feed 6 (some .int) rm_X9_feed R 5 := ⟨cd_X9_feed, iz_RX9, ⟨by decide, by decide, by decide⟩, rfl, rfl, h1, h2⟩
/-! DebateHouse.end -/
abbrev rm_X9_end : Room := { frames := 0, cells := 0, slots := 0, locals := 0 }
def f_X9_end (u1 : Int32) (M : zMem) : zTr := if u1 < 0 then some (-1, M) else if u1 ≤ (M 1 1) then zLt (zUp M 1 1 u1) (fun M1 => some (u1, M1)) else some (-1, M)
set_option maxRecDepth 100000 in
theorem lk_X9_end (l : Launch) (w : zWD) (u1 : Int32) (ho : zKd w 0 = (9, 10)) : zMt l w yX9_end cX9_end 2 (some .int) rm_X9_end 1 [.ref (zA w 0), .int u1] (fun M => f_X9_end u1 M) := by
  refine zMt.of (by decide) [some (.ref (zA w 0)), some (.int u1)] rfl (zle rfl) (by intro v hv; simp only [List.mem_cons, List.not_mem_nil, or_false] at hv; rcases hv with rfl | rfl <;> rfl) ?_
  intro p e s m args below meth c X M
  unfold f_X9_end
  refine re_iload_n X dX9_end_0 rfl rfl ?_
  refine re_if_lt (tgt := 15) X dX9_end_1 (by decide) (fun _ => ?_) (fun _ => ?_)
  · refine re_iconst (v := -1) X dX9_end_15 (by decide) ?_
    exact re_iret X dX9_end_16
  · refine re_iload_n X dX9_end_4 rfl rfl ?_
    refine re_aload_n X dX9_end_5 rfl rfl ?_
    refine re_getR X cl_9 (by decide) fl_RX9_12 ho rfl (zR_9_0 ho) dX9_end_6 ?_
    refine re_getI X cl_8 (by decide) fl_RX9_76 (zQ_9_0 X.clo ho) rfl dX9_end_9 ?_
    refine re_icmp_le (tgt := 17) X dX9_end_12 (by decide) (fun _ => ?_) (fun _ => ?_)
    · refine re_aload_n X dX9_end_17 rfl rfl ?_
      refine re_getR X cl_9 (by decide) fl_RX9_12 ho rfl (zR_9_0 ho) dX9_end_18 ?_
      refine re_iload_n X dX9_end_21 rfl rfl ?_
      refine re_putI X cl_8 (by decide) fl_RX9_76 (zQ_9_0 X.clo ho) rfl rfl rfl dX9_end_22 (fun M1 => ?_)
      refine re_iload_n X dX9_end_25 rfl rfl ?_
      exact re_iret X dX9_end_26
    · refine re_iconst (v := -1) X dX9_end_15 (by decide) ?_
      exact re_iret X dX9_end_16
theorem ca_X9_end {R : Room} (h1 : rm_X9_end.frames + 1 ≤ R.frames) (h2 : 8 + (2 + 11) + rm_X9_end.locals ≤ R.locals) : zCa yX9_end cX9_end 2 (some .int) rm_X9_end R 1 := ⟨cd_X9_end, iz_RX9, ⟨by decide, by decide, by decide⟩, rfl, rfl, h1, h2⟩
/-! DebateHouse.rules -/
abbrev rm_X9_rules : Room := { frames := 9, cells := 0, slots := 0, locals := 193 }
def f_X9_rules  (M : zMem) : zTr := if (M 15 5) ≤ 0 then zBd (f_X5_readTape M) (fun r1 M2 => zLt (zUp M2 1 1 0) (fun M3 => if r1 = 0 then zBd (f_X6_copyFrom 3 8 M3) (fun _ M5 => zBd (f_X7_startAnew 21 M5) (fun _ M7 => some (r1, M7))) else some (r1, M3))) else some (-1, M)
set_option maxRecDepth 100000 in
theorem lk_X9_rules (l : Launch) (w : zWD)  (ho : zKd w 0 = (9, 10)) : zMt l w yX9_rules cX9_rules 2 (some .int) rm_X9_rules 1 [.ref (zA w 0)] (fun M => f_X9_rules M) := by
  refine zMt.of (by decide) [some (.ref (zA w 0)), none] rfl (zle rfl) (by intro v hv; simp only [List.mem_cons, List.not_mem_nil, or_false] at hv; rcases hv with rfl <;> rfl) ?_
  intro p e s m args below meth c X M
  unfold f_X9_rules
  refine re_aload_n X dX9_rules_0 rfl rfl ?_
  refine re_getR X cl_9 (by decide) fl_RX9_42 ho rfl (zR_9_5 ho) dX9_rules_1 ?_
  refine re_getI X cl_2 (by decide) fl_RX9_84 (zQ_9_5 X.clo ho) rfl dX9_rules_4 ?_
  refine re_if_le (tgt := 12) X dX9_rules_7 (by decide) (fun _ => ?_) (fun _ => ?_)
  · refine re_aload_n X dX9_rules_12 rfl rfl ?_
    refine re_getR X cl_9 (by decide) fl_RX9_31 ho rfl (zR_9_3 ho) dX9_rules_13 ?_
    refine re_callVi X (lk_X5_readTape l w (zQ_9_3 X.clo ho)) (ca_X5_readTape (by decide) (by decide)) ml_RX9_87 im_X5_readTape se_X5_readTape cl_5 (zQ_9_3 X.clo ho) rfl rfl rfl (zle rfl) zRo dX9_rules_16 (fun r1 M2 hr1 => ?_)
    refine re_istore_n (lv' := [some (.ref (zA w 0)), some (.int r1)]) X dX9_rules_19 rfl (zlt rfl) rfl ?_
    refine re_aload_n X dX9_rules_20 rfl rfl ?_
    refine re_getR X cl_9 (by decide) fl_RX9_12 ho rfl (zR_9_0 ho) dX9_rules_21 ?_
    refine re_iconst (v := 0) X dX9_rules_24 (by decide) ?_
    refine re_putI X cl_8 (by decide) fl_RX9_76 (zQ_9_0 X.clo ho) rfl rfl rfl dX9_rules_25 (fun M3 => ?_)
    refine re_iload_n X dX9_rules_28 rfl rfl ?_
    refine re_if_ne (tgt := 50) X dX9_rules_29 (by decide) (fun _ => ?_) (fun _ => ?_)
    · refine re_aload_n X dX9_rules_32 rfl rfl ?_
      refine re_getR X cl_9 (by decide) fl_RX9_19 ho rfl (zR_9_1 ho) dX9_rules_33 ?_
      refine re_aload_n X dX9_rules_36 rfl rfl ?_
      refine re_getR X cl_9 (by decide) fl_RX9_23 ho rfl (zR_9_2 ho) dX9_rules_37 ?_
      refine re_callVv X (lk_X6_copyFrom l w 3 8 (zQ_9_1 X.clo ho) (zQ_9_2 X.clo ho)) (ca_X6_copyFrom (by decide) (by decide)) ml_RX9_91 im_X6_copyFrom se_X6_copyFrom cl_6 (zQ_9_1 X.clo ho) rfl rfl rfl (zle rfl) zRo dX9_rules_40 (fun r4 M5 hr4 => ?_)
      refine re_aload_n X dX9_rules_43 rfl rfl ?_
      refine re_getR X cl_9 (by decide) fl_RX9_51 ho rfl (zR_9_6 ho) dX9_rules_44 ?_
      refine re_callVv X (lk_X7_startAnew l w 21 (zQ_9_6 X.clo ho)) (ca_X7_startAnew (by decide) (by decide)) ml_RX9_95 im_X7_startAnew se_X7_startAnew cl_7 (zQ_9_6 X.clo ho) rfl rfl rfl (zle rfl) zRo dX9_rules_47 (fun r6 M7 hr6 => ?_)
      refine re_iload_n X dX9_rules_50 rfl rfl ?_
      exact re_iret X dX9_rules_51
    · refine re_iload_n X dX9_rules_50 rfl rfl ?_
      exact re_iret X dX9_rules_51
  · refine re_iconst (v := -1) X dX9_rules_10 (by decide) ?_
    exact re_iret X dX9_rules_11
theorem ca_X9_rules {R : Room} (h1 : rm_X9_rules.frames + 1 ≤ R.frames) (h2 : 8 + (2 + 11) + rm_X9_rules.locals ≤ R.locals) : zCa yX9_rules cX9_rules 2 (some .int) rm_X9_rules R 0 := ⟨cd_X9_rules, iz_RX9, ⟨by decide, by decide, by decide⟩, rfl, rfl, h1, h2⟩
/-! DebateHouse.school -/
abbrev rm_X9_school : Room := { frames := 1, cells := 0, slots := 0, locals := 20 }
def f_X9_school (u1 : Int32) (u2 : Int32) (M : zMem) : zTr := zBd (f_X9_isMember u1 M) (fun r1 M2 => if r1 = 0 then some (0, M2) else zBd (f_X9_isSchool u2 M2) (fun r3 M4 => if r3 = 0 then some (0, M4) else if (M4 15 5) ≤ 0 then zCk (zIn u1 24) (zLt (zUp M4 14 (zIx u1) u2) (fun M5 => some (1, M5))) else some (0, M4)))
set_option maxRecDepth 100000 in
theorem lk_X9_school (l : Launch) (w : zWD) (u1 : Int32) (u2 : Int32) (ho : zKd w 0 = (9, 10)) : zMt l w yX9_school cX9_school 3 (some .boolean) rm_X9_school 2 [.ref (zA w 0), .int u1, .int u2] (fun M => f_X9_school u1 u2 M) := by
  refine zMt.of (by decide) [some (.ref (zA w 0)), some (.int u1), some (.int u2)] rfl (zle rfl) (by intro v hv; simp only [List.mem_cons, List.not_mem_nil, or_false] at hv; rcases hv with rfl | rfl | rfl <;> rfl) ?_
  intro p e s m args below meth c X M
  unfold f_X9_school
  refine re_iload_n X dX9_school_0 rfl rfl ?_
  refine re_callSz X (lk_X9_isMember l w u1) (ca_X9_isMember (by decide) (by decide)) ml_RX9_98 sm_X9_isMember rfl rfl rfl (zle rfl) zRo dX9_school_1 (fun r1 M2 hr1 => ?_)
  refine re_if_eq (tgt := 24) X dX9_school_4 (by decide) (fun _ => ?_) (fun _ => ?_)
  · refine re_iconst (v := 0) X dX9_school_24 (by decide) ?_
    exact re_zret X (Or.inl rfl) dX9_school_25
  · refine re_iload_n X dX9_school_7 rfl rfl ?_
    refine re_callSz X (lk_X9_isSchool l w u2) (ca_X9_isSchool (by decide) (by decide)) ml_RX9_102 sm_X9_isSchool rfl rfl rfl (zle rfl) zRo dX9_school_8 (fun r3 M4 hr3 => ?_)
    refine re_if_eq (tgt := 24) X dX9_school_11 (by decide) (fun _ => ?_) (fun _ => ?_)
    · refine re_iconst (v := 0) X dX9_school_24 (by decide) ?_
      exact re_zret X (Or.inl rfl) dX9_school_25
    · refine re_aload_n X dX9_school_14 rfl rfl ?_
      refine re_getR X cl_9 (by decide) fl_RX9_42 ho rfl (zR_9_5 ho) dX9_school_15 ?_
      refine re_getI X cl_2 (by decide) fl_RX9_84 (zQ_9_5 X.clo ho) rfl dX9_school_18 ?_
      refine re_if_le (tgt := 26) X dX9_school_21 (by decide) (fun _ => ?_) (fun _ => ?_)
      · refine re_aload_n X dX9_school_26 rfl rfl ?_
        refine re_getR X cl_9 (by decide) fl_RX9_35 ho rfl (zR_9_4 ho) dX9_school_27 ?_
        refine re_iload_n X dX9_school_30 rfl rfl ?_
        refine re_iload_n X dX9_school_31 rfl rfl ?_
        refine re_ck (fun hi6 => ?_)
        refine re_iast X (zQ_9_4 X.clo ho) hi6 (j := zIx u1) rfl dX9_school_32 (fun M5 => ?_)
        refine re_iconst (v := 1) X dX9_school_33 (by decide) ?_
        exact re_zret X (Or.inr rfl) dX9_school_34
      · refine re_iconst (v := 0) X dX9_school_24 (by decide) ?_
        exact re_zret X (Or.inl rfl) dX9_school_25
theorem ca_X9_school {R : Room} (h1 : rm_X9_school.frames + 1 ≤ R.frames) (h2 : 8 + (3 + 11) + rm_X9_school.locals ≤ R.locals) : zCa yX9_school cX9_school 3 (some .boolean) rm_X9_school R 2 := ⟨cd_X9_school, iz_RX9, ⟨by decide, by decide, by decide⟩, rfl, rfl, h1, h2⟩
/-! DebateHouse.act -/
abbrev rm_X9_act : Room := { frames := 7, cells := 0, slots := 0, locals := 165 }
def f_X9_act (u1 : Int32) (u2 : Int32) (u3 : Int32) (u4 : Int32) (u5 : Int32) (M : zMem) : zTr := if u1 < 0 then some (-1, M) else if 9 < u1 then some (-1, M) else if (M 15 5) < 300 then zBd (f_X2_add u1 u2 u3 u4 u5 M) (fun _ M2 => zBd (f_X7_work 21 (M 15 5) 0 M2) (fun r3 M4 => zBd (f_X7_rulingOf 21 (M 15 5) M4) (fun r5 M6 => some (r5, M6)))) else some (-1, M)
set_option maxRecDepth 100000 in
theorem lk_X9_act (l : Launch) (w : zWD) (u1 : Int32) (u2 : Int32) (u3 : Int32) (u4 : Int32) (u5 : Int32) (ho : zKd w 0 = (9, 10)) : zMt l w yX9_act cX9_act 7 (some .int) rm_X9_act 1 [.ref (zA w 0), .int u1, .int u2, .int u3, .int u4, .int u5] (fun M => f_X9_act u1 u2 u3 u4 u5 M) := by
  refine zMt.of (by decide) [some (.ref (zA w 0)), some (.int u1), some (.int u2), some (.int u3), some (.int u4), some (.int u5), none] rfl (zle rfl) (by intro v hv; simp only [List.mem_cons, List.not_mem_nil, or_false] at hv; rcases hv with rfl | rfl | rfl | rfl | rfl | rfl <;> rfl) ?_
  intro p e s m args below meth c X M
  unfold f_X9_act
  refine re_iload_n X dX9_act_0 rfl rfl ?_
  refine re_if_lt (tgt := 23) X dX9_act_1 (by decide) (fun _ => ?_) (fun _ => ?_)
  · refine re_iconst (v := -1) X dX9_act_23 (by decide) ?_
    exact re_iret X dX9_act_24
  · refine re_iload_n X dX9_act_4 rfl rfl ?_
    refine re_bipush (v := 9) X dX9_act_5 (by decide) ?_
    refine re_icmp_gt (tgt := 23) X dX9_act_7 (by decide) (fun _ => ?_) (fun _ => ?_)
    · refine re_iconst (v := -1) X dX9_act_23 (by decide) ?_
      exact re_iret X dX9_act_24
    · refine re_aload_n X dX9_act_10 rfl rfl ?_
      refine re_getR X cl_9 (by decide) fl_RX9_42 ho rfl (zR_9_5 ho) dX9_act_11 ?_
      refine re_getI X cl_2 (by decide) fl_RX9_84 (zQ_9_5 X.clo ho) rfl dX9_act_14 ?_
      refine re_sipush (v := 300) X dX9_act_17 (by decide) ?_
      refine re_icmp_lt (tgt := 25) X dX9_act_20 (by decide) (fun _ => ?_) (fun _ => ?_)
      · refine re_aload_n X dX9_act_25 rfl rfl ?_
        refine re_getR X cl_9 (by decide) fl_RX9_42 ho rfl (zR_9_5 ho) dX9_act_26 ?_
        refine re_getI X cl_2 (by decide) fl_RX9_84 (zQ_9_5 X.clo ho) rfl dX9_act_29 ?_
        refine re_istore (lv' := [some (.ref (zA w 0)), some (.int u1), some (.int u2), some (.int u3), some (.int u4), some (.int u5), some (.int (M 15 5))]) X dX9_act_32 (zlt rfl) rfl ?_
        refine re_aload_n X dX9_act_34 rfl rfl ?_
        refine re_getR X cl_9 (by decide) fl_RX9_42 ho rfl (zR_9_5 ho) dX9_act_35 ?_
        refine re_iload_n X dX9_act_38 rfl rfl ?_
        refine re_iload_n X dX9_act_39 rfl rfl ?_
        refine re_iload_n X dX9_act_40 rfl rfl ?_
        refine re_iload X dX9_act_41 rfl ?_
        refine re_iload X dX9_act_43 rfl ?_
        refine re_callVv X (lk_X2_add l w u1 u2 u3 u4 u5 (zQ_9_5 X.clo ho)) (ca_X2_add (by decide) (by decide)) ml_RX9_105 im_X2_add se_X2_add cl_2 (zQ_9_5 X.clo ho) rfl rfl rfl (zle rfl) zRo dX9_act_45 (fun r1 M2 hr1 => ?_)
        refine re_aload_n X dX9_act_48 rfl rfl ?_
        refine re_getR X cl_9 (by decide) fl_RX9_51 ho rfl (zR_9_6 ho) dX9_act_49 ?_
        refine re_iload X dX9_act_52 rfl ?_
        refine re_iconst (v := 0) X dX9_act_54 (by decide) ?_
        refine re_callVz X (lk_X7_work l w 21 (M 15 5) 0 (zQ_9_6 X.clo ho)) (ca_X7_work (by decide) (by decide)) ml_RX9_109 im_X7_work se_X7_work cl_7 (zQ_9_6 X.clo ho) rfl rfl rfl (zle rfl) zRo dX9_act_55 (fun r3 M4 hr3 => ?_)
        refine re_pop X dX9_act_58 rfl ?_
        refine re_aload_n X dX9_act_59 rfl rfl ?_
        refine re_getR X cl_9 (by decide) fl_RX9_51 ho rfl (zR_9_6 ho) dX9_act_60 ?_
        refine re_iload X dX9_act_63 rfl ?_
        refine re_callVi X (lk_X7_rulingOf l w 21 (M 15 5) (zQ_9_6 X.clo ho)) (ca_X7_rulingOf (by decide) (by decide)) ml_RX9_113 im_X7_rulingOf se_X7_rulingOf cl_7 (zQ_9_6 X.clo ho) rfl rfl rfl (zle rfl) zRo dX9_act_65 (fun r5 M6 hr5 => ?_)
        exact re_iret X dX9_act_68
      · refine re_iconst (v := -1) X dX9_act_23 (by decide) ?_
        exact re_iret X dX9_act_24
theorem ca_X9_act {R : Room} (h1 : rm_X9_act.frames + 1 ≤ R.frames) (h2 : 8 + (7 + 11) + rm_X9_act.locals ≤ R.locals) : zCa yX9_act cX9_act 7 (some .int) rm_X9_act R 5 := ⟨cd_X9_act, iz_RX9, ⟨by decide, by decide, by decide⟩, rfl, rfl, h1, h2⟩
/-! DebateHouse.ruling -/
abbrev rm_X9_ruling : Room := { frames := 3, cells := 0, slots := 0, locals := 62 }
def f_X9_ruling (u1 : Int32) (M : zMem) : zTr := zBd (f_X7_rulingOf 21 u1 M) (fun r1 M2 => some (r1, M2))
set_option maxRecDepth 100000 in
theorem lk_X9_ruling (l : Launch) (w : zWD) (u1 : Int32) (ho : zKd w 0 = (9, 10)) : zMt l w yX9_ruling cX9_ruling 2 (some .int) rm_X9_ruling 1 [.ref (zA w 0), .int u1] (fun M => f_X9_ruling u1 M) := by
  refine zMt.of (by decide) [some (.ref (zA w 0)), some (.int u1)] rfl (zle rfl) (by intro v hv; simp only [List.mem_cons, List.not_mem_nil, or_false] at hv; rcases hv with rfl | rfl <;> rfl) ?_
  intro p e s m args below meth c X M
  unfold f_X9_ruling
  refine re_aload_n X dX9_ruling_0 rfl rfl ?_
  refine re_getR X cl_9 (by decide) fl_RX9_51 ho rfl (zR_9_6 ho) dX9_ruling_1 ?_
  refine re_iload_n X dX9_ruling_4 rfl rfl ?_
  refine re_callVi X (lk_X7_rulingOf l w 21 u1 (zQ_9_6 X.clo ho)) (ca_X7_rulingOf (by decide) (by decide)) ml_RX9_113 im_X7_rulingOf se_X7_rulingOf cl_7 (zQ_9_6 X.clo ho) rfl rfl rfl (zle rfl) zRo dX9_ruling_5 (fun r1 M2 hr1 => ?_)
  exact re_iret X dX9_ruling_8
theorem ca_X9_ruling {R : Room} (h1 : rm_X9_ruling.frames + 1 ≤ R.frames) (h2 : 8 + (2 + 11) + rm_X9_ruling.locals ≤ R.locals) : zCa yX9_ruling cX9_ruling 2 (some .int) rm_X9_ruling R 1 := ⟨cd_X9_ruling, iz_RX9, ⟨by decide, by decide, by decide⟩, rfl, rfl, h1, h2⟩
/-! DebateHouse.passed -/
abbrev rm_X9_passed : Room := { frames := 3, cells := 0, slots := 0, locals := 62 }
def f_X9_passed (u1 : Int32) (M : zMem) : zTr := zBd (f_X7_passedOf 21 u1 M) (fun r1 M2 => some (r1, M2))
set_option maxRecDepth 100000 in
theorem lk_X9_passed (l : Launch) (w : zWD) (u1 : Int32) (ho : zKd w 0 = (9, 10)) : zMt l w yX9_passed cX9_passed 2 (some .int) rm_X9_passed 1 [.ref (zA w 0), .int u1] (fun M => f_X9_passed u1 M) := by
  refine zMt.of (by decide) [some (.ref (zA w 0)), some (.int u1)] rfl (zle rfl) (by intro v hv; simp only [List.mem_cons, List.not_mem_nil, or_false] at hv; rcases hv with rfl | rfl <;> rfl) ?_
  intro p e s m args below meth c X M
  unfold f_X9_passed
  refine re_aload_n X dX9_passed_0 rfl rfl ?_
  refine re_getR X cl_9 (by decide) fl_RX9_51 ho rfl (zR_9_6 ho) dX9_passed_1 ?_
  refine re_iload_n X dX9_passed_4 rfl rfl ?_
  refine re_callVi X (lk_X7_passedOf l w 21 u1 (zQ_9_6 X.clo ho)) (ca_X7_passedOf (by decide) (by decide)) ml_RX9_117 im_X7_passedOf se_X7_passedOf cl_7 (zQ_9_6 X.clo ho) rfl rfl rfl (zle rfl) zRo dX9_passed_5 (fun r1 M2 hr1 => ?_)
  exact re_iret X dX9_passed_8
theorem ca_X9_passed {R : Room} (h1 : rm_X9_passed.frames + 1 ≤ R.frames) (h2 : 8 + (2 + 11) + rm_X9_passed.locals ≤ R.locals) : zCa yX9_passed cX9_passed 2 (some .int) rm_X9_passed R 1 := ⟨cd_X9_passed, iz_RX9, ⟨by decide, by decide, by decide⟩, rfl, rfl, h1, h2⟩
/-! DebateHouse.state -/
abbrev rm_X9_state : Room := { frames := 2, cells := 0, slots := 0, locals := 41 }
def f_X9_state (u1 : Int32) (M : zMem) : zTr := zBd (f_X7_tell 21 u1 M) (fun r1 M2 => some (r1, M2))
set_option maxRecDepth 100000 in
theorem lk_X9_state (l : Launch) (w : zWD) (u1 : Int32) (ho : zKd w 0 = (9, 10)) : zMt l w yX9_state cX9_state 2 (some .int) rm_X9_state 1 [.ref (zA w 0), .int u1] (fun M => f_X9_state u1 M) := by
  refine zMt.of (by decide) [some (.ref (zA w 0)), some (.int u1)] rfl (zle rfl) (by intro v hv; simp only [List.mem_cons, List.not_mem_nil, or_false] at hv; rcases hv with rfl | rfl <;> rfl) ?_
  intro p e s m args below meth c X M
  unfold f_X9_state
  refine re_aload_n X dX9_state_0 rfl rfl ?_
  refine re_getR X cl_9 (by decide) fl_RX9_51 ho rfl (zR_9_6 ho) dX9_state_1 ?_
  refine re_iload_n X dX9_state_4 rfl rfl ?_
  refine re_callVi X (lk_X7_tell l w 21 u1 (zQ_9_6 X.clo ho)) (ca_X7_tell (by decide) (by decide)) ml_RX9_120 im_X7_tell se_X7_tell cl_7 (zQ_9_6 X.clo ho) rfl rfl rfl (zle rfl) zRo dX9_state_5 (fun r1 M2 hr1 => ?_)
  exact re_iret X dX9_state_8
theorem ca_X9_state {R : Room} (h1 : rm_X9_state.frames + 1 ≤ R.frames) (h2 : 8 + (2 + 11) + rm_X9_state.locals ≤ R.locals) : zCa yX9_state cX9_state 2 (some .int) rm_X9_state R 1 := ⟨cd_X9_state, iz_RX9, ⟨by decide, by decide, by decide⟩, rfl, rfl, h1, h2⟩
/-! DebateHouse.pending -/
abbrev rm_X9_pending : Room := { frames := 1, cells := 0, slots := 0, locals := 22 }
def f_X9_pending (u1 : Int32) (u2 : Int32) (M : zMem) : zTr := zBd (f_X3_tell (21 + 4) u1 u2 M) (fun r1 M2 => some (r1, M2))
set_option maxRecDepth 100000 in
theorem lk_X9_pending (l : Launch) (w : zWD) (u1 : Int32) (u2 : Int32) (ho : zKd w 0 = (9, 10)) : zMt l w yX9_pending cX9_pending 3 (some .int) rm_X9_pending 1 [.ref (zA w 0), .int u1, .int u2] (fun M => f_X9_pending u1 u2 M) := by
  refine zMt.of (by decide) [some (.ref (zA w 0)), some (.int u1), some (.int u2)] rfl (zle rfl) (by intro v hv; simp only [List.mem_cons, List.not_mem_nil, or_false] at hv; rcases hv with rfl | rfl | rfl <;> rfl) ?_
  intro p e s m args below meth c X M
  unfold f_X9_pending
  refine re_aload_n X dX9_pending_0 rfl rfl ?_
  refine re_getR X cl_9 (by decide) fl_RX9_51 ho rfl (zR_9_6 ho) dX9_pending_1 ?_
  refine re_getR X cl_7 (by decide) fl_RX9_123 (zQ_9_6 X.clo ho) rfl (zR_7_3 (zQ_9_6 X.clo ho)) dX9_pending_4 ?_
  refine re_iload_n X dX9_pending_7 rfl rfl ?_
  refine re_iload_n X dX9_pending_8 rfl rfl ?_
  refine re_callVi X (lk_X3_tell l w (21 + 4) u1 u2 (zQ_7_3 X.clo (zQ_9_6 X.clo ho))) (ca_X3_tell (by decide) (by decide)) ml_RX9_127 im_X3_tell se_X3_tell cl_3 (zQ_7_3 X.clo (zQ_9_6 X.clo ho)) rfl rfl rfl (zle rfl) zRo dX9_pending_9 (fun r1 M2 hr1 => ?_)
  exact re_iret X dX9_pending_12
theorem ca_X9_pending {R : Room} (h1 : rm_X9_pending.frames + 1 ≤ R.frames) (h2 : 8 + (3 + 11) + rm_X9_pending.locals ≤ R.locals) : zCa yX9_pending cX9_pending 3 (some .int) rm_X9_pending R 2 := ⟨cd_X9_pending, iz_RX9, ⟨by decide, by decide, by decide⟩, rfl, rfl, h1, h2⟩
/-! DebateHouse.clause -/
abbrev rm_X9_clause : Room := { frames := 2, cells := 0, slots := 0, locals := 44 }
def f_X9_clause (u1 : Int32) (u2 : Int32) (M : zMem) : zTr := zBd (f_X4_numberAt (21 + 12) u1 M) (fun r1 M2 => if u2 = 0 then some (r1, M2) else if u2 = 1 then zBd (f_X4_textOf (21 + 12) r1 M2) (fun r3 M4 => some (r3, M4)) else some (-1, M2))
set_option maxRecDepth 100000 in
theorem lk_X9_clause (l : Launch) (w : zWD) (u1 : Int32) (u2 : Int32) (ho : zKd w 0 = (9, 10)) : zMt l w yX9_clause cX9_clause 4 (some .int) rm_X9_clause 1 [.ref (zA w 0), .int u1, .int u2] (fun M => f_X9_clause u1 u2 M) := by
  refine zMt.of (by decide) [some (.ref (zA w 0)), some (.int u1), some (.int u2), none] rfl (zle rfl) (by intro v hv; simp only [List.mem_cons, List.not_mem_nil, or_false] at hv; rcases hv with rfl | rfl | rfl <;> rfl) ?_
  intro p e s m args below meth c X M
  unfold f_X9_clause
  refine re_aload_n X dX9_clause_0 rfl rfl ?_
  refine re_getR X cl_9 (by decide) fl_RX9_51 ho rfl (zR_9_6 ho) dX9_clause_1 ?_
  refine re_getR X cl_7 (by decide) fl_RX9_132 (zQ_9_6 X.clo ho) rfl (zR_7_4 (zQ_9_6 X.clo ho)) dX9_clause_4 ?_
  refine re_iload_n X dX9_clause_7 rfl rfl ?_
  refine re_callVi X (lk_X4_numberAt l w (21 + 12) u1 (zQ_7_4 X.clo (zQ_9_6 X.clo ho))) (ca_X4_numberAt (by decide) (by decide)) ml_RX9_136 im_X4_numberAt se_X4_numberAt cl_4 (zQ_7_4 X.clo (zQ_9_6 X.clo ho)) rfl rfl rfl (zle rfl) zRo dX9_clause_8 (fun r1 M2 hr1 => ?_)
  refine re_istore_n (lv' := [some (.ref (zA w 0)), some (.int u1), some (.int u2), some (.int r1)]) X dX9_clause_11 rfl (zlt rfl) rfl ?_
  refine re_iload_n X dX9_clause_12 rfl rfl ?_
  refine re_if_ne (tgt := 18) X dX9_clause_13 (by decide) (fun _ => ?_) (fun _ => ?_)
  · refine re_iload_n X dX9_clause_16 rfl rfl ?_
    exact re_iret X dX9_clause_17
  · refine re_iload_n X dX9_clause_18 rfl rfl ?_
    refine re_iconst (v := 1) X dX9_clause_19 (by decide) ?_
    refine re_icmp_ne (tgt := 37) X dX9_clause_20 (by decide) (fun _ => ?_) (fun _ => ?_)
    · refine re_aload_n X dX9_clause_23 rfl rfl ?_
      refine re_getR X cl_9 (by decide) fl_RX9_51 ho rfl (zR_9_6 ho) dX9_clause_24 ?_
      refine re_getR X cl_7 (by decide) fl_RX9_132 (zQ_9_6 X.clo ho) rfl (zR_7_4 (zQ_9_6 X.clo ho)) dX9_clause_27 ?_
      refine re_iload_n X dX9_clause_30 rfl rfl ?_
      refine re_callVi X (lk_X4_textOf l w (21 + 12) r1 (zQ_7_4 X.clo (zQ_9_6 X.clo ho))) (ca_X4_textOf (by decide) (by decide)) ml_RX9_141 im_X4_textOf se_X4_textOf cl_4 (zQ_7_4 X.clo (zQ_9_6 X.clo ho)) rfl rfl rfl (zle rfl) zRo dX9_clause_31 (fun r3 M4 hr3 => ?_)
      refine re_goto (tgt := 38) X dX9_clause_34 (by decide) ?_
      exact re_iret X dX9_clause_38
    · refine re_iconst (v := -1) X dX9_clause_37 (by decide) ?_
      exact re_iret X dX9_clause_38
theorem ca_X9_clause {R : Room} (h1 : rm_X9_clause.frames + 1 ≤ R.frames) (h2 : 8 + (4 + 11) + rm_X9_clause.locals ≤ R.locals) : zCa yX9_clause cX9_clause 4 (some .int) rm_X9_clause R 2 := ⟨cd_X9_clause, iz_RX9, ⟨by decide, by decide, by decide⟩, rfl, rfl, h1, h2⟩
/-! DebateHouse.place -/
abbrev rm_X9_place : Room := { frames := 2, cells := 0, slots := 0, locals := 44 }
def f_X9_place (u1 : Int32) (M : zMem) : zTr := zBd (f_X4_placeOf (21 + 12) u1 M) (fun r1 M2 => some (r1, M2))
set_option maxRecDepth 100000 in
theorem lk_X9_place (l : Launch) (w : zWD) (u1 : Int32) (ho : zKd w 0 = (9, 10)) : zMt l w yX9_place cX9_place 2 (some .int) rm_X9_place 1 [.ref (zA w 0), .int u1] (fun M => f_X9_place u1 M) := by
  refine zMt.of (by decide) [some (.ref (zA w 0)), some (.int u1)] rfl (zle rfl) (by intro v hv; simp only [List.mem_cons, List.not_mem_nil, or_false] at hv; rcases hv with rfl | rfl <;> rfl) ?_
  intro p e s m args below meth c X M
  unfold f_X9_place
  refine re_aload_n X dX9_place_0 rfl rfl ?_
  refine re_getR X cl_9 (by decide) fl_RX9_51 ho rfl (zR_9_6 ho) dX9_place_1 ?_
  refine re_getR X cl_7 (by decide) fl_RX9_132 (zQ_9_6 X.clo ho) rfl (zR_7_4 (zQ_9_6 X.clo ho)) dX9_place_4 ?_
  refine re_iload_n X dX9_place_7 rfl rfl ?_
  refine re_callVi X (lk_X4_placeOf l w (21 + 12) u1 (zQ_7_4 X.clo (zQ_9_6 X.clo ho))) (ca_X4_placeOf (by decide) (by decide)) ml_RX9_144 im_X4_placeOf se_X4_placeOf cl_4 (zQ_7_4 X.clo (zQ_9_6 X.clo ho)) rfl rfl rfl (zle rfl) zRo dX9_place_8 (fun r1 M2 hr1 => ?_)
  exact re_iret X dX9_place_11
theorem ca_X9_place {R : Room} (h1 : rm_X9_place.frames + 1 ≤ R.frames) (h2 : 8 + (2 + 11) + rm_X9_place.locals ≤ R.locals) : zCa yX9_place cX9_place 2 (some .int) rm_X9_place R 1 := ⟨cd_X9_place, iz_RX9, ⟨by decide, by decide, by decide⟩, rfl, rfl, h1, h2⟩
/-! DebateHouse.speeches -/
abbrev rm_X9_speeches : Room := { frames := 1, cells := 0, slots := 0, locals := 20 }
def f_X9_speeches (u1 : Int32) (M : zMem) : zTr := zBd (f_X9_isMember u1 M) (fun r1 M2 => if r1 = 0 then some (-1, M2) else zCk (zIn u1 24) (some (M2 (21 + 3) (zIx u1), M2)))
set_option maxRecDepth 100000 in
theorem lk_X9_speeches (l : Launch) (w : zWD) (u1 : Int32) (ho : zKd w 0 = (9, 10)) : zMt l w yX9_speeches cX9_speeches 2 (some .int) rm_X9_speeches 1 [.ref (zA w 0), .int u1] (fun M => f_X9_speeches u1 M) := by
  refine zMt.of (by decide) [some (.ref (zA w 0)), some (.int u1)] rfl (zle rfl) (by intro v hv; simp only [List.mem_cons, List.not_mem_nil, or_false] at hv; rcases hv with rfl | rfl <;> rfl) ?_
  intro p e s m args below meth c X M
  unfold f_X9_speeches
  refine re_iload_n X dX9_speeches_0 rfl rfl ?_
  refine re_callSz X (lk_X9_isMember l w u1) (ca_X9_isMember (by decide) (by decide)) ml_RX9_98 sm_X9_isMember rfl rfl rfl (zle rfl) zRo dX9_speeches_1 (fun r1 M2 hr1 => ?_)
  refine re_if_eq (tgt := 22) X dX9_speeches_4 (by decide) (fun _ => ?_) (fun _ => ?_)
  · refine re_iconst (v := -1) X dX9_speeches_22 (by decide) ?_
    exact re_iret X dX9_speeches_23
  · refine re_aload_n X dX9_speeches_7 rfl rfl ?_
    refine re_getR X cl_9 (by decide) fl_RX9_51 ho rfl (zR_9_6 ho) dX9_speeches_8 ?_
    refine re_getR X cl_7 (by decide) fl_RX9_147 (zQ_9_6 X.clo ho) rfl (zR_7_2 (zQ_9_6 X.clo ho)) dX9_speeches_11 ?_
    refine re_getR X cl_0 (by decide) fl_RX9_150 (zQ_7_2 X.clo (zQ_9_6 X.clo ho)) rfl (zR_0_3 (zQ_7_2 X.clo (zQ_9_6 X.clo ho))) dX9_speeches_14 ?_
    refine re_iload_n X dX9_speeches_17 rfl rfl ?_
    refine re_ck (fun hi3 => ?_)
    refine re_iald X (zQ_0_3 X.clo (zQ_7_2 X.clo (zQ_9_6 X.clo ho))) hi3 (j := zIx u1) rfl dX9_speeches_18 ?_
    refine re_goto (tgt := 23) X dX9_speeches_19 (by decide) ?_
    exact re_iret X dX9_speeches_23
theorem ca_X9_speeches {R : Room} (h1 : rm_X9_speeches.frames + 1 ≤ R.frames) (h2 : 8 + (2 + 11) + rm_X9_speeches.locals ≤ R.locals) : zCa yX9_speeches cX9_speeches 2 (some .int) rm_X9_speeches R 1 := ⟨cd_X9_speeches, iz_RX9, ⟨by decide, by decide, by decide⟩, rfl, rfl, h1, h2⟩
/-! DebateHouse.waits -/
abbrev rm_X9_waits : Room := { frames := 4, cells := 0, slots := 0, locals := 90 }
def f_X9_waits_L36 (u1 : Int32)  : Nat → Int32 → zMem → zTr
  | 0, _, _ => none
  | n + 1, x2, M => if u1 < x2 then some (M 61 5, M) else zBd (f_X0_callNext 61 (M 21 12) M) (fun _ M4 => f_X9_waits_L36 u1 n (x2 + 1) M4)
def f_X9_waits (u1 : Int32) (M : zMem) : zTr := if u1 < 0 then some (-1, M) else if u1 < (M (21 + 1) 4) then zBd (f_X0_copyFrom 61 (21 + 1) M) (fun _ M2 => f_X9_waits_L36 u1 zFu 0 M2) else some (-1, M)
set_option maxRecDepth 100000 in
theorem lb_X9_waits_36 {p : Program} {l : Launch} {e : Env} {s : State} {m : MethodId} {args : Array Value} {below : List Frame} {meth : Method} {c : Code} {w : zWD} {u1 : Int32} (X : zCx p s m args meth c w (zFree w) RX9 cX9_waits 3 (some .int)) (ho : zKd w 0 = (9, 10)) : ∀ (n : Nat) (x2 : Int32) (M : zMem), zRm p l e rm_X9_waits s m args below meth c w 1 36 [some (.ref (zA w 0)), some (.int u1), some (.int x2)] [] M (f_X9_waits_L36 u1 n x2 M) := by
  intro n
  induction n with
  | zero => intro x2 M; exact re_none
  | succ n ih =>
    intro x2 M
    rw [f_X9_waits_L36]
    refine re_iload_n X dX9_waits_36 rfl rfl ?_
    refine re_iload_n X dX9_waits_37 rfl rfl ?_
    refine re_icmp_gt (tgt := 61) X dX9_waits_38 (by decide) (fun _ => ?_) (fun _ => ?_)
    · refine re_aload_n X dX9_waits_61 rfl rfl ?_
      refine re_getR X cl_9 (by decide) fl_RX9_63 ho rfl (zR_9_8 ho) dX9_waits_62 ?_
      refine re_getI X cl_0 (by decide) fl_RX9_165 (zQ_9_8 X.clo ho) rfl dX9_waits_65 ?_
      exact re_iret X dX9_waits_68
    · refine re_aload_n X dX9_waits_41 rfl rfl ?_
      refine re_getR X cl_9 (by decide) fl_RX9_63 ho rfl (zR_9_8 ho) dX9_waits_42 ?_
      refine re_aload_n X dX9_waits_45 rfl rfl ?_
      refine re_getR X cl_9 (by decide) fl_RX9_51 ho rfl (zR_9_6 ho) dX9_waits_46 ?_
      refine re_getI X cl_7 (by decide) fl_RX9_159 (zQ_9_6 X.clo ho) rfl dX9_waits_49 ?_
      refine re_callVv X (lk_X0_callNext l w 61 (M 21 12) (zQ_9_8 X.clo ho)) (ca_X0_callNext (by decide) (by decide)) ml_RX9_162 im_X0_callNext se_X0_callNext cl_0 (zQ_9_8 X.clo ho) rfl rfl rfl (zle rfl) zRo dX9_waits_52 (fun r3 M4 hr3 => ?_)
      refine re_iinc (v := 1) (lv' := [some (.ref (zA w 0)), some (.int u1), some (.int (x2 + 1))]) X dX9_waits_55 rfl (by decide) rfl ?_
      refine re_goto (tgt := 36) X dX9_waits_58 (by decide) ?_
      exact ih (x2 + 1) M4

set_option maxRecDepth 100000 in
theorem lk_X9_waits (l : Launch) (w : zWD) (u1 : Int32) (ho : zKd w 0 = (9, 10)) : zMt l w yX9_waits cX9_waits 3 (some .int) rm_X9_waits 1 [.ref (zA w 0), .int u1] (fun M => f_X9_waits u1 M) := by
  refine zMt.of (by decide) [some (.ref (zA w 0)), some (.int u1), none] rfl (zle rfl) (by intro v hv; simp only [List.mem_cons, List.not_mem_nil, or_false] at hv; rcases hv with rfl | rfl <;> rfl) ?_
  intro p e s m args below meth c X M
  unfold f_X9_waits
  refine re_iload_n X dX9_waits_0 rfl rfl ?_
  refine re_if_lt (tgt := 18) X dX9_waits_1 (by decide) (fun _ => ?_) (fun _ => ?_)
  · refine re_iconst (v := -1) X dX9_waits_18 (by decide) ?_
    exact re_iret X dX9_waits_19
  · refine re_iload_n X dX9_waits_4 rfl rfl ?_
    refine re_aload_n X dX9_waits_5 rfl rfl ?_
    refine re_getR X cl_9 (by decide) fl_RX9_51 ho rfl (zR_9_6 ho) dX9_waits_6 ?_
    refine re_getR X cl_7 (by decide) fl_RX9_147 (zQ_9_6 X.clo ho) rfl (zR_7_2 (zQ_9_6 X.clo ho)) dX9_waits_9 ?_
    refine re_getI X cl_0 (by decide) fl_RX9_153 (zQ_7_2 X.clo (zQ_9_6 X.clo ho)) rfl dX9_waits_12 ?_
    refine re_icmp_lt (tgt := 20) X dX9_waits_15 (by decide) (fun _ => ?_) (fun _ => ?_)
    · refine re_aload_n X dX9_waits_20 rfl rfl ?_
      refine re_getR X cl_9 (by decide) fl_RX9_63 ho rfl (zR_9_8 ho) dX9_waits_21 ?_
      refine re_aload_n X dX9_waits_24 rfl rfl ?_
      refine re_getR X cl_9 (by decide) fl_RX9_51 ho rfl (zR_9_6 ho) dX9_waits_25 ?_
      refine re_getR X cl_7 (by decide) fl_RX9_147 (zQ_9_6 X.clo ho) rfl (zR_7_2 (zQ_9_6 X.clo ho)) dX9_waits_28 ?_
      refine re_callVv X (lk_X0_copyFrom l w 61 (21 + 1) (zQ_9_8 X.clo ho) (zQ_7_2 X.clo (zQ_9_6 X.clo ho))) (ca_X0_copyFrom (by decide) (by decide)) ml_RX9_156 im_X0_copyFrom se_X0_copyFrom cl_0 (zQ_9_8 X.clo ho) rfl rfl rfl (zle rfl) zRo dX9_waits_31 (fun r1 M2 hr1 => ?_)
      refine re_iconst (v := 0) X dX9_waits_34 (by decide) ?_
      refine re_istore_n (lv' := [some (.ref (zA w 0)), some (.int u1), some (.int 0)]) X dX9_waits_35 rfl (zlt rfl) rfl ?_
      exact lb_X9_waits_36 X ho zFu 0 M2
    · refine re_iconst (v := -1) X dX9_waits_18 (by decide) ?_
      exact re_iret X dX9_waits_19
theorem ca_X9_waits {R : Room} (h1 : rm_X9_waits.frames + 1 ≤ R.frames) (h2 : 8 + (3 + 11) + rm_X9_waits.locals ≤ R.locals) : zCa yX9_waits cX9_waits 3 (some .int) rm_X9_waits R 1 := ⟨cd_X9_waits, iz_RX9, ⟨by decide, by decide, by decide⟩, rfl, rfl, h1, h2⟩
/-! DebateHouse.overturned -/
abbrev rm_X9_overturned : Room := { frames := 3, cells := 0, slots := 0, locals := 62 }
def f_X9_overturned (u1 : Int32) (M : zMem) : zTr := zBd (f_X7_overturnedOf 21 u1 M) (fun r1 M2 => some (r1, M2))
set_option maxRecDepth 100000 in
theorem lk_X9_overturned (l : Launch) (w : zWD) (u1 : Int32) (ho : zKd w 0 = (9, 10)) : zMt l w yX9_overturned cX9_overturned 2 (some .int) rm_X9_overturned 1 [.ref (zA w 0), .int u1] (fun M => f_X9_overturned u1 M) := by
  refine zMt.of (by decide) [some (.ref (zA w 0)), some (.int u1)] rfl (zle rfl) (by intro v hv; simp only [List.mem_cons, List.not_mem_nil, or_false] at hv; rcases hv with rfl | rfl <;> rfl) ?_
  intro p e s m args below meth c X M
  unfold f_X9_overturned
  refine re_aload_n X dX9_overturned_0 rfl rfl ?_
  refine re_getR X cl_9 (by decide) fl_RX9_51 ho rfl (zR_9_6 ho) dX9_overturned_1 ?_
  refine re_iload_n X dX9_overturned_4 rfl rfl ?_
  refine re_callVi X (lk_X7_overturnedOf l w 21 u1 (zQ_9_6 X.clo ho)) (ca_X7_overturnedOf (by decide) (by decide)) ml_RX9_168 im_X7_overturnedOf se_X7_overturnedOf cl_7 (zQ_9_6 X.clo ho) rfl rfl rfl (zle rfl) zRo dX9_overturned_5 (fun r1 M2 hr1 => ?_)
  exact re_iret X dX9_overturned_8
theorem ca_X9_overturned {R : Room} (h1 : rm_X9_overturned.frames + 1 ≤ R.frames) (h2 : 8 + (2 + 11) + rm_X9_overturned.locals ≤ R.locals) : zCa yX9_overturned cX9_overturned 2 (some .int) rm_X9_overturned R 1 := ⟨cd_X9_overturned, iz_RX9, ⟨by decide, by decide, by decide⟩, rfl, rfl, h1, h2⟩
/-! DebateHouse.beside -/
abbrev rm_X9_beside : Room := { frames := 7, cells := 0, slots := 0, locals := 165 }
def f_X9_beside_B66 (u1 : Int32) (u2 : Int32)  (M : zMem) : zTr := if u2 < 400 then (if u2 < 11 then zBd (f_X7_tell 41 u2 M) (fun r3 M4 => some (r3, M4)) else zBd (f_X7_rulingOf 41 (u2 - 11) M) (fun r5 M6 => some (r5, M6))) else zBd (f_X4_numberAt (41 + 12) (u2 - 400) M) (fun r7 M8 => zBd (f_X4_textOf (41 + 12) r7 M8) (fun r9 M10 => some (r9, M10)))
def f_X9_beside_B52 (u1 : Int32) (u2 : Int32) (k26 : Int32 → zMem → zTr) (x3 : Int32) (y0 : Int32) (y1 : Int32) (M : zMem) : zTr := zBd (f_X7_work 41 y1 y0 M) (fun r11 M12 => if r11 = 0 then some (-1, M12) else k26 (x3 + 1) M12)
def f_X9_beside_L26 (u1 : Int32) (u2 : Int32)  : Nat → Int32 → zMem → zTr
  | 0, _, _ => none
  | n + 1, x3, M => if (M 15 5) ≤ x3 then f_X9_beside_B66 u1 u2 M else if x3 = u1 then f_X9_beside_B52 u1 u2 (fun x3 M => f_X9_beside_L26 u1 u2 n x3 M) x3 1 x3 M else f_X9_beside_B52 u1 u2 (fun x3 M => f_X9_beside_L26 u1 u2 n x3 M) x3 0 x3 M
def f_X9_beside (u1 : Int32) (u2 : Int32) (M : zMem) : zTr := if u1 < 0 then some (-1, M) else if u1 < (M 15 5) then zBd (f_X7_startAnew 41 M) (fun _ M2 => f_X9_beside_L26 u1 u2 zFu 0 M2) else some (-1, M)
set_option maxRecDepth 100000 in
theorem lb_X9_beside_66 {p : Program} {l : Launch} {e : Env} {s : State} {m : MethodId} {args : Array Value} {below : List Frame} {meth : Method} {c : Code} {w : zWD} {u1 : Int32} {u2 : Int32} (X : zCx p s m args meth c w (zFree w) RX9 cX9_beside 4 (some .int)) (ho : zKd w 0 = (9, 10)) : ∀ (M : zMem), zRm p l e rm_X9_beside s m args below meth c w 1 66 [some (.ref (zA w 0)), none, some (.int u2), none] [] M (f_X9_beside_B66 u1 u2 M) := by
  intro M
  unfold f_X9_beside_B66
  refine re_iload_n X dX9_beside_66 rfl rfl ?_
  refine re_sipush (v := 400) X dX9_beside_67 (by decide) ?_
  refine re_icmp_lt (tgt := 99) X dX9_beside_70 (by decide) (fun _ => ?_) (fun _ => ?_)
  · refine re_iload_n X dX9_beside_99 rfl rfl ?_
    refine re_bipush (v := 11) X dX9_beside_100 (by decide) ?_
    refine re_icmp_lt (tgt := 117) X dX9_beside_102 (by decide) (fun _ => ?_) (fun _ => ?_)
    · refine re_aload_n X dX9_beside_117 rfl rfl ?_
      refine re_getR X cl_9 (by decide) fl_RX9_55 ho rfl (zR_9_7 ho) dX9_beside_118 ?_
      refine re_iload_n X dX9_beside_121 rfl rfl ?_
      refine re_callVi X (lk_X7_tell l w 41 u2 (zQ_9_7 X.clo ho)) (ca_X7_tell (by decide) (by decide)) ml_RX9_120 im_X7_tell se_X7_tell cl_7 (zQ_9_7 X.clo ho) rfl rfl rfl (zle rfl) zRo dX9_beside_122 (fun r3 M4 hr3 => ?_)
      exact re_iret X dX9_beside_125
    · refine re_aload_n X dX9_beside_105 rfl rfl ?_
      refine re_getR X cl_9 (by decide) fl_RX9_55 ho rfl (zR_9_7 ho) dX9_beside_106 ?_
      refine re_iload_n X dX9_beside_109 rfl rfl ?_
      refine re_bipush (v := 11) X dX9_beside_110 (by decide) ?_
      refine re_isub X dX9_beside_112 ?_
      refine re_callVi X (lk_X7_rulingOf l w 41 (u2 - 11) (zQ_9_7 X.clo ho)) (ca_X7_rulingOf (by decide) (by decide)) ml_RX9_113 im_X7_rulingOf se_X7_rulingOf cl_7 (zQ_9_7 X.clo ho) rfl rfl rfl (zle rfl) zRo dX9_beside_113 (fun r5 M6 hr5 => ?_)
      exact re_iret X dX9_beside_116
  · refine re_aload_n X dX9_beside_73 rfl rfl ?_
    refine re_getR X cl_9 (by decide) fl_RX9_55 ho rfl (zR_9_7 ho) dX9_beside_74 ?_
    refine re_getR X cl_7 (by decide) fl_RX9_132 (zQ_9_7 X.clo ho) rfl (zR_7_4 (zQ_9_7 X.clo ho)) dX9_beside_77 ?_
    refine re_aload_n X dX9_beside_80 rfl rfl ?_
    refine re_getR X cl_9 (by decide) fl_RX9_55 ho rfl (zR_9_7 ho) dX9_beside_81 ?_
    refine re_getR X cl_7 (by decide) fl_RX9_132 (zQ_9_7 X.clo ho) rfl (zR_7_4 (zQ_9_7 X.clo ho)) dX9_beside_84 ?_
    refine re_iload_n X dX9_beside_87 rfl rfl ?_
    refine re_sipush (v := 400) X dX9_beside_88 (by decide) ?_
    refine re_isub X dX9_beside_91 ?_
    refine re_callVi X (lk_X4_numberAt l w (41 + 12) (u2 - 400) (zQ_7_4 X.clo (zQ_9_7 X.clo ho))) (ca_X4_numberAt (by decide) (by decide)) ml_RX9_136 im_X4_numberAt se_X4_numberAt cl_4 (zQ_7_4 X.clo (zQ_9_7 X.clo ho)) rfl rfl rfl (zle rfl) zRo dX9_beside_92 (fun r7 M8 hr7 => ?_)
    refine re_callVi X (lk_X4_textOf l w (41 + 12) r7 (zQ_7_4 X.clo (zQ_9_7 X.clo ho))) (ca_X4_textOf (by decide) (by decide)) ml_RX9_141 im_X4_textOf se_X4_textOf cl_4 (zQ_7_4 X.clo (zQ_9_7 X.clo ho)) rfl rfl rfl (zle rfl) zRo dX9_beside_95 (fun r9 M10 hr9 => ?_)
    exact re_iret X dX9_beside_98

set_option maxRecDepth 100000 in
theorem lb_X9_beside_52 {p : Program} {l : Launch} {e : Env} {s : State} {m : MethodId} {args : Array Value} {below : List Frame} {meth : Method} {c : Code} {w : zWD} {u1 : Int32} {u2 : Int32} (X : zCx p s m args meth c w (zFree w) RX9 cX9_beside 4 (some .int)) (ho : zKd w 0 = (9, 10)) (k26 : Int32 → zMem → zTr) (hk26 : ∀ (x3 : Int32) (M : zMem), zRm p l e rm_X9_beside s m args below meth c w 1 26 [some (.ref (zA w 0)), some (.int u1), some (.int u2), some (.int x3)] [] M (k26 x3 M)) : ∀ (x3 : Int32) (y0 : Int32) (y1 : Int32) (M : zMem), zRm p l e rm_X9_beside s m args below meth c w 1 52 [some (.ref (zA w 0)), some (.int u1), some (.int u2), some (.int x3)] [.int y0, .int y1, .ref (zA w 41)] M (f_X9_beside_B52 u1 u2 k26 x3 y0 y1 M) := by
  intro x3 y0 y1 M
  unfold f_X9_beside_B52
  refine re_callVz X (lk_X7_work l w 41 y1 y0 (zQ_9_7 X.clo ho)) (ca_X7_work (by decide) (by decide)) ml_RX9_109 im_X7_work se_X7_work cl_7 (zQ_9_7 X.clo ho) rfl rfl rfl (zle rfl) zRo dX9_beside_52 (fun r11 M12 hr11 => ?_)
  refine re_if_ne (tgt := 60) X dX9_beside_55 (by decide) (fun _ => ?_) (fun _ => ?_)
  · refine re_iconst (v := -1) X dX9_beside_58 (by decide) ?_
    exact re_iret X dX9_beside_59
  · refine re_iinc (v := 1) (lv' := [some (.ref (zA w 0)), some (.int u1), some (.int u2), some (.int (x3 + 1))]) X dX9_beside_60 rfl (by decide) rfl ?_
    refine re_goto (tgt := 26) X dX9_beside_63 (by decide) ?_
    exact hk26 (x3 + 1) M12

set_option maxRecDepth 100000 in
theorem lb_X9_beside_26 {p : Program} {l : Launch} {e : Env} {s : State} {m : MethodId} {args : Array Value} {below : List Frame} {meth : Method} {c : Code} {w : zWD} {u1 : Int32} {u2 : Int32} (X : zCx p s m args meth c w (zFree w) RX9 cX9_beside 4 (some .int)) (ho : zKd w 0 = (9, 10)) : ∀ (n : Nat) (x3 : Int32) (M : zMem), zRm p l e rm_X9_beside s m args below meth c w 1 26 [some (.ref (zA w 0)), some (.int u1), some (.int u2), some (.int x3)] [] M (f_X9_beside_L26 u1 u2 n x3 M) := by
  intro n
  induction n with
  | zero => intro x3 M; exact re_none
  | succ n ih =>
    intro x3 M
    rw [f_X9_beside_L26]
    refine re_iload_n X dX9_beside_26 rfl rfl ?_
    refine re_aload_n X dX9_beside_27 rfl rfl ?_
    refine re_getR X cl_9 (by decide) fl_RX9_42 ho rfl (zR_9_5 ho) dX9_beside_28 ?_
    refine re_getI X cl_2 (by decide) fl_RX9_84 (zQ_9_5 X.clo ho) rfl dX9_beside_31 ?_
    refine re_icmp_ge (tgt := 66) X dX9_beside_34 (by decide) (fun _ => ?_) (fun _ => ?_)
    · exact re_sub (lb_X9_beside_66 X ho M) ⟨rfl, ⟨rfl, trivial⟩⟩
    · refine re_aload_n X dX9_beside_37 rfl rfl ?_
      refine re_getR X cl_9 (by decide) fl_RX9_55 ho rfl (zR_9_7 ho) dX9_beside_38 ?_
      refine re_iload_n X dX9_beside_41 rfl rfl ?_
      refine re_iload_n X dX9_beside_42 rfl rfl ?_
      refine re_iload_n X dX9_beside_43 rfl rfl ?_
      refine re_icmp_ne (tgt := 51) X dX9_beside_44 (by decide) (fun _ => ?_) (fun _ => ?_)
      · refine re_iconst (v := 1) X dX9_beside_47 (by decide) ?_
        refine re_goto (tgt := 52) X dX9_beside_48 (by decide) ?_
        exact lb_X9_beside_52 X ho _ ih x3 1 x3 M
      · refine re_iconst (v := 0) X dX9_beside_51 (by decide) ?_
        exact lb_X9_beside_52 X ho _ ih x3 0 x3 M

set_option maxRecDepth 100000 in
theorem lk_X9_beside (l : Launch) (w : zWD) (u1 : Int32) (u2 : Int32) (ho : zKd w 0 = (9, 10)) : zMt l w yX9_beside cX9_beside 4 (some .int) rm_X9_beside 1 [.ref (zA w 0), .int u1, .int u2] (fun M => f_X9_beside u1 u2 M) := by
  refine zMt.of (by decide) [some (.ref (zA w 0)), some (.int u1), some (.int u2), none] rfl (zle rfl) (by intro v hv; simp only [List.mem_cons, List.not_mem_nil, or_false] at hv; rcases hv with rfl | rfl | rfl <;> rfl) ?_
  intro p e s m args below meth c X M
  unfold f_X9_beside
  refine re_iload_n X dX9_beside_0 rfl rfl ?_
  refine re_if_lt (tgt := 15) X dX9_beside_1 (by decide) (fun _ => ?_) (fun _ => ?_)
  · refine re_iconst (v := -1) X dX9_beside_15 (by decide) ?_
    exact re_iret X dX9_beside_16
  · refine re_iload_n X dX9_beside_4 rfl rfl ?_
    refine re_aload_n X dX9_beside_5 rfl rfl ?_
    refine re_getR X cl_9 (by decide) fl_RX9_42 ho rfl (zR_9_5 ho) dX9_beside_6 ?_
    refine re_getI X cl_2 (by decide) fl_RX9_84 (zQ_9_5 X.clo ho) rfl dX9_beside_9 ?_
    refine re_icmp_lt (tgt := 17) X dX9_beside_12 (by decide) (fun _ => ?_) (fun _ => ?_)
    · refine re_aload_n X dX9_beside_17 rfl rfl ?_
      refine re_getR X cl_9 (by decide) fl_RX9_55 ho rfl (zR_9_7 ho) dX9_beside_18 ?_
      refine re_callVv X (lk_X7_startAnew l w 41 (zQ_9_7 X.clo ho)) (ca_X7_startAnew (by decide) (by decide)) ml_RX9_95 im_X7_startAnew se_X7_startAnew cl_7 (zQ_9_7 X.clo ho) rfl rfl rfl (zle rfl) zRo dX9_beside_21 (fun r1 M2 hr1 => ?_)
      refine re_iconst (v := 0) X dX9_beside_24 (by decide) ?_
      refine re_istore_n (lv' := [some (.ref (zA w 0)), some (.int u1), some (.int u2), some (.int 0)]) X dX9_beside_25 rfl (zlt rfl) rfl ?_
      exact lb_X9_beside_26 X ho zFu 0 M2
    · refine re_iconst (v := -1) X dX9_beside_15 (by decide) ?_
      exact re_iret X dX9_beside_16
theorem ca_X9_beside {R : Room} (h1 : rm_X9_beside.frames + 1 ≤ R.frames) (h2 : 8 + (4 + 11) + rm_X9_beside.locals ≤ R.locals) : zCa yX9_beside cX9_beside 4 (some .int) rm_X9_beside R 2 := ⟨cd_X9_beside, iz_RX9, ⟨by decide, by decide, by decide⟩, rfl, rfl, h1, h2⟩
/-! DebateHouse.score -/
abbrev rm_X9_score : Room := { frames := 2, cells := 0, slots := 0, locals := 44 }
def f_X9_score (u1 : Int32) (u2 : Int32) (u3 : Int32) (u4 : Int32) (M : zMem) : zTr := zBd (f_X1_take u1 u2 u3 u4 M) (fun r1 M2 => some (r1, M2))
set_option maxRecDepth 100000 in
theorem lk_X9_score (l : Launch) (w : zWD) (u1 : Int32) (u2 : Int32) (u3 : Int32) (u4 : Int32) (ho : zKd w 0 = (9, 10)) : zMt l w yX9_score cX9_score 5 (some .boolean) rm_X9_score 2 [.ref (zA w 0), .int u1, .int u2, .int u3, .int u4] (fun M => f_X9_score u1 u2 u3 u4 M) := by
  refine zMt.of (by decide) [some (.ref (zA w 0)), some (.int u1), some (.int u2), some (.int u3), some (.int u4)] rfl (zle rfl) (by intro v hv; simp only [List.mem_cons, List.not_mem_nil, or_false] at hv; rcases hv with rfl | rfl | rfl | rfl | rfl <;> rfl) ?_
  intro p e s m args below meth c X M
  unfold f_X9_score
  refine re_aload_n X dX9_score_0 rfl rfl ?_
  refine re_getR X cl_9 (by decide) fl_RX9_72 ho rfl (zR_9_9 ho) dX9_score_1 ?_
  refine re_iload_n X dX9_score_4 rfl rfl ?_
  refine re_iload_n X dX9_score_5 rfl rfl ?_
  refine re_iload_n X dX9_score_6 rfl rfl ?_
  refine re_iload X dX9_score_7 rfl ?_
  refine re_callVz X (lk_X1_take l w u1 u2 u3 u4 (zQ_9_9 X.clo ho)) (ca_X1_take (by decide) (by decide)) ml_RX9_171 im_X1_take se_X1_take cl_1 (zQ_9_9 X.clo ho) rfl rfl rfl (zle rfl) zRo dX9_score_9 (fun r1 M2 hr1 => ?_)
  exact re_zret X hr1 dX9_score_12
theorem ca_X9_score {R : Room} (h1 : rm_X9_score.frames + 1 ≤ R.frames) (h2 : 8 + (5 + 11) + rm_X9_score.locals ≤ R.locals) : zCa yX9_score cX9_score 5 (some .boolean) rm_X9_score R 4 := ⟨cd_X9_score, iz_RX9, ⟨by decide, by decide, by decide⟩, rfl, rfl, h1, h2⟩
/-! DebateHouse.mean -/
abbrev rm_X9_mean : Room := { frames := 4, cells := 0, slots := 0, locals := 91 }
def f_X9_mean (u1 : Int32) (M : zMem) : zTr := zBd (f_X1_meanOf u1 M) (fun r1 M2 => some (r1, M2))
set_option maxRecDepth 100000 in
theorem lk_X9_mean (l : Launch) (w : zWD) (u1 : Int32) (ho : zKd w 0 = (9, 10)) : zMt l w yX9_mean cX9_mean 2 (some .int) rm_X9_mean 1 [.ref (zA w 0), .int u1] (fun M => f_X9_mean u1 M) := by
  refine zMt.of (by decide) [some (.ref (zA w 0)), some (.int u1)] rfl (zle rfl) (by intro v hv; simp only [List.mem_cons, List.not_mem_nil, or_false] at hv; rcases hv with rfl | rfl <;> rfl) ?_
  intro p e s m args below meth c X M
  unfold f_X9_mean
  refine re_aload_n X dX9_mean_0 rfl rfl ?_
  refine re_getR X cl_9 (by decide) fl_RX9_72 ho rfl (zR_9_9 ho) dX9_mean_1 ?_
  refine re_iload_n X dX9_mean_4 rfl rfl ?_
  refine re_callVi X (lk_X1_meanOf l w u1 (zQ_9_9 X.clo ho)) (ca_X1_meanOf (by decide) (by decide)) ml_RX9_175 im_X1_meanOf se_X1_meanOf cl_1 (zQ_9_9 X.clo ho) rfl rfl rfl (zle rfl) zRo dX9_mean_5 (fun r1 M2 hr1 => ?_)
  exact re_iret X dX9_mean_8
theorem ca_X9_mean {R : Room} (h1 : rm_X9_mean.frames + 1 ≤ R.frames) (h2 : 8 + (2 + 11) + rm_X9_mean.locals ≤ R.locals) : zCa yX9_mean cX9_mean 2 (some .int) rm_X9_mean R 1 := ⟨cd_X9_mean, iz_RX9, ⟨by decide, by decide, by decide⟩, rfl, rfl, h1, h2⟩
/-! DebateHouse.award -/
abbrev rm_X9_award : Room := { frames := 5, cells := 0, slots := 0, locals := 113 }
def f_X9_award (u1 : Int32) (M : zMem) : zTr := zBd (f_X1_memberAt u1 M) (fun r1 M2 => some (r1, M2))
set_option maxRecDepth 100000 in
theorem lk_X9_award (l : Launch) (w : zWD) (u1 : Int32) (ho : zKd w 0 = (9, 10)) : zMt l w yX9_award cX9_award 2 (some .int) rm_X9_award 1 [.ref (zA w 0), .int u1] (fun M => f_X9_award u1 M) := by
  refine zMt.of (by decide) [some (.ref (zA w 0)), some (.int u1)] rfl (zle rfl) (by intro v hv; simp only [List.mem_cons, List.not_mem_nil, or_false] at hv; rcases hv with rfl | rfl <;> rfl) ?_
  intro p e s m args below meth c X M
  unfold f_X9_award
  refine re_aload_n X dX9_award_0 rfl rfl ?_
  refine re_getR X cl_9 (by decide) fl_RX9_72 ho rfl (zR_9_9 ho) dX9_award_1 ?_
  refine re_iload_n X dX9_award_4 rfl rfl ?_
  refine re_callVi X (lk_X1_memberAt l w u1 (zQ_9_9 X.clo ho)) (ca_X1_memberAt (by decide) (by decide)) ml_RX9_178 im_X1_memberAt se_X1_memberAt cl_1 (zQ_9_9 X.clo ho) rfl rfl rfl (zle rfl) zRo dX9_award_5 (fun r1 M2 hr1 => ?_)
  exact re_iret X dX9_award_8
theorem ca_X9_award {R : Room} (h1 : rm_X9_award.frames + 1 ≤ R.frames) (h2 : 8 + (2 + 11) + rm_X9_award.locals ≤ R.locals) : zCa yX9_award cX9_award 2 (some .int) rm_X9_award R 1 := ⟨cd_X9_award, iz_RX9, ⟨by decide, by decide, by decide⟩, rfl, rfl, h1, h2⟩
/-! DebateHouse.told -/
abbrev rm_X9_told : Room := { frames := 0, cells := 0, slots := 0, locals := 0 }
def f_X9_told_B45 (u1 : Int32)  (M : zMem) : zTr := if u1 = 10 then some (M 3 4, M) else if u1 = 11 then some (M 3 5, M) else if u1 = 12 then (if (M 3 6) = 0 then some (0, M) else some (1, M)) else if u1 = 13 then (if (M 3 7) = 0 then some (0, M) else some (1, M)) else if u1 = 30 then some (M 1 1, M) else some (-1, M)
def f_X9_told_B20 (u1 : Int32)  (M : zMem) : zTr := if u1 < 20 then f_X9_told_B45 u1 M else if 28 ≤ u1 then f_X9_told_B45 u1 M else zCk (zIn (u1 - 20) 8) (some (M (3 + 2) (zIx (u1 - 20)), M))
def f_X9_told (u1 : Int32) (M : zMem) : zTr := if u1 < 0 then f_X9_told_B20 u1 M else if 8 ≤ u1 then f_X9_told_B20 u1 M else zCk (zIn u1 8) (some (M (3 + 1) (zIx u1), M))
set_option maxRecDepth 100000 in
theorem lb_X9_told_45 {p : Program} {l : Launch} {e : Env} {s : State} {m : MethodId} {args : Array Value} {below : List Frame} {meth : Method} {c : Code} {w : zWD} {u1 : Int32} (X : zCx p s m args meth c w (zFree w) RX9 cX9_told 2 (some .int)) (ho : zKd w 0 = (9, 10)) : ∀ (M : zMem), zRm p l e rm_X9_told s m args below meth c w 1 45 [some (.ref (zA w 0)), some (.int u1)] [] M (f_X9_told_B45 u1 M) := by
  intro M
  unfold f_X9_told_B45
  refine re_iload_n X dX9_told_45 rfl rfl ?_
  refine re_if (fun e1 => ?_) (fun e1 => ?_)
  · refine re_lsw (off := 50) (tgt := 96) X dX9_told_46 (by decide) (by rw [e1]; first | done | rfl | decide +kernel) (by decide) ?_
    refine re_aload_n X dX9_told_96 rfl rfl ?_
    refine re_getR X cl_9 (by decide) fl_RX9_19 ho rfl (zR_9_1 ho) dX9_told_97 ?_
    refine re_getI X cl_6 (by decide) fl_RX9_187 (zQ_9_1 X.clo ho) rfl dX9_told_100 ?_
    exact re_iret X dX9_told_103
  refine re_if (fun e2 => ?_) (fun e2 => ?_)
  · refine re_lsw (off := 58) (tgt := 104) X dX9_told_46 (by decide) (by rw [e2]; first | done | rfl | decide +kernel) (by decide) ?_
    refine re_aload_n X dX9_told_104 rfl rfl ?_
    refine re_getR X cl_9 (by decide) fl_RX9_19 ho rfl (zR_9_1 ho) dX9_told_105 ?_
    refine re_getI X cl_6 (by decide) fl_RX9_188 (zQ_9_1 X.clo ho) rfl dX9_told_108 ?_
    exact re_iret X dX9_told_111
  refine re_if (fun e3 => ?_) (fun e3 => ?_)
  · refine re_lsw (off := 66) (tgt := 112) X dX9_told_46 (by decide) (by rw [e3]; first | done | rfl | decide +kernel) (by decide) ?_
    refine re_aload_n X dX9_told_112 rfl rfl ?_
    refine re_getR X cl_9 (by decide) fl_RX9_19 ho rfl (zR_9_1 ho) dX9_told_113 ?_
    refine re_getI X cl_6 (by decide) fl_RX9_191 (zQ_9_1 X.clo ho) rfl dX9_told_116 ?_
    refine re_if_eq (tgt := 126) X dX9_told_119 (by decide) (fun _ => ?_) (fun _ => ?_)
    · refine re_iconst (v := 0) X dX9_told_126 (by decide) ?_
      exact re_iret X dX9_told_127
    · refine re_iconst (v := 1) X dX9_told_122 (by decide) ?_
      refine re_goto (tgt := 127) X dX9_told_123 (by decide) ?_
      exact re_iret X dX9_told_127
  refine re_if (fun e4 => ?_) (fun e4 => ?_)
  · refine re_lsw (off := 82) (tgt := 128) X dX9_told_46 (by decide) (by rw [e4]; first | done | rfl | decide +kernel) (by decide) ?_
    refine re_aload_n X dX9_told_128 rfl rfl ?_
    refine re_getR X cl_9 (by decide) fl_RX9_19 ho rfl (zR_9_1 ho) dX9_told_129 ?_
    refine re_getI X cl_6 (by decide) fl_RX9_195 (zQ_9_1 X.clo ho) rfl dX9_told_132 ?_
    refine re_if_eq (tgt := 142) X dX9_told_135 (by decide) (fun _ => ?_) (fun _ => ?_)
    · refine re_iconst (v := 0) X dX9_told_142 (by decide) ?_
      exact re_iret X dX9_told_143
    · refine re_iconst (v := 1) X dX9_told_138 (by decide) ?_
      refine re_goto (tgt := 143) X dX9_told_139 (by decide) ?_
      exact re_iret X dX9_told_143
  refine re_if (fun e5 => ?_) (fun e5 => ?_)
  · refine re_lsw (off := 98) (tgt := 144) X dX9_told_46 (by decide) (by rw [e5]; first | done | rfl | decide +kernel) (by decide) ?_
    refine re_aload_n X dX9_told_144 rfl rfl ?_
    refine re_getR X cl_9 (by decide) fl_RX9_12 ho rfl (zR_9_0 ho) dX9_told_145 ?_
    refine re_getI X cl_8 (by decide) fl_RX9_76 (zQ_9_0 X.clo ho) rfl dX9_told_148 ?_
    exact re_iret X dX9_told_151
  refine re_lsw (off := 106) (tgt := 152) X dX9_told_46 (by decide) (by rw [lv_osw e1 (by decide), lv_osw e2 (by decide), lv_osw e3 (by decide), lv_osw e4 (by decide), lv_osw e5 (by decide)]; first | done | rfl) (by decide) ?_
  refine re_iconst (v := -1) X dX9_told_152 (by decide) ?_
  exact re_iret X dX9_told_153

set_option maxRecDepth 100000 in
theorem lb_X9_told_20 {p : Program} {l : Launch} {e : Env} {s : State} {m : MethodId} {args : Array Value} {below : List Frame} {meth : Method} {c : Code} {w : zWD} {u1 : Int32} (X : zCx p s m args meth c w (zFree w) RX9 cX9_told 2 (some .int)) (ho : zKd w 0 = (9, 10)) : ∀ (M : zMem), zRm p l e rm_X9_told s m args below meth c w 1 20 [some (.ref (zA w 0)), some (.int u1)] [] M (f_X9_told_B20 u1 M) := by
  intro M
  unfold f_X9_told_B20
  refine re_iload_n X dX9_told_20 rfl rfl ?_
  refine re_bipush (v := 20) X dX9_told_21 (by decide) ?_
  refine re_icmp_lt (tgt := 45) X dX9_told_23 (by decide) (fun _ => ?_) (fun _ => ?_)
  · exact lb_X9_told_45 X ho M
  · refine re_iload_n X dX9_told_26 rfl rfl ?_
    refine re_bipush (v := 28) X dX9_told_27 (by decide) ?_
    refine re_icmp_ge (tgt := 45) X dX9_told_29 (by decide) (fun _ => ?_) (fun _ => ?_)
    · exact lb_X9_told_45 X ho M
    · refine re_aload_n X dX9_told_32 rfl rfl ?_
      refine re_getR X cl_9 (by decide) fl_RX9_19 ho rfl (zR_9_1 ho) dX9_told_33 ?_
      refine re_getR X cl_6 (by decide) fl_RX9_184 (zQ_9_1 X.clo ho) rfl (zR_6_1 (zQ_9_1 X.clo ho)) dX9_told_36 ?_
      refine re_iload_n X dX9_told_39 rfl rfl ?_
      refine re_bipush (v := 20) X dX9_told_40 (by decide) ?_
      refine re_isub X dX9_told_42 ?_
      refine re_ck (fun hi6 => ?_)
      refine re_iald X (zQ_6_1 X.clo (zQ_9_1 X.clo ho)) hi6 (j := zIx (u1 - 20)) rfl dX9_told_43 ?_
      exact re_iret X dX9_told_44

set_option maxRecDepth 100000 in
theorem lk_X9_told (l : Launch) (w : zWD) (u1 : Int32) (ho : zKd w 0 = (9, 10)) : zMt l w yX9_told cX9_told 2 (some .int) rm_X9_told 1 [.ref (zA w 0), .int u1] (fun M => f_X9_told u1 M) := by
  refine zMt.of (by decide) [some (.ref (zA w 0)), some (.int u1)] rfl (zle rfl) (by intro v hv; simp only [List.mem_cons, List.not_mem_nil, or_false] at hv; rcases hv with rfl | rfl <;> rfl) ?_
  intro p e s m args below meth c X M
  unfold f_X9_told
  refine re_iload_n X dX9_told_0 rfl rfl ?_
  refine re_if_lt (tgt := 20) X dX9_told_1 (by decide) (fun _ => ?_) (fun _ => ?_)
  · exact lb_X9_told_20 X ho M
  · refine re_iload_n X dX9_told_4 rfl rfl ?_
    refine re_bipush (v := 8) X dX9_told_5 (by decide) ?_
    refine re_icmp_ge (tgt := 20) X dX9_told_7 (by decide) (fun _ => ?_) (fun _ => ?_)
    · exact lb_X9_told_20 X ho M
    · refine re_aload_n X dX9_told_10 rfl rfl ?_
      refine re_getR X cl_9 (by decide) fl_RX9_19 ho rfl (zR_9_1 ho) dX9_told_11 ?_
      refine re_getR X cl_6 (by decide) fl_RX9_181 (zQ_9_1 X.clo ho) rfl (zR_6_0 (zQ_9_1 X.clo ho)) dX9_told_14 ?_
      refine re_iload_n X dX9_told_17 rfl rfl ?_
      refine re_ck (fun hi7 => ?_)
      refine re_iald X (zQ_6_0 X.clo (zQ_9_1 X.clo ho)) hi7 (j := zIx u1) rfl dX9_told_18 ?_
      exact re_iret X dX9_told_19
theorem ca_X9_told {R : Room} (h1 : rm_X9_told.frames + 1 ≤ R.frames) (h2 : 8 + (2 + 11) + rm_X9_told.locals ≤ R.locals) : zCa yX9_told cX9_told 2 (some .int) rm_X9_told R 1 := ⟨cd_X9_told, iz_RX9, ⟨by decide, by decide, by decide⟩, rfl, rfl, h1, h2⟩
