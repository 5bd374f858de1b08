/-! DebateHouseModel.in -/
abbrev rm_X10_in : Room := { frames := 0, cells := 0, slots := 0, locals := 0 }
def f_X10_in (u1 : Int32) (u2 : Int32) (u3 : Int32) (M : zMem) : zTr := if u1 < u2 then some (0, M) else if u3 < u1 then some (0, M) else some (1, M)
set_option maxRecDepth 100000 in
theorem lk_X10_in (l : Launch) (w : zWD) (u1 : Int32) (u2 : Int32) (u3 : Int32)  : zMt l w yX10_in cX10_in 3 (some .boolean) rm_X10_in 2 [.int u1, .int u2, .int u3] (fun M => f_X10_in u1 u2 u3 M) := by
  refine zMt.of (by decide) [some (.int u1), some (.int u2), some (.int u3)] rfl (zle rfl) (by intro v hv; simp only [List.mem_cons, List.not_mem_nil, or_false] at hv; rcases hv with rfl | rfl | rfl <;> rfl) ?_
  intro p e s m args below meth c X M
  unfold f_X10_in
  refine re_iload_n X dX10_in_0 rfl rfl ?_
  refine re_iload_n X dX10_in_1 rfl rfl ?_
  refine re_icmp_lt (tgt := 14) X dX10_in_2 (by decide) (fun _ => ?_) (fun _ => ?_)
  · refine re_iconst (v := 0) X dX10_in_14 (by decide) ?_
    exact re_zret X (Or.inl rfl) dX10_in_15
  · refine re_iload_n X dX10_in_5 rfl rfl ?_
    refine re_iload_n X dX10_in_6 rfl rfl ?_
    refine re_icmp_gt (tgt := 14) X dX10_in_7 (by decide) (fun _ => ?_) (fun _ => ?_)
    · refine re_iconst (v := 0) X dX10_in_14 (by decide) ?_
      exact re_zret X (Or.inl rfl) dX10_in_15
    · refine re_iconst (v := 1) X dX10_in_10 (by decide) ?_
      refine re_goto (tgt := 15) X dX10_in_11 (by decide) ?_
      exact re_zret X (Or.inr rfl) dX10_in_15
theorem ca_X10_in {R : Room} (h1 : rm_X10_in.frames + 1 ≤ R.frames) (h2 : 8 + (3 + 11) + rm_X10_in.locals ≤ R.locals) : zCa yX10_in cX10_in 3 (some .boolean) rm_X10_in R 3 := ⟨cd_X10_in, iz_RX10, ⟨by decide, by decide, by decide⟩, rfl, rfl, h1, h2⟩
/-! DebateHouseModel.put -/
abbrev rm_X10_put : Room := { frames := 0, cells := 0, slots := 0, locals := 0 }
def f_X10_put_L3 (u1 : Int32)  : Nat → Int32 → zMem → zTr
  | 0, _, _ => none
  | n + 1, x2, M => if x2 < 0 then some (0, M) else zCk (zIn (M 74 2) 600) (zLt (zUp M 75 (zIx (M 74 2)) ((u1 >>> (x2 &&& 31)).toInt8.toInt32)) (fun M1 => zLt (zUp M1 74 2 ((M1 74 2) + 1)) (fun M3 => f_X10_put_L3 u1 n (x2 + (-8)) M3)))
def f_X10_put (u1 : Int32) (M : zMem) : zTr := f_X10_put_L3 u1 zFu 24 M
set_option maxRecDepth 100000 in
theorem lb_X10_put_3 {p : Program} {l : Launch} {e : Env} {s : State} {m : MethodId} {args : Array Value} {below : List Frame} {meth : Method} {c : Code} {w : zWD} {u1 : Int32} (X : zCx p s m args meth c w (zFree w) RX10 cX10_put 3 none) (ho : zKd w 74 = (10, 61)) : ∀ (n : Nat) (x2 : Int32) (M : zMem), zRm p l e rm_X10_put s m args below meth c w 0 3 [some (.ref (zA w 74)), some (.int u1), some (.int x2)] [] M (f_X10_put_L3 u1 n x2 M) := by
  intro n
  induction n with
  | zero => intro x2 M; exact re_none
  | succ n ih =>
    intro x2 M
    rw [f_X10_put_L3]
    refine re_iload_n X dX10_put_3 rfl rfl ?_
    refine re_if_lt (tgt := 36) X dX10_put_4 (by decide) (fun _ => ?_) (fun _ => ?_)
    · exact re_vret X dX10_put_36
    · refine re_aload_n X dX10_put_7 rfl rfl ?_
      refine re_getR X cl_10 (by decide) fl_RX10_7 ho rfl (zR_10_1 ho) dX10_put_8 ?_
      refine re_aload_n X dX10_put_11 rfl rfl ?_
      refine re_getI X cl_10 (by decide) fl_RX10_146 ho rfl dX10_put_12 ?_
      refine re_iload_n X dX10_put_15 rfl rfl ?_
      refine re_iload_n X dX10_put_16 rfl rfl ?_
      refine re_ishr X dX10_put_17 ?_
      refine re_i2b X dX10_put_18 ?_
      refine re_ck (fun hi2 => ?_)
      refine re_bast X (zQ_10_1 X.clo ho) hi2 (j := zIx (M 74 2)) rfl (pk_vb _) dX10_put_19 (fun M1 => ?_)
      refine re_aload_n X dX10_put_20 rfl rfl ?_
      refine re_dup X dX10_put_21 rfl ?_
      refine re_getI X cl_10 (by decide) fl_RX10_146 ho rfl dX10_put_22 ?_
      refine re_iconst (v := 1) X dX10_put_25 (by decide) ?_
      refine re_iadd X dX10_put_26 ?_
      refine re_putI X cl_10 (by decide) fl_RX10_146 ho rfl rfl rfl dX10_put_27 (fun M3 => ?_)
      refine re_iinc (v := -8) (lv' := [some (.ref (zA w 74)), some (.int u1), some (.int (x2 + (-8)))]) X dX10_put_30 rfl (by decide) rfl ?_
      refine re_goto (tgt := 3) X dX10_put_33 (by decide) ?_
      exact ih (x2 + (-8)) M3

set_option maxRecDepth 100000 in
theorem lk_X10_put (l : Launch) (w : zWD) (u1 : Int32) (ho : zKd w 74 = (10, 61)) : zMt l w yX10_put cX10_put 3 none rm_X10_put 0 [.ref (zA w 74), .int u1] (fun M => f_X10_put u1 M) := by
  refine zMt.of (by decide) [some (.ref (zA w 74)), some (.int u1), none] rfl (zle rfl) (by intro v hv; simp only [List.mem_cons, List.not_mem_nil, or_false] at hv; rcases hv with rfl | rfl <;> rfl) ?_
  intro p e s m args below meth c X M
  unfold f_X10_put
  refine re_bipush (v := 24) X dX10_put_0 (by decide) ?_
  refine re_istore_n (lv' := [some (.ref (zA w 74)), some (.int u1), some (.int 24)]) X dX10_put_2 rfl (zlt rfl) rfl ?_
  exact lb_X10_put_3 X ho zFu 24 M
theorem ca_X10_put {R : Room} (h1 : rm_X10_put.frames + 1 ≤ R.frames) (h2 : 8 + (3 + 11) + rm_X10_put.locals ≤ R.locals) : zCa yX10_put cX10_put 3 none rm_X10_put R 1 := ⟨cd_X10_put, iz_RX10, ⟨by decide, by decide, by decide⟩, rfl, rfl, h1, h2⟩
/-! DebateHouseModel.feed -/
abbrev rm_X10_feed : Room := { frames := 1, cells := 0, slots := 0, locals := 22 }
def f_X10_feed (u1 : Int32) (u2 : Int32) (u3 : Int32) (u4 : Int32) (u5 : Int32) (M : zMem) : zTr := if ((M 74 2) + 20) ≤ 600 then zBd (f_X10_put u1 M) (fun _ M2 => zBd (f_X10_put u2 M2) (fun _ M4 => zBd (f_X10_put u3 M4) (fun _ M6 => zBd (f_X10_put u4 M6) (fun _ M8 => zBd (f_X10_put u5 M8) (fun _ M10 => some (M10 74 2, M10)))))) else some (-1, M)
set_option maxRecDepth 100000 in
theorem lk_X10_feed (l : Launch) (w : zWD) (u1 : Int32) (u2 : Int32) (u3 : Int32) (u4 : Int32) (u5 : Int32) (ho : zKd w 74 = (10, 61)) : zMt l w yX10_feed cX10_feed 6 (some .int) rm_X10_feed 1 [.ref (zA w 74), .int u1, .int u2, .int u3, .int u4, .int u5] (fun M => f_X10_feed u1 u2 u3 u4 u5 M) := by
  refine zMt.of (by decide) [some (.ref (zA w 74)), some (.int u1), some (.int u2), some (.int u3), some (.int u4), some (.int u5)] rfl (zle rfl) (by intro v hv; simp only [List.mem_cons, List.not_mem_nil, or_false] at hv; rcases hv with rfl | rfl | rfl | rfl | rfl | rfl <;> rfl) ?_
  intro p e s m args below meth c X M
  unfold f_X10_feed
  refine re_aload_n X dX10_feed_0 rfl rfl ?_
  refine re_getI X cl_10 (by decide) fl_RX10_146 ho rfl dX10_feed_1 ?_
  refine re_bipush (v := 20) X dX10_feed_4 (by decide) ?_
  refine re_iadd X dX10_feed_6 ?_
  refine re_sipush (v := 600) X dX10_feed_7 (by decide) ?_
  refine re_icmp_le (tgt := 15) X dX10_feed_10 (by decide) (fun _ => ?_) (fun _ => ?_)
  · refine re_aload_n X dX10_feed_15 rfl rfl ?_
    refine re_iload_n X dX10_feed_16 rfl rfl ?_
    refine re_callVv X (lk_X10_put l w u1 ho) (ca_X10_put (by decide) (by decide)) ml_RX10_149 im_X10_put se_X10_put cl_10 ho rfl rfl rfl (zle rfl) zRo dX10_feed_17 (fun r1 M2 hr1 => ?_)
    refine re_aload_n X dX10_feed_20 rfl rfl ?_
    refine re_iload_n X dX10_feed_21 rfl rfl ?_
    refine re_callVv X (lk_X10_put l w u2 ho) (ca_X10_put (by decide) (by decide)) ml_RX10_149 im_X10_put se_X10_put cl_10 ho rfl rfl rfl (zle rfl) zRo dX10_feed_22 (fun r3 M4 hr3 => ?_)
    refine re_aload_n X dX10_feed_25 rfl rfl ?_
    refine re_iload_n X dX10_feed_26 rfl rfl ?_
    refine re_callVv X (lk_X10_put l w u3 ho) (ca_X10_put (by decide) (by decide)) ml_RX10_149 im_X10_put se_X10_put cl_10 ho rfl rfl rfl (zle rfl) zRo dX10_feed_27 (fun r5 M6 hr5 => ?_)
    refine re_aload_n X dX10_feed_30 rfl rfl ?_
    refine re_iload X dX10_feed_31 rfl ?_
    refine re_callVv X (lk_X10_put l w u4 ho) (ca_X10_put (by decide) (by decide)) ml_RX10_149 im_X10_put se_X10_put cl_10 ho rfl rfl rfl (zle rfl) zRo dX10_feed_33 (fun r7 M8 hr7 => ?_)
    refine re_aload_n X dX10_feed_36 rfl rfl ?_
    refine re_iload X dX10_feed_37 rfl ?_
    refine re_callVv X (lk_X10_put l w u5 ho) (ca_X10_put (by decide) (by decide)) ml_RX10_149 im_X10_put se_X10_put cl_10 ho rfl rfl rfl (zle rfl) zRo dX10_feed_39 (fun r9 M10 hr9 => ?_)
    refine re_aload_n X dX10_feed_42 rfl rfl ?_
    refine re_getI X cl_10 (by decide) fl_RX10_146 ho rfl dX10_feed_43 ?_
    exact re_iret X dX10_feed_46
  · refine re_iconst (v := -1) X dX10_feed_13 (by decide) ?_
    exact re_iret X dX10_feed_14
theorem ca_X10_feed {R : Room} (h1 : rm_X10_feed.frames + 1 ≤ R.frames) (h2 : 8 + (6 + 11) + rm_X10_feed.locals ≤ R.locals) : zCa yX10_feed cX10_feed 6 (some .int) rm_X10_feed R 5 := ⟨cd_X10_feed, iz_RX10, ⟨by decide, by decide, by decide⟩, rfl, rfl, h1, h2⟩
/-! DebateHouseModel.end -/
abbrev rm_X10_end : Room := { frames := 0, cells := 0, slots := 0, locals := 0 }
def f_X10_end (u1 : Int32) (M : zMem) : zTr := if u1 < 0 then some (-1, M) else if u1 ≤ (M 74 2) then zLt (zUp M 74 2 u1) (fun M1 => some (u1, M1)) else some (-1, M)
set_option maxRecDepth 100000 in
theorem lk_X10_end (l : Launch) (w : zWD) (u1 : Int32) (ho : zKd w 74 = (10, 61)) : zMt l w yX10_end cX10_end 2 (some .int) rm_X10_end 1 [.ref (zA w 74), .int u1] (fun M => f_X10_end u1 M) := by
  refine zMt.of (by decide) [some (.ref (zA w 74)), some (.int u1)] rfl (zle rfl) (by intro v hv; simp only [List.mem_cons, List.not_mem_nil, or_false] at hv; rcases hv with rfl | rfl <;> rfl) ?_
  intro p e s m args below meth c X M
  unfold f_X10_end
  refine re_iload_n X dX10_end_0 rfl rfl ?_
  refine re_if_lt (tgt := 12) X dX10_end_1 (by decide) (fun _ => ?_) (fun _ => ?_)
  · refine re_iconst (v := -1) X dX10_end_12 (by decide) ?_
    exact re_iret X dX10_end_13
  · refine re_iload_n X dX10_end_4 rfl rfl ?_
    refine re_aload_n X dX10_end_5 rfl rfl ?_
    refine re_getI X cl_10 (by decide) fl_RX10_146 ho rfl dX10_end_6 ?_
    refine re_icmp_le (tgt := 14) X dX10_end_9 (by decide) (fun _ => ?_) (fun _ => ?_)
    · refine re_aload_n X dX10_end_14 rfl rfl ?_
      refine re_iload_n X dX10_end_15 rfl rfl ?_
      refine re_putI X cl_10 (by decide) fl_RX10_146 ho rfl rfl rfl dX10_end_16 (fun M1 => ?_)
      refine re_iload_n X dX10_end_19 rfl rfl ?_
      exact re_iret X dX10_end_20
    · refine re_iconst (v := -1) X dX10_end_12 (by decide) ?_
      exact re_iret X dX10_end_13
theorem ca_X10_end {R : Room} (h1 : rm_X10_end.frames + 1 ≤ R.frames) (h2 : 8 + (2 + 11) + rm_X10_end.locals ≤ R.locals) : zCa yX10_end cX10_end 2 (some .int) rm_X10_end R 1 := ⟨cd_X10_end, iz_RX10, ⟨by decide, by decide, by decide⟩, rfl, rfl, h1, h2⟩
/-! DebateHouseModel.fails -/
abbrev rm_X10_fails : Room := { frames := 0, cells := 0, slots := 0, locals := 0 }
def f_X10_fails (u1 : Int32) (u2 : Int32) (M : zMem) : zTr := if (M 74 5) = 0 then zLt (zUp M 74 5 (u1 + (4 * u2))) (fun M1 => some (0, M1)) else some (0, M)
set_option maxRecDepth 100000 in
theorem lk_X10_fails (l : Launch) (w : zWD) (u1 : Int32) (u2 : Int32) (ho : zKd w 74 = (10, 61)) : zMt l w yX10_fails cX10_fails 3 none rm_X10_fails 0 [.ref (zA w 74), .int u1, .int u2] (fun M => f_X10_fails u1 u2 M) := by
  refine zMt.of (by decide) [some (.ref (zA w 74)), some (.int u1), some (.int u2)] rfl (zle rfl) (by intro v hv; simp only [List.mem_cons, List.not_mem_nil, or_false] at hv; rcases hv with rfl | rfl | rfl <;> rfl) ?_
  intro p e s m args below meth c X M
  unfold f_X10_fails
  refine re_aload_n X dX10_fails_0 rfl rfl ?_
  refine re_getI X cl_10 (by decide) fl_RX10_153 ho rfl dX10_fails_1 ?_
  refine re_if_ne (tgt := 16) X dX10_fails_4 (by decide) (fun _ => ?_) (fun _ => ?_)
  · refine re_aload_n X dX10_fails_7 rfl rfl ?_
    refine re_iload_n X dX10_fails_8 rfl rfl ?_
    refine re_iconst (v := 4) X dX10_fails_9 (by decide) ?_
    refine re_iload_n X dX10_fails_10 rfl rfl ?_
    refine re_imul X dX10_fails_11 ?_
    refine re_iadd X dX10_fails_12 ?_
    refine re_putI X cl_10 (by decide) fl_RX10_153 ho rfl rfl rfl dX10_fails_13 (fun M1 => ?_)
    exact re_vret X dX10_fails_16
  · exact re_vret X dX10_fails_16
theorem ca_X10_fails {R : Room} (h1 : rm_X10_fails.frames + 1 ≤ R.frames) (h2 : 8 + (3 + 11) + rm_X10_fails.locals ≤ R.locals) : zCa yX10_fails cX10_fails 3 none rm_X10_fails R 2 := ⟨cd_X10_fails, iz_RX10, ⟨by decide, by decide, by decide⟩, rfl, rfl, h1, h2⟩
/-! DebateHouseModel.isEnd -/
abbrev rm_X10_isEnd : Room := { frames := 0, cells := 0, slots := 0, locals := 0 }
def f_X10_isEnd_B38   (M : zMem) : zTr := zLt (zUp M 74 4 (M 74 3)) (fun M1 => if (M1 74 3) = (M1 74 2) then some (1, M1) else some (0, M1))
def f_X10_isEnd_L0   : Nat → zMem → zTr
  | 0, _ => none
  | n + 1, M => if (M 74 2) ≤ (M 74 3) then f_X10_isEnd_B38 M else zCk (zIn (M 74 3) 600) (if (M 75 (zIx (M 74 3))) = 32 then zLt (zUp M 74 3 ((M 74 3) + 1)) (fun M3 => f_X10_isEnd_L0 n M3) else f_X10_isEnd_B38 M)
def f_X10_isEnd  (M : zMem) : zTr := f_X10_isEnd_L0 zFu M
set_option maxRecDepth 100000 in
theorem lb_X10_isEnd_38 {p : Program} {l : Launch} {e : Env} {s : State} {m : MethodId} {args : Array Value} {below : List Frame} {meth : Method} {c : Code} {w : zWD} (X : zCx p s m args meth c w (zFree w) RX10 cX10_isEnd 1 (some .boolean)) (ho : zKd w 74 = (10, 61)) : ∀ (M : zMem), zRm p l e rm_X10_isEnd s m args below meth c w 2 38 [some (.ref (zA w 74))] [] M (f_X10_isEnd_B38 M) := by
  intro M
  unfold f_X10_isEnd_B38
  refine re_aload_n X dX10_isEnd_38 rfl rfl ?_
  refine re_aload_n X dX10_isEnd_39 rfl rfl ?_
  refine re_getI X cl_10 (by decide) fl_RX10_156 ho rfl dX10_isEnd_40 ?_
  refine re_putI X cl_10 (by decide) fl_RX10_159 ho rfl rfl rfl dX10_isEnd_43 (fun M1 => ?_)
  refine re_aload_n X dX10_isEnd_46 rfl rfl ?_
  refine re_getI X cl_10 (by decide) fl_RX10_156 ho rfl dX10_isEnd_47 ?_
  refine re_aload_n X dX10_isEnd_50 rfl rfl ?_
  refine re_getI X cl_10 (by decide) fl_RX10_146 ho rfl dX10_isEnd_51 ?_
  refine re_icmp_ne (tgt := 61) X dX10_isEnd_54 (by decide) (fun _ => ?_) (fun _ => ?_)
  · refine re_iconst (v := 1) X dX10_isEnd_57 (by decide) ?_
    refine re_goto (tgt := 62) X dX10_isEnd_58 (by decide) ?_
    exact re_zret X (Or.inr rfl) dX10_isEnd_62
  · refine re_iconst (v := 0) X dX10_isEnd_61 (by decide) ?_
    exact re_zret X (Or.inl rfl) dX10_isEnd_62

set_option maxRecDepth 100000 in
theorem lb_X10_isEnd_0 {p : Program} {l : Launch} {e : Env} {s : State} {m : MethodId} {args : Array Value} {below : List Frame} {meth : Method} {c : Code} {w : zWD} (X : zCx p s m args meth c w (zFree w) RX10 cX10_isEnd 1 (some .boolean)) (ho : zKd w 74 = (10, 61)) : ∀ (n : Nat) (M : zMem), zRm p l e rm_X10_isEnd s m args below meth c w 2 0 [some (.ref (zA w 74))] [] M (f_X10_isEnd_L0 n M) := by
  intro n
  induction n with
  | zero => intro M; exact re_none
  | succ n ih =>
    intro M
    rw [f_X10_isEnd_L0]
    refine re_aload_n X dX10_isEnd_0 rfl rfl ?_
    refine re_getI X cl_10 (by decide) fl_RX10_156 ho rfl dX10_isEnd_1 ?_
    refine re_aload_n X dX10_isEnd_4 rfl rfl ?_
    refine re_getI X cl_10 (by decide) fl_RX10_146 ho rfl dX10_isEnd_5 ?_
    refine re_icmp_ge (tgt := 38) X dX10_isEnd_8 (by decide) (fun _ => ?_) (fun _ => ?_)
    · exact lb_X10_isEnd_38 X ho M
    · refine re_aload_n X dX10_isEnd_11 rfl rfl ?_
      refine re_getR X cl_10 (by decide) fl_RX10_7 ho rfl (zR_10_1 ho) dX10_isEnd_12 ?_
      refine re_aload_n X dX10_isEnd_15 rfl rfl ?_
      refine re_getI X cl_10 (by decide) fl_RX10_156 ho rfl dX10_isEnd_16 ?_
      refine re_ck (fun hi2 => ?_)
      refine re_bald X (zQ_10_1 X.clo ho) hi2 (j := zIx (M 74 3)) rfl dX10_isEnd_19 ?_
      refine re_bipush (v := 32) X dX10_isEnd_20 (by decide) ?_
      refine re_icmp_ne (tgt := 38) X dX10_isEnd_22 (by decide) (fun _ => ?_) (fun _ => ?_)
      · refine re_aload_n X dX10_isEnd_25 rfl rfl ?_
        refine re_dup X dX10_isEnd_26 rfl ?_
        refine re_getI X cl_10 (by decide) fl_RX10_156 ho rfl dX10_isEnd_27 ?_
        refine re_iconst (v := 1) X dX10_isEnd_30 (by decide) ?_
        refine re_iadd X dX10_isEnd_31 ?_
        refine re_putI X cl_10 (by decide) fl_RX10_156 ho rfl rfl rfl dX10_isEnd_32 (fun M3 => ?_)
        refine re_goto (tgt := 0) X dX10_isEnd_35 (by decide) ?_
        exact ih M3
      · exact lb_X10_isEnd_38 X ho M

set_option maxRecDepth 100000 in
theorem lk_X10_isEnd (l : Launch) (w : zWD)  (ho : zKd w 74 = (10, 61)) : zMt l w yX10_isEnd cX10_isEnd 1 (some .boolean) rm_X10_isEnd 2 [.ref (zA w 74)] (fun M => f_X10_isEnd M) := by
  refine zMt.of (by decide) [some (.ref (zA w 74))] rfl (zle rfl) (by intro v hv; simp only [List.mem_cons, List.not_mem_nil, or_false] at hv; rcases hv with rfl <;> rfl) ?_
  intro p e s m args below meth c X M
  unfold f_X10_isEnd
  exact lb_X10_isEnd_0 X ho zFu M
theorem ca_X10_isEnd {R : Room} (h1 : rm_X10_isEnd.frames + 1 ≤ R.frames) (h2 : 8 + (1 + 11) + rm_X10_isEnd.locals ≤ R.locals) : zCa yX10_isEnd cX10_isEnd 1 (some .boolean) rm_X10_isEnd R 0 := ⟨cd_X10_isEnd, iz_RX10, ⟨by decide, by decide, by decide⟩, rfl, rfl, h1, h2⟩
/-! DebateHouseModel.isLetter -/
abbrev rm_X10_isLetter : Room := { frames := 0, cells := 0, slots := 0, locals := 0 }
def f_X10_isLetter  (M : zMem) : zTr := if (M 74 2) ≤ (M 74 3) then some (0, M) else zCk (zIn (M 74 3) 600) (if (M 75 (zIx (M 74 3))) < 97 then some (0, M) else zCk (zIn (M 74 3) 600) (if 122 < (M 75 (zIx (M 74 3))) then some (0, M) else some (1, M)))
set_option maxRecDepth 100000 in
theorem lk_X10_isLetter (l : Launch) (w : zWD)  (ho : zKd w 74 = (10, 61)) : zMt l w yX10_isLetter cX10_isLetter 1 (some .boolean) rm_X10_isLetter 2 [.ref (zA w 74)] (fun M => f_X10_isLetter M) := by
  refine zMt.of (by decide) [some (.ref (zA w 74))] rfl (zle rfl) (by intro v hv; simp only [List.mem_cons, List.not_mem_nil, or_false] at hv; rcases hv with rfl <;> rfl) ?_
  intro p e s m args below meth c X M
  unfold f_X10_isLetter
  refine re_aload_n X dX10_isLetter_0 rfl rfl ?_
  refine re_getI X cl_10 (by decide) fl_RX10_156 ho rfl dX10_isLetter_1 ?_
  refine re_aload_n X dX10_isLetter_4 rfl rfl ?_
  refine re_getI X cl_10 (by decide) fl_RX10_146 ho rfl dX10_isLetter_5 ?_
  refine re_icmp_ge (tgt := 43) X dX10_isLetter_8 (by decide) (fun _ => ?_) (fun _ => ?_)
  · refine re_iconst (v := 0) X dX10_isLetter_43 (by decide) ?_
    exact re_zret X (Or.inl rfl) dX10_isLetter_44
  · refine re_aload_n X dX10_isLetter_11 rfl rfl ?_
    refine re_getR X cl_10 (by decide) fl_RX10_7 ho rfl (zR_10_1 ho) dX10_isLetter_12 ?_
    refine re_aload_n X dX10_isLetter_15 rfl rfl ?_
    refine re_getI X cl_10 (by decide) fl_RX10_156 ho rfl dX10_isLetter_16 ?_
    refine re_ck (fun hi1 => ?_)
    refine re_bald X (zQ_10_1 X.clo ho) hi1 (j := zIx (M 74 3)) rfl dX10_isLetter_19 ?_
    refine re_bipush (v := 97) X dX10_isLetter_20 (by decide) ?_
    refine re_icmp_lt (tgt := 43) X dX10_isLetter_22 (by decide) (fun _ => ?_) (fun _ => ?_)
    · refine re_iconst (v := 0) X dX10_isLetter_43 (by decide) ?_
      exact re_zret X (Or.inl rfl) dX10_isLetter_44
    · refine re_aload_n X dX10_isLetter_25 rfl rfl ?_
      refine re_getR X cl_10 (by decide) fl_RX10_7 ho rfl (zR_10_1 ho) dX10_isLetter_26 ?_
      refine re_aload_n X dX10_isLetter_29 rfl rfl ?_
      refine re_getI X cl_10 (by decide) fl_RX10_156 ho rfl dX10_isLetter_30 ?_
      refine re_ck (fun hi2 => ?_)
      refine re_bald X (zQ_10_1 X.clo ho) hi2 (j := zIx (M 74 3)) rfl dX10_isLetter_33 ?_
      refine re_bipush (v := 122) X dX10_isLetter_34 (by decide) ?_
      refine re_icmp_gt (tgt := 43) X dX10_isLetter_36 (by decide) (fun _ => ?_) (fun _ => ?_)
      · refine re_iconst (v := 0) X dX10_isLetter_43 (by decide) ?_
        exact re_zret X (Or.inl rfl) dX10_isLetter_44
      · refine re_iconst (v := 1) X dX10_isLetter_39 (by decide) ?_
        refine re_goto (tgt := 44) X dX10_isLetter_40 (by decide) ?_
        exact re_zret X (Or.inr rfl) dX10_isLetter_44
theorem ca_X10_isLetter {R : Room} (h1 : rm_X10_isLetter.frames + 1 ≤ R.frames) (h2 : 8 + (1 + 11) + rm_X10_isLetter.locals ≤ R.locals) : zCa yX10_isLetter cX10_isLetter 1 (some .boolean) rm_X10_isLetter R 0 := ⟨cd_X10_isLetter, iz_RX10, ⟨by decide, by decide, by decide⟩, rfl, rfl, h1, h2⟩
/-! DebateHouseModel.word -/
abbrev rm_X10_word : Room := { frames := 1, cells := 0, slots := 0, locals := 22 }
def f_X10_word_B25   (M : zMem) : zTr := if (M 74 3) = (M 74 4) then zBd (f_X10_fails 1 (M 74 4) M) (fun _ M6 => some (0, M6)) else some (0, M)
def f_X10_word_L5   : Nat → zMem → zTr
  | 0, _ => none
  | n + 1, M => zBd (f_X10_isLetter M) (fun r3 M4 => if r3 = 0 then f_X10_word_B25 M4 else zLt (zUp M4 74 3 ((M4 74 3) + 1)) (fun M7 => f_X10_word_L5 n M7))
def f_X10_word  (M : zMem) : zTr := zBd (f_X10_isEnd M) (fun r1 M2 => f_X10_word_L5 zFu M2)
set_option maxRecDepth 100000 in
theorem lb_X10_word_25 {p : Program} {l : Launch} {e : Env} {s : State} {m : MethodId} {args : Array Value} {below : List Frame} {meth : Method} {c : Code} {w : zWD} (X : zCx p s m args meth c w (zFree w) RX10 cX10_word 1 none) (ho : zKd w 74 = (10, 61)) : ∀ (M : zMem), zRm p l e rm_X10_word s m args below meth c w 0 25 [some (.ref (zA w 74))] [] M (f_X10_word_B25 M) := by
  intro M
  unfold f_X10_word_B25
  refine re_aload_n X dX10_word_25 rfl rfl ?_
  refine re_getI X cl_10 (by decide) fl_RX10_156 ho rfl dX10_word_26 ?_
  refine re_aload_n X dX10_word_29 rfl rfl ?_
  refine re_getI X cl_10 (by decide) fl_RX10_159 ho rfl dX10_word_30 ?_
  refine re_icmp_ne (tgt := 45) X dX10_word_33 (by decide) (fun _ => ?_) (fun _ => ?_)
  · refine re_aload_n X dX10_word_36 rfl rfl ?_
    refine re_iconst (v := 1) X dX10_word_37 (by decide) ?_
    refine re_aload_n X dX10_word_38 rfl rfl ?_
    refine re_getI X cl_10 (by decide) fl_RX10_159 ho rfl dX10_word_39 ?_
    refine re_callVv X (lk_X10_fails l w 1 (M 74 4) ho) (ca_X10_fails (by decide) (by decide)) ml_RX10_169 im_X10_fails se_X10_fails cl_10 ho rfl rfl rfl (zle rfl) zRo dX10_word_42 (fun r5 M6 hr5 => ?_)
    exact re_vret X dX10_word_45
  · exact re_vret X dX10_word_45

set_option maxRecDepth 100000 in
theorem lb_X10_word_5 {p : Program} {l : Launch} {e : Env} {s : State} {m : MethodId} {args : Array Value} {below : List Frame} {meth : Method} {c : Code} {w : zWD} (X : zCx p s m args meth c w (zFree w) RX10 cX10_word 1 none) (ho : zKd w 74 = (10, 61)) : ∀ (n : Nat) (M : zMem), zRm p l e rm_X10_word s m args below meth c w 0 5 [some (.ref (zA w 74))] [] M (f_X10_word_L5 n M) := by
  intro n
  induction n with
  | zero => intro M; exact re_none
  | succ n ih =>
    intro M
    rw [f_X10_word_L5]
    refine re_aload_n X dX10_word_5 rfl rfl ?_
    refine re_callVz X (lk_X10_isLetter l w ho) (ca_X10_isLetter (by decide) (by decide)) ml_RX10_166 im_X10_isLetter se_X10_isLetter cl_10 ho rfl rfl rfl (zle rfl) zRo dX10_word_6 (fun r3 M4 hr3 => ?_)
    refine re_if_eq (tgt := 25) X dX10_word_9 (by decide) (fun _ => ?_) (fun _ => ?_)
    · exact lb_X10_word_25 X ho M4
    · refine re_aload_n X dX10_word_12 rfl rfl ?_
      refine re_dup X dX10_word_13 rfl ?_
      refine re_getI X cl_10 (by decide) fl_RX10_156 ho rfl dX10_word_14 ?_
      refine re_iconst (v := 1) X dX10_word_17 (by decide) ?_
      refine re_iadd X dX10_word_18 ?_
      refine re_putI X cl_10 (by decide) fl_RX10_156 ho rfl rfl rfl dX10_word_19 (fun M7 => ?_)
      refine re_goto (tgt := 5) X dX10_word_22 (by decide) ?_
      exact ih M7

set_option maxRecDepth 100000 in
theorem lk_X10_word (l : Launch) (w : zWD)  (ho : zKd w 74 = (10, 61)) : zMt l w yX10_word cX10_word 1 none rm_X10_word 0 [.ref (zA w 74)] (fun M => f_X10_word M) := by
  refine zMt.of (by decide) [some (.ref (zA w 74))] rfl (zle rfl) (by intro v hv; simp only [List.mem_cons, List.not_mem_nil, or_false] at hv; rcases hv with rfl <;> rfl) ?_
  intro p e s m args below meth c X M
  unfold f_X10_word
  refine re_aload_n X dX10_word_0 rfl rfl ?_
  refine re_callVz X (lk_X10_isEnd l w ho) (ca_X10_isEnd (by decide) (by decide)) ml_RX10_162 im_X10_isEnd se_X10_isEnd cl_10 ho rfl rfl rfl (zle rfl) zRo dX10_word_1 (fun r1 M2 hr1 => ?_)
  refine re_pop X dX10_word_4 rfl ?_
  exact lb_X10_word_5 X ho zFu M2
theorem ca_X10_word {R : Room} (h1 : rm_X10_word.frames + 1 ≤ R.frames) (h2 : 8 + (1 + 11) + rm_X10_word.locals ≤ R.locals) : zCa yX10_word cX10_word 1 none rm_X10_word R 0 := ⟨cd_X10_word, iz_RX10, ⟨by decide, by decide, by decide⟩, rfl, rfl, h1, h2⟩
/-! DebateHouseModel.is -/
abbrev rm_X10_is : Room := { frames := 4, cells := 0, slots := 0, locals := 85 }
def f_X10_is_L24 (u1 : Int32)  : Nat → Int32 → Int32 → zMem → zTr
  | 0, _, _, _ => none
  | n + 1, x2, x3, M => if (zSlen (zIx u1)) ≤ x3 then zCk (x2 = 0 ∨ x2 = 1) (some (x2, M)) else if x2 = 0 then zCk (x2 = 0 ∨ x2 = 1) (some (x2, M)) else zCk (zIn ((M 74 4) + x3) 600) (zCk (zIn x3 (zSlenN (zIx u1))) (if (M 75 (zIx ((M 74 4) + x3))) = (zScha (zIx u1) x3) then f_X10_is_L24 u1 n 1 (x3 + 1) M else f_X10_is_L24 u1 n 0 (x3 + 1) M))
def f_X10_is (u1 : Int32) (M : zMem) : zTr := if ((M 74 3) - (M 74 4)) = (zSlen (zIx u1)) then f_X10_is_L24 u1 zFu 1 0 M else f_X10_is_L24 u1 zFu 0 0 M
set_option maxRecDepth 100000 in
theorem lb_X10_is_24 {p : Program} {l : Launch} {e : Env} {s : State} {m : MethodId} {args : Array Value} {below : List Frame} {meth : Method} {c : Code} {w : zWD} {u1 : Int32} (X : zCx p s m args meth c w (zFree w) RX10 cX10_is 4 (some .boolean)) (ho : zKd w 74 = (10, 61)) (hu1 : zIx u1 < zNS) : ∀ (n : Nat) (x2 : Int32) (x3 : Int32) (M : zMem), zRm p l e rm_X10_is s m args below meth c w 2 24 [some (.ref (zA w 74)), some (.ref (zK w (zIx u1))), some (.int x2), some (.int x3)] [] M (f_X10_is_L24 u1 n x2 x3 M) := by
  intro n
  induction n with
  | zero => intro x2 x3 M; exact re_none
  | succ n ih =>
    intro x2 x3 M
    rw [f_X10_is_L24]
    refine re_iload_n X dX10_is_24 rfl rfl ?_
    refine re_aload_n X dX10_is_25 rfl rfl ?_
    refine re_slen X hu1 ml_RX10_173 (by decide) (by decide) rfl (zle rfl) zRo dX10_is_26 ?_
    refine re_icmp_ge (tgt := 67) X dX10_is_29 (by decide) (fun _ => ?_) (fun _ => ?_)
    · refine re_iload_n X dX10_is_67 rfl rfl ?_
      refine re_ck (fun hz1 => ?_)
      exact re_zret X hz1 dX10_is_68
    · refine re_iload_n X dX10_is_32 rfl rfl ?_
      refine re_if_eq (tgt := 67) X dX10_is_33 (by decide) (fun _ => ?_) (fun _ => ?_)
      · refine re_iload_n X dX10_is_67 rfl rfl ?_
        refine re_ck (fun hz2 => ?_)
        exact re_zret X hz2 dX10_is_68
      · refine re_aload_n X dX10_is_36 rfl rfl ?_
        refine re_getR X cl_10 (by decide) fl_RX10_7 ho rfl (zR_10_1 ho) dX10_is_37 ?_
        refine re_aload_n X dX10_is_40 rfl rfl ?_
        refine re_getI X cl_10 (by decide) fl_RX10_159 ho rfl dX10_is_41 ?_
        refine re_iload_n X dX10_is_44 rfl rfl ?_
        refine re_iadd X dX10_is_45 ?_
        refine re_ck (fun hi3 => ?_)
        refine re_bald X (zQ_10_1 X.clo ho) hi3 (j := zIx ((M 74 4) + x3)) rfl dX10_is_46 ?_
        refine re_aload_n X dX10_is_47 rfl rfl ?_
        refine re_iload_n X dX10_is_48 rfl rfl ?_
        refine re_ck (fun hi4 => ?_)
        refine re_schr X hu1 hi4 ml_RX10_179 (by decide) (by decide) rfl (zle rfl) zRo dX10_is_49 ?_
        refine re_icmp_ne (tgt := 59) X dX10_is_52 (by decide) (fun _ => ?_) (fun _ => ?_)
        · refine re_iconst (v := 1) X dX10_is_55 (by decide) ?_
          refine re_goto (tgt := 60) X dX10_is_56 (by decide) ?_
          refine re_istore_n (lv' := [some (.ref (zA w 74)), some (.ref (zK w (zIx u1))), some (.int 1), some (.int x3)]) X dX10_is_60 rfl (zlt rfl) rfl ?_
          refine re_iinc (v := 1) (lv' := [some (.ref (zA w 74)), some (.ref (zK w (zIx u1))), some (.int 1), some (.int (x3 + 1))]) X dX10_is_61 rfl (by decide) rfl ?_
          refine re_goto (tgt := 24) X dX10_is_64 (by decide) ?_
          exact ih 1 (x3 + 1) M
        · refine re_iconst (v := 0) X dX10_is_59 (by decide) ?_
          refine re_istore_n (lv' := [some (.ref (zA w 74)), some (.ref (zK w (zIx u1))), some (.int 0), some (.int x3)]) X dX10_is_60 rfl (zlt rfl) rfl ?_
          refine re_iinc (v := 1) (lv' := [some (.ref (zA w 74)), some (.ref (zK w (zIx u1))), some (.int 0), some (.int (x3 + 1))]) X dX10_is_61 rfl (by decide) rfl ?_
          refine re_goto (tgt := 24) X dX10_is_64 (by decide) ?_
          exact ih 0 (x3 + 1) M

set_option maxRecDepth 100000 in
theorem lk_X10_is (l : Launch) (w : zWD) (u1 : Int32) (ho : zKd w 74 = (10, 61)) (hu1 : zIx u1 < zNS) : zMt l w yX10_is cX10_is 4 (some .boolean) rm_X10_is 2 [.ref (zA w 74), .ref (zK w (zIx u1))] (fun M => f_X10_is u1 M) := by
  refine zMt.of (by decide) [some (.ref (zA w 74)), some (.ref (zK w (zIx u1))), none, none] rfl (zle rfl) (by intro v hv; simp only [List.mem_cons, List.not_mem_nil, or_false] at hv; rcases hv with rfl | rfl <;> rfl) ?_
  intro p e s m args below meth c X M
  unfold f_X10_is
  refine re_aload_n X dX10_is_0 rfl rfl ?_
  refine re_getI X cl_10 (by decide) fl_RX10_156 ho rfl dX10_is_1 ?_
  refine re_aload_n X dX10_is_4 rfl rfl ?_
  refine re_getI X cl_10 (by decide) fl_RX10_159 ho rfl dX10_is_5 ?_
  refine re_isub X dX10_is_8 ?_
  refine re_aload_n X dX10_is_9 rfl rfl ?_
  refine re_slen X hu1 ml_RX10_173 (by decide) (by decide) rfl (zle rfl) zRo dX10_is_10 ?_
  refine re_icmp_ne (tgt := 20) X dX10_is_13 (by decide) (fun _ => ?_) (fun _ => ?_)
  · refine re_iconst (v := 1) X dX10_is_16 (by decide) ?_
    refine re_goto (tgt := 21) X dX10_is_17 (by decide) ?_
    refine re_istore_n (lv' := [some (.ref (zA w 74)), some (.ref (zK w (zIx u1))), some (.int 1), none]) X dX10_is_21 rfl (zlt rfl) rfl ?_
    refine re_iconst (v := 0) X dX10_is_22 (by decide) ?_
    refine re_istore_n (lv' := [some (.ref (zA w 74)), some (.ref (zK w (zIx u1))), some (.int 1), some (.int 0)]) X dX10_is_23 rfl (zlt rfl) rfl ?_
    exact lb_X10_is_24 X ho hu1 zFu 1 0 M
  · refine re_iconst (v := 0) X dX10_is_20 (by decide) ?_
    refine re_istore_n (lv' := [some (.ref (zA w 74)), some (.ref (zK w (zIx u1))), some (.int 0), none]) X dX10_is_21 rfl (zlt rfl) rfl ?_
    refine re_iconst (v := 0) X dX10_is_22 (by decide) ?_
    refine re_istore_n (lv' := [some (.ref (zA w 74)), some (.ref (zK w (zIx u1))), some (.int 0), some (.int 0)]) X dX10_is_23 rfl (zlt rfl) rfl ?_
    exact lb_X10_is_24 X ho hu1 zFu 0 0 M
theorem ca_X10_is {R : Room} (h1 : rm_X10_is.frames + 1 ≤ R.frames) (h2 : 8 + (4 + 11) + rm_X10_is.locals ≤ R.locals) : zCa yX10_is cX10_is 4 (some .boolean) rm_X10_is R 1 := ⟨cd_X10_is, iz_RX10, ⟨by decide, by decide, by decide⟩, rfl, rfl, h1, h2⟩
/-! DebateHouseModel.number -/
abbrev rm_X10_number : Room := { frames := 1, cells := 0, slots := 0, locals := 22 }
def f_X10_number_B104 (u1 : Int32) (u2 : Int32)  (x3 : Int32) (M : zMem) : zTr := if (M 74 3) = (M 74 4) then zBd (f_X10_fails 1 (M 74 4) M) (fun _ M4 => some (x3, M4)) else zBd (f_X10_in x3 u1 u2 M) (fun r5 M6 => if r5 = 0 then zBd (f_X10_fails 2 (M6 74 4) M6) (fun _ M8 => some (x3, M8)) else some (x3, M6))
def f_X10_number_B90 (u1 : Int32) (u2 : Int32) (k16 : Int32 → zMem → zTr) (y0 : Int32) (M : zMem) : zTr := zLt (zUp M 74 3 ((M 74 3) + 1)) (fun M11 => k16 y0 M11)
def f_X10_number_L16 (u1 : Int32) (u2 : Int32)  : Nat → Int32 → zMem → zTr
  | 0, _, _ => none
  | n + 1, x3, M => if (M 74 2) ≤ (M 74 3) then f_X10_number_B104 u1 u2 x3 M else zCk (zIn (M 74 3) 600) (if (M 75 (zIx (M 74 3))) < 48 then f_X10_number_B104 u1 u2 x3 M else zCk (zIn (M 74 3) 600) (if 57 < (M 75 (zIx (M 74 3))) then f_X10_number_B104 u1 u2 x3 M else if 4 ≤ ((M 74 3) - (M 74 4)) then f_X10_number_B90 u1 u2 (fun x3 M => f_X10_number_L16 u1 u2 n x3 M) 1000000 M else zCk (zIn (M 74 3) 600) (f_X10_number_B90 u1 u2 (fun x3 M => f_X10_number_L16 u1 u2 n x3 M) (((10 * x3) + (M 75 (zIx (M 74 3)))) - 48) M)))
def f_X10_number (u1 : Int32) (u2 : Int32) (M : zMem) : zTr := if (M 74 5) ≤ 0 then zBd (f_X10_isEnd M) (fun r1 M2 => f_X10_number_L16 u1 u2 zFu 0 M2) else some (0, M)
set_option maxRecDepth 100000 in
theorem lb_X10_number_104 {p : Program} {l : Launch} {e : Env} {s : State} {m : MethodId} {args : Array Value} {below : List Frame} {meth : Method} {c : Code} {w : zWD} {u1 : Int32} {u2 : Int32} (X : zCx p s m args meth c w (zFree w) RX10 cX10_number 4 (some .int)) (ho : zKd w 74 = (10, 61)) : ∀ (x3 : Int32) (M : zMem), zRm p l e rm_X10_number s m args below meth c w 1 104 [some (.ref (zA w 74)), some (.int u1), some (.int u2), some (.int x3)] [] M (f_X10_number_B104 u1 u2 x3 M) := by
  intro x3 M
  unfold f_X10_number_B104
  refine re_aload_n X dX10_number_104 rfl rfl ?_
  refine re_getI X cl_10 (by decide) fl_RX10_156 ho rfl dX10_number_105 ?_
  refine re_aload_n X dX10_number_108 rfl rfl ?_
  refine re_getI X cl_10 (by decide) fl_RX10_159 ho rfl dX10_number_109 ?_
  refine re_icmp_ne (tgt := 127) X dX10_number_112 (by decide) (fun _ => ?_) (fun _ => ?_)
  · refine re_aload_n X dX10_number_115 rfl rfl ?_
    refine re_iconst (v := 1) X dX10_number_116 (by decide) ?_
    refine re_aload_n X dX10_number_117 rfl rfl ?_
    refine re_getI X cl_10 (by decide) fl_RX10_159 ho rfl dX10_number_118 ?_
    refine re_callVv X (lk_X10_fails l w 1 (M 74 4) ho) (ca_X10_fails (by decide) (by decide)) ml_RX10_169 im_X10_fails se_X10_fails cl_10 ho rfl rfl rfl (zle rfl) zRo dX10_number_121 (fun r3 M4 hr3 => ?_)
    refine re_goto (tgt := 145) X dX10_number_124 (by decide) ?_
    refine re_iload_n X dX10_number_145 rfl rfl ?_
    exact re_iret X dX10_number_146
  · refine re_iload_n X dX10_number_127 rfl rfl ?_
    refine re_iload_n X dX10_number_128 rfl rfl ?_
    refine re_iload_n X dX10_number_129 rfl rfl ?_
    refine re_callSz X (lk_X10_in l w x3 u1 u2) (ca_X10_in (by decide) (by decide)) ml_RX10_184 sm_X10_in rfl rfl rfl (zle rfl) zRo dX10_number_130 (fun r5 M6 hr5 => ?_)
    refine re_if_ne (tgt := 145) X dX10_number_133 (by decide) (fun _ => ?_) (fun _ => ?_)
    · refine re_aload_n X dX10_number_136 rfl rfl ?_
      refine re_iconst (v := 2) X dX10_number_137 (by decide) ?_
      refine re_aload_n X dX10_number_138 rfl rfl ?_
      refine re_getI X cl_10 (by decide) fl_RX10_159 ho rfl dX10_number_139 ?_
      refine re_callVv X (lk_X10_fails l w 2 (M6 74 4) ho) (ca_X10_fails (by decide) (by decide)) ml_RX10_169 im_X10_fails se_X10_fails cl_10 ho rfl rfl rfl (zle rfl) zRo dX10_number_142 (fun r7 M8 hr7 => ?_)
      refine re_iload_n X dX10_number_145 rfl rfl ?_
      exact re_iret X dX10_number_146
    · refine re_iload_n X dX10_number_145 rfl rfl ?_
      exact re_iret X dX10_number_146

set_option maxRecDepth 100000 in
theorem lb_X10_number_90 {p : Program} {l : Launch} {e : Env} {s : State} {m : MethodId} {args : Array Value} {below : List Frame} {meth : Method} {c : Code} {w : zWD} {u1 : Int32} {u2 : Int32} (X : zCx p s m args meth c w (zFree w) RX10 cX10_number 4 (some .int)) (ho : zKd w 74 = (10, 61)) (k16 : Int32 → zMem → zTr) (hk16 : ∀ (x3 : Int32) (M : zMem), zRm p l e rm_X10_number s m args below meth c w 1 16 [some (.ref (zA w 74)), some (.int u1), some (.int u2), some (.int x3)] [] M (k16 x3 M)) : ∀ (y0 : Int32) (M : zMem), zRm p l e rm_X10_number s m args below meth c w 1 90 [some (.ref (zA w 74)), some (.int u1), some (.int u2), none] [.int y0] M (f_X10_number_B90 u1 u2 k16 y0 M) := by
  intro y0 M
  unfold f_X10_number_B90
  refine re_istore_n (lv' := [some (.ref (zA w 74)), some (.int u1), some (.int u2), some (.int y0)]) X dX10_number_90 rfl (zlt rfl) rfl ?_
  refine re_aload_n X dX10_number_91 rfl rfl ?_
  refine re_dup X dX10_number_92 rfl ?_
  refine re_getI X cl_10 (by decide) fl_RX10_156 ho rfl dX10_number_93 ?_
  refine re_iconst (v := 1) X dX10_number_96 (by decide) ?_
  refine re_iadd X dX10_number_97 ?_
  refine re_putI X cl_10 (by decide) fl_RX10_156 ho rfl rfl rfl dX10_number_98 (fun M11 => ?_)
  refine re_goto (tgt := 16) X dX10_number_101 (by decide) ?_
  exact hk16 y0 M11

set_option maxRecDepth 100000 in
theorem lb_X10_number_16 {p : Program} {l : Launch} {e : Env} {s : State} {m : MethodId} {args : Array Value} {below : List Frame} {meth : Method} {c : Code} {w : zWD} {u1 : Int32} {u2 : Int32} (X : zCx p s m args meth c w (zFree w) RX10 cX10_number 4 (some .int)) (ho : zKd w 74 = (10, 61)) : ∀ (n : Nat) (x3 : Int32) (M : zMem), zRm p l e rm_X10_number s m args below meth c w 1 16 [some (.ref (zA w 74)), some (.int u1), some (.int u2), some (.int x3)] [] M (f_X10_number_L16 u1 u2 n x3 M) := by
  intro n
  induction n with
  | zero => intro x3 M; exact re_none
  | succ n ih =>
    intro x3 M
    rw [f_X10_number_L16]
    refine re_aload_n X dX10_number_16 rfl rfl ?_
    refine re_getI X cl_10 (by decide) fl_RX10_156 ho rfl dX10_number_17 ?_
    refine re_aload_n X dX10_number_20 rfl rfl ?_
    refine re_getI X cl_10 (by decide) fl_RX10_146 ho rfl dX10_number_21 ?_
    refine re_icmp_ge (tgt := 104) X dX10_number_24 (by decide) (fun _ => ?_) (fun _ => ?_)
    · exact lb_X10_number_104 X ho x3 M
    · refine re_aload_n X dX10_number_27 rfl rfl ?_
      refine re_getR X cl_10 (by decide) fl_RX10_7 ho rfl (zR_10_1 ho) dX10_number_28 ?_
      refine re_aload_n X dX10_number_31 rfl rfl ?_
      refine re_getI X cl_10 (by decide) fl_RX10_156 ho rfl dX10_number_32 ?_
      refine re_ck (fun hi9 => ?_)
      refine re_bald X (zQ_10_1 X.clo ho) hi9 (j := zIx (M 74 3)) rfl dX10_number_35 ?_
      refine re_bipush (v := 48) X dX10_number_36 (by decide) ?_
      refine re_icmp_lt (tgt := 104) X dX10_number_38 (by decide) (fun _ => ?_) (fun _ => ?_)
      · exact lb_X10_number_104 X ho x3 M
      · refine re_aload_n X dX10_number_41 rfl rfl ?_
        refine re_getR X cl_10 (by decide) fl_RX10_7 ho rfl (zR_10_1 ho) dX10_number_42 ?_
        refine re_aload_n X dX10_number_45 rfl rfl ?_
        refine re_getI X cl_10 (by decide) fl_RX10_156 ho rfl dX10_number_46 ?_
        refine re_ck (fun hi10 => ?_)
        refine re_bald X (zQ_10_1 X.clo ho) hi10 (j := zIx (M 74 3)) rfl dX10_number_49 ?_
        refine re_bipush (v := 57) X dX10_number_50 (by decide) ?_
        refine re_icmp_gt (tgt := 104) X dX10_number_52 (by decide) (fun _ => ?_) (fun _ => ?_)
        · exact lb_X10_number_104 X ho x3 M
        · refine re_aload_n X dX10_number_55 rfl rfl ?_
          refine re_getI X cl_10 (by decide) fl_RX10_156 ho rfl dX10_number_56 ?_
          refine re_aload_n X dX10_number_59 rfl rfl ?_
          refine re_getI X cl_10 (by decide) fl_RX10_159 ho rfl dX10_number_60 ?_
          refine re_isub X dX10_number_63 ?_
          refine re_iconst (v := 4) X dX10_number_64 (by decide) ?_
          refine re_icmp_ge (tgt := 88) X dX10_number_65 (by decide) (fun _ => ?_) (fun _ => ?_)
          · refine re_ldc (v := 1000000) X co_RX10_183 dX10_number_88 ?_
            exact re_sub (lb_X10_number_90 X ho _ ih 1000000 M) ⟨rfl, ⟨rfl, ⟨rfl, trivial⟩⟩⟩
          · refine re_bipush (v := 10) X dX10_number_68 (by decide) ?_
            refine re_iload_n X dX10_number_70 rfl rfl ?_
            refine re_imul X dX10_number_71 ?_
            refine re_aload_n X dX10_number_72 rfl rfl ?_
            refine re_getR X cl_10 (by decide) fl_RX10_7 ho rfl (zR_10_1 ho) dX10_number_73 ?_
            refine re_aload_n X dX10_number_76 rfl rfl ?_
            refine re_getI X cl_10 (by decide) fl_RX10_156 ho rfl dX10_number_77 ?_
            refine re_ck (fun hi12 => ?_)
            refine re_bald X (zQ_10_1 X.clo ho) hi12 (j := zIx (M 74 3)) rfl dX10_number_80 ?_
            refine re_iadd X dX10_number_81 ?_
            refine re_bipush (v := 48) X dX10_number_82 (by decide) ?_
            refine re_isub X dX10_number_84 ?_
            refine re_goto (tgt := 90) X dX10_number_85 (by decide) ?_
            exact re_sub (lb_X10_number_90 X ho _ ih (((10 * x3) + (M 75 (zIx (M 74 3)))) - 48) M) ⟨rfl, ⟨rfl, ⟨rfl, trivial⟩⟩⟩

set_option maxRecDepth 100000 in
theorem lk_X10_number (l : Launch) (w : zWD) (u1 : Int32) (u2 : Int32) (ho : zKd w 74 = (10, 61)) : zMt l w yX10_number cX10_number 4 (some .int) rm_X10_number 1 [.ref (zA w 74), .int u1, .int u2] (fun M => f_X10_number u1 u2 M) := by
  refine zMt.of (by decide) [some (.ref (zA w 74)), some (.int u1), some (.int u2), none] rfl (zle rfl) (by intro v hv; simp only [List.mem_cons, List.not_mem_nil, or_false] at hv; rcases hv with rfl | rfl | rfl <;> rfl) ?_
  intro p e s m args below meth c X M
  unfold f_X10_number
  refine re_aload_n X dX10_number_0 rfl rfl ?_
  refine re_getI X cl_10 (by decide) fl_RX10_153 ho rfl dX10_number_1 ?_
  refine re_if_le (tgt := 9) X dX10_number_4 (by decide) (fun _ => ?_) (fun _ => ?_)
  · refine re_aload_n X dX10_number_9 rfl rfl ?_
    refine re_callVz X (lk_X10_isEnd l w ho) (ca_X10_isEnd (by decide) (by decide)) ml_RX10_162 im_X10_isEnd se_X10_isEnd cl_10 ho rfl rfl rfl (zle rfl) zRo dX10_number_10 (fun r1 M2 hr1 => ?_)
    refine re_pop X dX10_number_13 rfl ?_
    refine re_iconst (v := 0) X dX10_number_14 (by decide) ?_
    refine re_istore_n (lv' := [some (.ref (zA w 74)), some (.int u1), some (.int u2), some (.int 0)]) X dX10_number_15 rfl (zlt rfl) rfl ?_
    exact lb_X10_number_16 X ho zFu 0 M2
  · refine re_iconst (v := 0) X dX10_number_7 (by decide) ?_
    exact re_iret X dX10_number_8
theorem ca_X10_number {R : Room} (h1 : rm_X10_number.frames + 1 ≤ R.frames) (h2 : 8 + (4 + 11) + rm_X10_number.locals ≤ R.locals) : zCa yX10_number cX10_number 4 (some .int) rm_X10_number R 2 := ⟨cd_X10_number, iz_RX10, ⟨by decide, by decide, by decide⟩, rfl, rfl, h1, h2⟩
/-! DebateHouseModel.kindOf -/
abbrev rm_X10_kindOf : Room := { frames := 0, cells := 0, slots := 0, locals := 0 }
def f_X10_kindOf (u1 : Int32) (M : zMem) : zTr := if u1 = 0 then some (26, M) else if u1 = 1 then some (27, M) else if u1 = 2 then some (28, M) else if u1 = 3 then some (29, M) else if u1 = 4 then some (30, M) else if u1 = 5 then some (31, M) else if u1 = 6 then some (32, M) else some (33, M)
set_option maxRecDepth 100000 in
theorem lk_X10_kindOf (l : Launch) (w : zWD) (u1 : Int32) (ho : zKd w 74 = (10, 61)) : zMt l w yX10_kindOf cX10_kindOf 2 (some (.object "java/lang/String")) rm_X10_kindOf 3 [.ref (zA w 74), .int u1] (fun M => f_X10_kindOf u1 M) := by
  refine zMt.of (by decide) [some (.ref (zA w 74)), some (.int u1)] rfl (zle rfl) (by intro v hv; simp only [List.mem_cons, List.not_mem_nil, or_false] at hv; rcases hv with rfl | rfl <;> rfl) ?_
  intro p e s m args below meth c X M
  unfold f_X10_kindOf
  refine re_iload_n X dX10_kindOf_0 rfl rfl ?_
  refine re_if (fun e1 => ?_) (fun e1 => ?_)
  · refine re_sw_in (v := 0) (off := 43) (tgt := 44) X dX10_kindOf_1 e1 (by decide) (by decide) (by decide +kernel) (by decide) ?_
    refine re_ldcS (k := 26) (tx := "main") X (by decide +kernel) dX10_kindOf_44 ?_
    exact re_sret X (by decide) (by decide) dX10_kindOf_46
  refine re_if (fun e2 => ?_) (fun e2 => ?_)
  · refine re_sw_in (v := 1) (off := 46) (tgt := 47) X dX10_kindOf_1 e2 (by decide) (by decide) (by decide +kernel) (by decide) ?_
    refine re_ldcS (k := 27) (tx := "amend") X (by decide +kernel) dX10_kindOf_47 ?_
    exact re_sret X (by decide) (by decide) dX10_kindOf_49
  refine re_if (fun e3 => ?_) (fun e3 => ?_)
  · refine re_sw_in (v := 2) (off := 49) (tgt := 50) X dX10_kindOf_1 e3 (by decide) (by decide) (by decide +kernel) (by decide) ?_
    refine re_ldcS (k := 28) (tx := "close") X (by decide +kernel) dX10_kindOf_50 ?_
    exact re_sret X (by decide) (by decide) dX10_kindOf_52
  refine re_if (fun e4 => ?_) (fun e4 => ?_)
  · refine re_sw_in (v := 3) (off := 52) (tgt := 53) X dX10_kindOf_1 e4 (by decide) (by decide) (by decide +kernel) (by decide) ?_
    refine re_ldcS (k := 29) (tx := "limit") X (by decide +kernel) dX10_kindOf_53 ?_
    exact re_sret X (by decide) (by decide) dX10_kindOf_55
  refine re_if (fun e5 => ?_) (fun e5 => ?_)
  · refine re_sw_in (v := 4) (off := 55) (tgt := 56) X dX10_kindOf_1 e5 (by decide) (by decide) (by decide +kernel) (by decide) ?_
    refine re_ldcS (k := 30) (tx := "table") X (by decide +kernel) dX10_kindOf_56 ?_
    exact re_sret X (by decide) (by decide) dX10_kindOf_58
  refine re_if (fun e6 => ?_) (fun e6 => ?_)
  · refine re_sw_in (v := 5) (off := 58) (tgt := 59) X dX10_kindOf_1 e6 (by decide) (by decide) (by decide +kernel) (by decide) ?_
    refine re_ldcS (k := 31) (tx := "recess") X (by decide +kernel) dX10_kindOf_59 ?_
    exact re_sret X (by decide) (by decide) dX10_kindOf_61
  refine re_if (fun e7 => ?_) (fun e7 => ?_)
  · refine re_sw_in (v := 6) (off := 61) (tgt := 62) X dX10_kindOf_1 e7 (by decide) (by decide) (by decide +kernel) (by decide) ?_
    refine re_ldcS (k := 32) (tx := "adjourn") X (by decide +kernel) dX10_kindOf_62 ?_
    exact re_sret X (by decide) (by decide) dX10_kindOf_64
  refine re_sw_out (tgt := 65) X dX10_kindOf_1 (by
      have e1 := lv_neT (a := 0) e1 (by decide)
      have e2 := lv_neT (a := 1) e2 (by decide)
      have e3 := lv_neT (a := 2) e3 (by decide)
      have e4 := lv_neT (a := 3) e4 (by decide)
      have e5 := lv_neT (a := 4) e5 (by decide)
      have e6 := lv_neT (a := 5) e6 (by decide)
      have e7 := lv_neT (a := 6) e7 (by decide)
      omega) (by decide) ?_
  refine re_ldcS (k := 33) (tx := "appeal") X (by decide +kernel) dX10_kindOf_65 ?_
  exact re_sret X (by decide) (by decide) dX10_kindOf_67
theorem ca_X10_kindOf {R : Room} (h1 : rm_X10_kindOf.frames + 1 ≤ R.frames) (h2 : 8 + (2 + 11) + rm_X10_kindOf.locals ≤ R.locals) : zCa yX10_kindOf cX10_kindOf 2 (some (.object "java/lang/String")) rm_X10_kindOf R 1 := ⟨cd_X10_kindOf, iz_RX10, ⟨by decide, by decide, by decide⟩, rfl, rfl, h1, h2⟩
/-! DebateHouseModel.wayOf -/
abbrev rm_X10_wayOf : Room := { frames := 0, cells := 0, slots := 0, locals := 0 }
def f_X10_wayOf (u1 : Int32) (M : zMem) : zTr := if u1 = 0 then some (38, M) else if u1 = 1 then some (39, M) else if u1 = 2 then some (40, M) else some (41, M)
set_option maxRecDepth 100000 in
theorem lk_X10_wayOf (l : Launch) (w : zWD) (u1 : Int32) (ho : zKd w 74 = (10, 61)) : zMt l w yX10_wayOf cX10_wayOf 2 (some (.object "java/lang/String")) rm_X10_wayOf 3 [.ref (zA w 74), .int u1] (fun M => f_X10_wayOf u1 M) := by
  refine zMt.of (by decide) [some (.ref (zA w 74)), some (.int u1)] rfl (zle rfl) (by intro v hv; simp only [List.mem_cons, List.not_mem_nil, or_false] at hv; rcases hv with rfl | rfl <;> rfl) ?_
  intro p e s m args below meth c X M
  unfold f_X10_wayOf
  refine re_iload_n X dX10_wayOf_0 rfl rfl ?_
  refine re_if_ne (tgt := 9) X dX10_wayOf_1 (by decide) (fun _ => ?_) (fun _ => ?_)
  · refine re_ldcS (k := 38) (tx := "half") X (by decide +kernel) dX10_wayOf_4 ?_
    refine re_goto (tgt := 31) X dX10_wayOf_6 (by decide) ?_
    exact re_sret X (by decide) (by decide) dX10_wayOf_31
  · refine re_iload_n X dX10_wayOf_9 rfl rfl ?_
    refine re_iconst (v := 1) X dX10_wayOf_10 (by decide) ?_
    refine re_icmp_ne (tgt := 19) X dX10_wayOf_11 (by decide) (fun _ => ?_) (fun _ => ?_)
    · refine re_ldcS (k := 39) (tx := "thirds") X (by decide +kernel) dX10_wayOf_14 ?_
      refine re_goto (tgt := 31) X dX10_wayOf_16 (by decide) ?_
      exact re_sret X (by decide) (by decide) dX10_wayOf_31
    · refine re_iload_n X dX10_wayOf_19 rfl rfl ?_
      refine re_iconst (v := 2) X dX10_wayOf_20 (by decide) ?_
      refine re_icmp_ne (tgt := 29) X dX10_wayOf_21 (by decide) (fun _ => ?_) (fun _ => ?_)
      · refine re_ldcS (k := 40) (tx := "quarter") X (by decide +kernel) dX10_wayOf_24 ?_
        refine re_goto (tgt := 31) X dX10_wayOf_26 (by decide) ?_
        exact re_sret X (by decide) (by decide) dX10_wayOf_31
      · refine re_ldcS (k := 41) (tx := "chair") X (by decide +kernel) dX10_wayOf_29 ?_
        exact re_sret X (by decide) (by decide) dX10_wayOf_31
theorem ca_X10_wayOf {R : Room} (h1 : rm_X10_wayOf.frames + 1 ≤ R.frames) (h2 : 8 + (2 + 11) + rm_X10_wayOf.locals ≤ R.locals) : zCa yX10_wayOf cX10_wayOf 2 (some (.object "java/lang/String")) rm_X10_wayOf R 1 := ⟨cd_X10_wayOf, iz_RX10, ⟨by decide, by decide, by decide⟩, rfl, rfl, h1, h2⟩
/-! DebateHouseModel.clauseOf -/
abbrev rm_X10_clauseOf : Room := { frames := 0, cells := 0, slots := 0, locals := 0 }
def f_X10_clauseOf (u1 : Int32) (M : zMem) : zTr := if u1 = 0 then some (42, M) else if u1 = 1 then some (43, M) else if u1 = 2 then some (44, M) else some (45, M)
set_option maxRecDepth 100000 in
theorem lk_X10_clauseOf (l : Launch) (w : zWD) (u1 : Int32) (ho : zKd w 74 = (10, 61)) : zMt l w yX10_clauseOf cX10_clauseOf 2 (some (.object "java/lang/String")) rm_X10_clauseOf 3 [.ref (zA w 74), .int u1] (fun M => f_X10_clauseOf u1 M) := by
  refine zMt.of (by decide) [some (.ref (zA w 74)), some (.int u1)] rfl (zle rfl) (by intro v hv; simp only [List.mem_cons, List.not_mem_nil, or_false] at hv; rcases hv with rfl | rfl <;> rfl) ?_
  intro p e s m args below meth c X M
  unfold f_X10_clauseOf
  refine re_iload_n X dX10_clauseOf_0 rfl rfl ?_
  refine re_if_ne (tgt := 9) X dX10_clauseOf_1 (by decide) (fun _ => ?_) (fun _ => ?_)
  · refine re_ldcS (k := 42) (tx := "time") X (by decide +kernel) dX10_clauseOf_4 ?_
    refine re_goto (tgt := 31) X dX10_clauseOf_6 (by decide) ?_
    exact re_sret X (by decide) (by decide) dX10_clauseOf_31
  · refine re_iload_n X dX10_clauseOf_9 rfl rfl ?_
    refine re_iconst (v := 1) X dX10_clauseOf_10 (by decide) ?_
    refine re_icmp_ne (tgt := 19) X dX10_clauseOf_11 (by decide) (fun _ => ?_) (fun _ => ?_)
    · refine re_ldcS (k := 43) (tx := "quorum") X (by decide +kernel) dX10_clauseOf_14 ?_
      refine re_goto (tgt := 31) X dX10_clauseOf_16 (by decide) ?_
      exact re_sret X (by decide) (by decide) dX10_clauseOf_31
    · refine re_iload_n X dX10_clauseOf_19 rfl rfl ?_
      refine re_iconst (v := 2) X dX10_clauseOf_20 (by decide) ?_
      refine re_icmp_ne (tgt := 29) X dX10_clauseOf_21 (by decide) (fun _ => ?_) (fun _ => ?_)
      · refine re_ldcS (k := 44) (tx := "turns") X (by decide +kernel) dX10_clauseOf_24 ?_
        refine re_goto (tgt := 31) X dX10_clauseOf_26 (by decide) ?_
        exact re_sret X (by decide) (by decide) dX10_clauseOf_31
      · refine re_ldcS (k := 45) (tx := "yields") X (by decide +kernel) dX10_clauseOf_29 ?_
        exact re_sret X (by decide) (by decide) dX10_clauseOf_31
theorem ca_X10_clauseOf {R : Room} (h1 : rm_X10_clauseOf.frames + 1 ≤ R.frames) (h2 : 8 + (2 + 11) + rm_X10_clauseOf.locals ≤ R.locals) : zCa yX10_clauseOf cX10_clauseOf 2 (some (.object "java/lang/String")) rm_X10_clauseOf R 1 := ⟨cd_X10_clauseOf, iz_RX10, ⟨by decide, by decide, by decide⟩, rfl, rfl, h1, h2⟩
/-! DebateHouseModel.one -/
abbrev rm_X10_one : Room := { frames := 5, cells := 0, slots := 0, locals := 108 }
def f_X10_one_B36 (u1 : Int32) (u2 : Int32)  (M : zMem) : zTr := if (M 74 5) = 0 then zBd (f_X10_is u1 M) (fun r9 M10 => if r9 = 0 then some (0, M10) else some (1, M10)) else some (0, M)
def f_X10_one (u1 : Int32) (u2 : Int32) (M : zMem) : zTr := zBd (f_X10_word M) (fun _ M2 => if (M2 74 5) = 0 then zBd (f_X10_is u1 M2) (fun r3 M4 => if r3 = 0 then zBd (f_X10_is u2 M4) (fun r5 M6 => if r5 = 0 then zBd (f_X10_fails 1 (M6 74 4) M6) (fun _ M8 => f_X10_one_B36 u1 u2 M8) else f_X10_one_B36 u1 u2 M6) else f_X10_one_B36 u1 u2 M4) else f_X10_one_B36 u1 u2 M2)
set_option maxRecDepth 100000 in
theorem lb_X10_one_36 {p : Program} {l : Launch} {e : Env} {s : State} {m : MethodId} {args : Array Value} {below : List Frame} {meth : Method} {c : Code} {w : zWD} {u1 : Int32} {u2 : Int32} (X : zCx p s m args meth c w (zFree w) RX10 cX10_one 3 (some .boolean)) (ho : zKd w 74 = (10, 61)) (hu1 : zIx u1 < zNS) (hu2 : zIx u2 < zNS) : ∀ (M : zMem), zRm p l e rm_X10_one s m args below meth c w 2 36 [some (.ref (zA w 74)), some (.ref (zK w (zIx u1))), none] [] M (f_X10_one_B36 u1 u2 M) := by
  intro M
  unfold f_X10_one_B36
  refine re_aload_n X dX10_one_36 rfl rfl ?_
  refine re_getI X cl_10 (by decide) fl_RX10_153 ho rfl dX10_one_37 ?_
  refine re_if_ne (tgt := 55) X dX10_one_40 (by decide) (fun _ => ?_) (fun _ => ?_)
  · refine re_aload_n X dX10_one_43 rfl rfl ?_
    refine re_aload_n X dX10_one_44 rfl rfl ?_
    refine re_callVz X (lk_X10_is l w u1 ho hu1) (ca_X10_is (by decide) (by decide)) ml_RX10_220 im_X10_is se_X10_is cl_10 ho rfl rfl rfl (zle rfl) zRo dX10_one_45 (fun r9 M10 hr9 => ?_)
    refine re_if_eq (tgt := 55) X dX10_one_48 (by decide) (fun _ => ?_) (fun _ => ?_)
    · refine re_iconst (v := 0) X dX10_one_55 (by decide) ?_
      exact re_zret X (Or.inl rfl) dX10_one_56
    · refine re_iconst (v := 1) X dX10_one_51 (by decide) ?_
      refine re_goto (tgt := 56) X dX10_one_52 (by decide) ?_
      exact re_zret X (Or.inr rfl) dX10_one_56
  · refine re_iconst (v := 0) X dX10_one_55 (by decide) ?_
    exact re_zret X (Or.inl rfl) dX10_one_56

set_option maxRecDepth 100000 in
theorem lk_X10_one (l : Launch) (w : zWD) (u1 : Int32) (u2 : Int32) (ho : zKd w 74 = (10, 61)) (hu1 : zIx u1 < zNS) (hu2 : zIx u2 < zNS) : zMt l w yX10_one cX10_one 3 (some .boolean) rm_X10_one 2 [.ref (zA w 74), .ref (zK w (zIx u1)), .ref (zK w (zIx u2))] (fun M => f_X10_one u1 u2 M) := by
  refine zMt.of (by decide) [some (.ref (zA w 74)), some (.ref (zK w (zIx u1))), some (.ref (zK w (zIx u2)))] rfl (zle rfl) (by intro v hv; simp only [List.mem_cons, List.not_mem_nil, or_false] at hv; rcases hv with rfl | rfl | rfl <;> rfl) ?_
  intro p e s m args below meth c X M
  unfold f_X10_one
  refine re_aload_n X dX10_one_0 rfl rfl ?_
  refine re_callVv X (lk_X10_word l w ho) (ca_X10_word (by decide) (by decide)) ml_RX10_217 im_X10_word se_X10_word cl_10 ho rfl rfl rfl (zle rfl) zRo dX10_one_1 (fun r1 M2 hr1 => ?_)
  refine re_aload_n X dX10_one_4 rfl rfl ?_
  refine re_getI X cl_10 (by decide) fl_RX10_153 ho rfl dX10_one_5 ?_
  refine re_if_ne (tgt := 36) X dX10_one_8 (by decide) (fun _ => ?_) (fun _ => ?_)
  · refine re_aload_n X dX10_one_11 rfl rfl ?_
    refine re_aload_n X dX10_one_12 rfl rfl ?_
    refine re_callVz X (lk_X10_is l w u1 ho hu1) (ca_X10_is (by decide) (by decide)) ml_RX10_220 im_X10_is se_X10_is cl_10 ho rfl rfl rfl (zle rfl) zRo dX10_one_13 (fun r3 M4 hr3 => ?_)
    refine re_if_ne (tgt := 36) X dX10_one_16 (by decide) (fun _ => ?_) (fun _ => ?_)
    · refine re_aload_n X dX10_one_19 rfl rfl ?_
      refine re_aload_n X dX10_one_20 rfl rfl ?_
      refine re_callVz X (lk_X10_is l w u2 ho hu2) (ca_X10_is (by decide) (by decide)) ml_RX10_220 im_X10_is se_X10_is cl_10 ho rfl rfl rfl (zle rfl) zRo dX10_one_21 (fun r5 M6 hr5 => ?_)
      refine re_if_ne (tgt := 36) X dX10_one_24 (by decide) (fun _ => ?_) (fun _ => ?_)
      · refine re_aload_n X dX10_one_27 rfl rfl ?_
        refine re_iconst (v := 1) X dX10_one_28 (by decide) ?_
        refine re_aload_n X dX10_one_29 rfl rfl ?_
        refine re_getI X cl_10 (by decide) fl_RX10_159 ho rfl dX10_one_30 ?_
        refine re_callVv X (lk_X10_fails l w 1 (M6 74 4) ho) (ca_X10_fails (by decide) (by decide)) ml_RX10_169 im_X10_fails se_X10_fails cl_10 ho rfl rfl rfl (zle rfl) zRo dX10_one_33 (fun r7 M8 hr7 => ?_)
        exact re_sub (lb_X10_one_36 X ho hu1 hu2 M8) ⟨rfl, ⟨rfl, trivial⟩⟩
      · exact re_sub (lb_X10_one_36 X ho hu1 hu2 M6) ⟨rfl, ⟨rfl, trivial⟩⟩
    · exact re_sub (lb_X10_one_36 X ho hu1 hu2 M4) ⟨rfl, ⟨rfl, trivial⟩⟩
  · exact re_sub (lb_X10_one_36 X ho hu1 hu2 M2) ⟨rfl, ⟨rfl, trivial⟩⟩
theorem ca_X10_one {R : Room} (h1 : rm_X10_one.frames + 1 ≤ R.frames) (h2 : 8 + (3 + 11) + rm_X10_one.locals ≤ R.locals) : zCa yX10_one cX10_one 3 (some .boolean) rm_X10_one R 2 := ⟨cd_X10_one, iz_RX10, ⟨by decide, by decide, by decide⟩, rfl, rfl, h1, h2⟩
/-! DebateHouseModel.motion -/
abbrev rm_X10_motion : Room := { frames := 6, cells := 0, slots := 0, locals := 130 }
def f_X10_motion_B261   (x1 : Int32) (x2 : Int32) (M : zMem) : zTr := zCk (zIn x1 8) (zLt (zUp M 82 (zIx x1) x2) (fun M34 => some (0, M34)))
def f_X10_motion_B240   (x1 : Int32) (x2 : Int32) (M : zMem) : zTr := if (M 74 5) = 0 then (if x2 = 4 then zBd (f_X10_fails 1 (M 74 4) M) (fun _ M33 => f_X10_motion_B261 x1 x2 M33) else f_X10_motion_B261 x1 x2 M) else f_X10_motion_B261 x1 x2 M
def f_X10_motion_L217   : Nat → Int32 → Int32 → zMem → zTr
  | 0, _, _, _ => none
  | n + 1, x1, x2, M => if 4 ≤ x2 then f_X10_motion_B240 x1 x2 M else zBd (f_X10_wayOf x2 M) (fun r36 M37 => zBd (f_X10_is r36 M37) (fun r38 M39 => if r38 = 0 then f_X10_motion_L217 n x1 (x2 + 1) M39 else f_X10_motion_B240 x1 x2 M39))
def f_X10_motion_B203   (x1 : Int32) (M : zMem) : zTr := if (M 74 5) ≤ 0 then zBd (f_X10_word M) (fun _ M31 => f_X10_motion_L217 zFu x1 0 M31) else some (0, M)
def f_X10_motion_B178   (x1 : Int32) (M : zMem) : zTr := if (M 74 5) = 0 then zBd (f_X10_is 37 M) (fun r26 M27 => if r26 = 0 then zBd (f_X10_fails 1 (M27 74 4) M27) (fun _ M29 => f_X10_motion_B203 x1 M29) else f_X10_motion_B203 x1 M27) else f_X10_motion_B203 x1 M
def f_X10_motion_B149   (x1 : Int32) (M : zMem) : zTr := zBd (f_X10_is 36 M) (fun r21 M22 => zCk (zIn x1 8) (zLt (zUp M22 88 (zIx x1) r21) (fun M23 => zCk (zIn x1 8) (if (M23 88 (zIx x1)) = 0 then f_X10_motion_B178 x1 M23 else zBd (f_X10_word M23) (fun _ M41 => f_X10_motion_B178 x1 M41)))))
def f_X10_motion_B30   (x1 : Int32) (M : zMem) : zTr := if (M 74 5) ≤ 0 then (if x1 = 8 then zBd (f_X10_fails 1 (M 74 4) M) (fun _ M4 => some (0, M4)) else zCk (zIn (4 + x1) 12) (if (M 76 (zIx (4 + x1))) = 0 then zCk (zIn (4 + x1) 12) (zLt (zUp M 76 (zIx (4 + x1)) 1) (fun M6 => zBd (f_X10_one 34 34 M6) (fun r8 M9 => zBd (f_X10_number 1 99 M9) (fun r10 M11 => zCk (zIn x1 8) (zLt (zUp M11 79 (zIx x1) r10) (fun M12 => if (M12 74 5) ≤ 0 then zBd (f_X10_word M12) (fun _ M15 => zBd (f_X10_is 35 M15) (fun r16 M17 => zCk (zIn x1 8) (zLt (zUp M17 85 (zIx x1) r16) (fun M18 => zCk (zIn x1 8) (if (M18 85 (zIx x1)) = 0 then f_X10_motion_B149 x1 M18 else zBd (f_X10_word M18) (fun _ M43 => f_X10_motion_B149 x1 M43)))))) else some (0, M12))))))) else zBd (f_X10_fails 3 (M 74 4) M) (fun _ M45 => some (0, M45)))) else some (0, M)
def f_X10_motion_L6   : Nat → Int32 → zMem → zTr
  | 0, _, _ => none
  | n + 1, x1, M => if 8 ≤ x1 then f_X10_motion_B30 x1 M else zBd (f_X10_kindOf x1 M) (fun r46 M47 => zBd (f_X10_is r46 M47) (fun r48 M49 => if r48 = 0 then f_X10_motion_L6 n (x1 + 1) M49 else f_X10_motion_B30 x1 M49))
def f_X10_motion  (M : zMem) : zTr := zBd (f_X10_word M) (fun _ M2 => f_X10_motion_L6 zFu 0 M2)
set_option maxRecDepth 100000 in
theorem lb_X10_motion_261 {p : Program} {l : Launch} {e : Env} {s : State} {m : MethodId} {args : Array Value} {below : List Frame} {meth : Method} {c : Code} {w : zWD} (X : zCx p s m args meth c w (zFree w) RX10 cX10_motion 3 none) (ho : zKd w 74 = (10, 61)) : ∀ (x1 : Int32) (x2 : Int32) (M : zMem), zRm p l e rm_X10_motion s m args below meth c w 0 261 [some (.ref (zA w 74)), some (.int x1), some (.int x2)] [] M (f_X10_motion_B261 x1 x2 M) := by
  intro x1 x2 M
  unfold f_X10_motion_B261
  refine re_aload_n X dX10_motion_261 rfl rfl ?_
  refine re_getR X cl_10 (by decide) fl_RX10_22 ho rfl (zR_10_8 ho) dX10_motion_262 ?_
  refine re_iconst (v := 1) X dX10_motion_265 (by decide) ?_
  refine re_aald X (zQ_10_8 X.clo ho) (by decide) (by decide) rfl (rw_80 (by decide)) dX10_motion_266 ?_
  refine re_iload_n X dX10_motion_267 rfl rfl ?_
  refine re_iload_n X dX10_motion_268 rfl rfl ?_
  refine re_ck (fun hi35 => ?_)
  refine re_iast X (rk_80 X.clo (zQ_10_8 X.clo ho) (i := 1) (by decide)) hi35 (j := zIx x1) rfl dX10_motion_269 (fun M34 => ?_)
  exact re_vret X dX10_motion_270

set_option maxRecDepth 100000 in
theorem lb_X10_motion_240 {p : Program} {l : Launch} {e : Env} {s : State} {m : MethodId} {args : Array Value} {below : List Frame} {meth : Method} {c : Code} {w : zWD} (X : zCx p s m args meth c w (zFree w) RX10 cX10_motion 3 none) (ho : zKd w 74 = (10, 61)) : ∀ (x1 : Int32) (x2 : Int32) (M : zMem), zRm p l e rm_X10_motion s m args below meth c w 0 240 [some (.ref (zA w 74)), some (.int x1), some (.int x2)] [] M (f_X10_motion_B240 x1 x2 M) := by
  intro x1 x2 M
  unfold f_X10_motion_B240
  refine re_aload_n X dX10_motion_240 rfl rfl ?_
  refine re_getI X cl_10 (by decide) fl_RX10_153 ho rfl dX10_motion_241 ?_
  refine re_if_ne (tgt := 261) X dX10_motion_244 (by decide) (fun _ => ?_) (fun _ => ?_)
  · refine re_iload_n X dX10_motion_247 rfl rfl ?_
    refine re_iconst (v := 4) X dX10_motion_248 (by decide) ?_
    refine re_icmp_ne (tgt := 261) X dX10_motion_249 (by decide) (fun _ => ?_) (fun _ => ?_)
    · refine re_aload_n X dX10_motion_252 rfl rfl ?_
      refine re_iconst (v := 1) X dX10_motion_253 (by decide) ?_
      refine re_aload_n X dX10_motion_254 rfl rfl ?_
      refine re_getI X cl_10 (by decide) fl_RX10_159 ho rfl dX10_motion_255 ?_
      refine re_callVv X (lk_X10_fails l w 1 (M 74 4) ho) (ca_X10_fails (by decide) (by decide)) ml_RX10_169 im_X10_fails se_X10_fails cl_10 ho rfl rfl rfl (zle rfl) zRo dX10_motion_258 (fun r32 M33 hr32 => ?_)
      exact lb_X10_motion_261 X ho x1 x2 M33
    · exact lb_X10_motion_261 X ho x1 x2 M
  · exact lb_X10_motion_261 X ho x1 x2 M

set_option maxRecDepth 100000 in
theorem lb_X10_motion_217 {p : Program} {l : Launch} {e : Env} {s : State} {m : MethodId} {args : Array Value} {below : List Frame} {meth : Method} {c : Code} {w : zWD} (X : zCx p s m args meth c w (zFree w) RX10 cX10_motion 3 none) (ho : zKd w 74 = (10, 61)) : ∀ (n : Nat) (x1 : Int32) (x2 : Int32) (M : zMem), zRm p l e rm_X10_motion s m args below meth c w 0 217 [some (.ref (zA w 74)), some (.int x1), some (.int x2)] [] M (f_X10_motion_L217 n x1 x2 M) := by
  intro n
  induction n with
  | zero => intro x1 x2 M; exact re_none
  | succ n ih =>
    intro x1 x2 M
    rw [f_X10_motion_L217]
    refine re_iload_n X dX10_motion_217 rfl rfl ?_
    refine re_iconst (v := 4) X dX10_motion_218 (by decide) ?_
    refine re_icmp_ge (tgt := 240) X dX10_motion_219 (by decide) (fun _ => ?_) (fun _ => ?_)
    · exact lb_X10_motion_240 X ho x1 x2 M
    · refine re_aload_n X dX10_motion_222 rfl rfl ?_
      refine re_aload_n X dX10_motion_223 rfl rfl ?_
      refine re_iload_n X dX10_motion_224 rfl rfl ?_
      refine re_callVs X (lk_X10_wayOf l w x2 ho) (ca_X10_wayOf (by decide) (by decide)) ml_RX10_241 im_X10_wayOf se_X10_wayOf cl_10 ho rfl rfl rfl (zle rfl) zRo dX10_motion_225 (fun r36 M37 hr36 => ?_)
      refine re_callVz X (lk_X10_is l w r36 ho hr36) (ca_X10_is (by decide) (by decide)) ml_RX10_220 im_X10_is se_X10_is cl_10 ho rfl rfl rfl (zle rfl) zRo dX10_motion_228 (fun r38 M39 hr38 => ?_)
      refine re_if_ne (tgt := 240) X dX10_motion_231 (by decide) (fun _ => ?_) (fun _ => ?_)
      · refine re_iinc (v := 1) (lv' := [some (.ref (zA w 74)), some (.int x1), some (.int (x2 + 1))]) X dX10_motion_234 rfl (by decide) rfl ?_
        refine re_goto (tgt := 217) X dX10_motion_237 (by decide) ?_
        exact ih x1 (x2 + 1) M39
      · exact lb_X10_motion_240 X ho x1 x2 M39

set_option maxRecDepth 100000 in
theorem lb_X10_motion_203 {p : Program} {l : Launch} {e : Env} {s : State} {m : MethodId} {args : Array Value} {below : List Frame} {meth : Method} {c : Code} {w : zWD} (X : zCx p s m args meth c w (zFree w) RX10 cX10_motion 3 none) (ho : zKd w 74 = (10, 61)) : ∀ (x1 : Int32) (M : zMem), zRm p l e rm_X10_motion s m args below meth c w 0 203 [some (.ref (zA w 74)), some (.int x1), none] [] M (f_X10_motion_B203 x1 M) := by
  intro x1 M
  unfold f_X10_motion_B203
  refine re_aload_n X dX10_motion_203 rfl rfl ?_
  refine re_getI X cl_10 (by decide) fl_RX10_153 ho rfl dX10_motion_204 ?_
  refine re_if_le (tgt := 211) X dX10_motion_207 (by decide) (fun _ => ?_) (fun _ => ?_)
  · refine re_aload_n X dX10_motion_211 rfl rfl ?_
    refine re_callVv X (lk_X10_word l w ho) (ca_X10_word (by decide) (by decide)) ml_RX10_217 im_X10_word se_X10_word cl_10 ho rfl rfl rfl (zle rfl) zRo dX10_motion_212 (fun r30 M31 hr30 => ?_)
    refine re_iconst (v := 0) X dX10_motion_215 (by decide) ?_
    refine re_istore_n (lv' := [some (.ref (zA w 74)), some (.int x1), some (.int 0)]) X dX10_motion_216 rfl (zlt rfl) rfl ?_
    exact lb_X10_motion_217 X ho zFu x1 0 M31
  · exact re_vret X dX10_motion_210

set_option maxRecDepth 100000 in
theorem lb_X10_motion_178 {p : Program} {l : Launch} {e : Env} {s : State} {m : MethodId} {args : Array Value} {below : List Frame} {meth : Method} {c : Code} {w : zWD} (X : zCx p s m args meth c w (zFree w) RX10 cX10_motion 3 none) (ho : zKd w 74 = (10, 61)) : ∀ (x1 : Int32) (M : zMem), zRm p l e rm_X10_motion s m args below meth c w 0 178 [some (.ref (zA w 74)), some (.int x1), none] [] M (f_X10_motion_B178 x1 M) := by
  intro x1 M
  unfold f_X10_motion_B178
  refine re_aload_n X dX10_motion_178 rfl rfl ?_
  refine re_getI X cl_10 (by decide) fl_RX10_153 ho rfl dX10_motion_179 ?_
  refine re_if_ne (tgt := 203) X dX10_motion_182 (by decide) (fun _ => ?_) (fun _ => ?_)
  · refine re_aload_n X dX10_motion_185 rfl rfl ?_
    refine re_ldcS (k := 37) (tx := "pass") X (by decide +kernel) dX10_motion_186 ?_
    refine re_callVz X (lk_X10_is l w 37 ho (by decide)) (ca_X10_is (by decide) (by decide)) ml_RX10_220 im_X10_is se_X10_is cl_10 ho rfl rfl rfl (zle rfl) zRo dX10_motion_188 (fun r26 M27 hr26 => ?_)
    refine re_if_ne (tgt := 203) X dX10_motion_191 (by decide) (fun _ => ?_) (fun _ => ?_)
    · refine re_aload_n X dX10_motion_194 rfl rfl ?_
      refine re_iconst (v := 1) X dX10_motion_195 (by decide) ?_
      refine re_aload_n X dX10_motion_196 rfl rfl ?_
      refine re_getI X cl_10 (by decide) fl_RX10_159 ho rfl dX10_motion_197 ?_
      refine re_callVv X (lk_X10_fails l w 1 (M27 74 4) ho) (ca_X10_fails (by decide) (by decide)) ml_RX10_169 im_X10_fails se_X10_fails cl_10 ho rfl rfl rfl (zle rfl) zRo dX10_motion_200 (fun r28 M29 hr28 => ?_)
      exact lb_X10_motion_203 X ho x1 M29
    · exact lb_X10_motion_203 X ho x1 M27
  · exact lb_X10_motion_203 X ho x1 M

set_option maxRecDepth 100000 in
theorem lb_X10_motion_149 {p : Program} {l : Launch} {e : Env} {s : State} {m : MethodId} {args : Array Value} {below : List Frame} {meth : Method} {c : Code} {w : zWD} (X : zCx p s m args meth c w (zFree w) RX10 cX10_motion 3 none) (ho : zKd w 74 = (10, 61)) : ∀ (x1 : Int32) (M : zMem), zRm p l e rm_X10_motion s m args below meth c w 0 149 [some (.ref (zA w 74)), some (.int x1), none] [] M (f_X10_motion_B149 x1 M) := by
  intro x1 M
  unfold f_X10_motion_B149
  refine re_aload_n X dX10_motion_149 rfl rfl ?_
  refine re_getR X cl_10 (by decide) fl_RX10_30 ho rfl (zR_10_10 ho) dX10_motion_150 ?_
  refine re_iconst (v := 1) X dX10_motion_153 (by decide) ?_
  refine re_aald X (zQ_10_10 X.clo ho) (by decide) (by decide) rfl (rw_86 (by decide)) dX10_motion_154 ?_
  refine re_iload_n X dX10_motion_155 rfl rfl ?_
  refine re_aload_n X dX10_motion_156 rfl rfl ?_
  refine re_ldcS (k := 36) (tx := "debate") X (by decide +kernel) dX10_motion_157 ?_
  refine re_callVz X (lk_X10_is l w 36 ho (by decide)) (ca_X10_is (by decide) (by decide)) ml_RX10_220 im_X10_is se_X10_is cl_10 ho rfl rfl rfl (zle rfl) zRo dX10_motion_159 (fun r21 M22 hr21 => ?_)
  refine re_ck (fun hi24 => ?_)
  refine re_zast X (rk_86 X.clo (zQ_10_10 X.clo ho) (i := 1) (by decide)) hi24 (j := zIx x1) rfl (zNar_b hr21) dX10_motion_162 (fun M23 => ?_)
  refine re_aload_n X dX10_motion_163 rfl rfl ?_
  refine re_getR X cl_10 (by decide) fl_RX10_30 ho rfl (zR_10_10 ho) dX10_motion_164 ?_
  refine re_iconst (v := 1) X dX10_motion_167 (by decide) ?_
  refine re_aald X (zQ_10_10 X.clo ho) (by decide) (by decide) rfl (rw_86 (by decide)) dX10_motion_168 ?_
  refine re_iload_n X dX10_motion_169 rfl rfl ?_
  refine re_ck (fun hi25 => ?_)
  refine re_zald X (rk_86 X.clo (zQ_10_10 X.clo ho) (i := 1) (by decide)) hi25 (j := zIx x1) rfl dX10_motion_170 ?_
  refine re_if_eq (tgt := 178) X dX10_motion_171 (by decide) (fun _ => ?_) (fun _ => ?_)
  · exact lb_X10_motion_178 X ho x1 M23
  · refine re_aload_n X dX10_motion_174 rfl rfl ?_
    refine re_callVv X (lk_X10_word l w ho) (ca_X10_word (by decide) (by decide)) ml_RX10_217 im_X10_word se_X10_word cl_10 ho rfl rfl rfl (zle rfl) zRo dX10_motion_175 (fun r40 M41 hr40 => ?_)
    exact lb_X10_motion_178 X ho x1 M41

set_option maxRecDepth 100000 in
theorem lb_X10_motion_30 {p : Program} {l : Launch} {e : Env} {s : State} {m : MethodId} {args : Array Value} {below : List Frame} {meth : Method} {c : Code} {w : zWD} (X : zCx p s m args meth c w (zFree w) RX10 cX10_motion 3 none) (ho : zKd w 74 = (10, 61)) : ∀ (x1 : Int32) (M : zMem), zRm p l e rm_X10_motion s m args below meth c w 0 30 [some (.ref (zA w 74)), some (.int x1), none] [] M (f_X10_motion_B30 x1 M) := by
  intro x1 M
  unfold f_X10_motion_B30
  refine re_aload_n X dX10_motion_30 rfl rfl ?_
  refine re_getI X cl_10 (by decide) fl_RX10_153 ho rfl dX10_motion_31 ?_
  refine re_if_le (tgt := 38) X dX10_motion_34 (by decide) (fun _ => ?_) (fun _ => ?_)
  · refine re_iload_n X dX10_motion_38 rfl rfl ?_
    refine re_bipush (v := 8) X dX10_motion_39 (by decide) ?_
    refine re_icmp_ne (tgt := 54) X dX10_motion_41 (by decide) (fun _ => ?_) (fun _ => ?_)
    · refine re_aload_n X dX10_motion_44 rfl rfl ?_
      refine re_iconst (v := 1) X dX10_motion_45 (by decide) ?_
      refine re_aload_n X dX10_motion_46 rfl rfl ?_
      refine re_getI X cl_10 (by decide) fl_RX10_159 ho rfl dX10_motion_47 ?_
      refine re_callVv X (lk_X10_fails l w 1 (M 74 4) ho) (ca_X10_fails (by decide) (by decide)) ml_RX10_169 im_X10_fails se_X10_fails cl_10 ho rfl rfl rfl (zle rfl) zRo dX10_motion_50 (fun r3 M4 hr3 => ?_)
      exact re_vret X dX10_motion_53
    · refine re_aload_n X dX10_motion_54 rfl rfl ?_
      refine re_getR X cl_10 (by decide) fl_RX10_13 ho rfl (zR_10_6 ho) dX10_motion_55 ?_
      refine re_iconst (v := 4) X dX10_motion_58 (by decide) ?_
      refine re_iload_n X dX10_motion_59 rfl rfl ?_
      refine re_iadd X dX10_motion_60 ?_
      refine re_ck (fun hi5 => ?_)
      refine re_zald X (zQ_10_6 X.clo ho) hi5 (j := zIx (4 + x1)) rfl dX10_motion_61 ?_
      refine re_if_eq (tgt := 75) X dX10_motion_62 (by decide) (fun _ => ?_) (fun _ => ?_)
      · refine re_aload_n X dX10_motion_75 rfl rfl ?_
        refine re_getR X cl_10 (by decide) fl_RX10_13 ho rfl (zR_10_6 ho) dX10_motion_76 ?_
        refine re_iconst (v := 4) X dX10_motion_79 (by decide) ?_
        refine re_iload_n X dX10_motion_80 rfl rfl ?_
        refine re_iadd X dX10_motion_81 ?_
        refine re_iconst (v := 1) X dX10_motion_82 (by decide) ?_
        refine re_ck (fun hi7 => ?_)
        refine re_zast X (zQ_10_6 X.clo ho) hi7 (j := zIx (4 + x1)) rfl (zNar_b (Or.inr rfl)) dX10_motion_83 (fun M6 => ?_)
        refine re_aload_n X dX10_motion_84 rfl rfl ?_
        refine re_ldcS (k := 34) (tx := "rank") X (by decide +kernel) dX10_motion_85 ?_
        refine re_ldcS (k := 34) (tx := "rank") X (by decide +kernel) dX10_motion_87 ?_
        refine re_callVz X (lk_X10_one l w 34 34 ho (by decide) (by decide)) (ca_X10_one (by decide) (by decide)) ml_RX10_229 im_X10_one se_X10_one cl_10 ho rfl rfl rfl (zle rfl) zRo dX10_motion_89 (fun r8 M9 hr8 => ?_)
        refine re_pop X dX10_motion_92 rfl ?_
        refine re_aload_n X dX10_motion_93 rfl rfl ?_
        refine re_getR X cl_10 (by decide) fl_RX10_19 ho rfl (zR_10_7 ho) dX10_motion_94 ?_
        refine re_iconst (v := 1) X dX10_motion_97 (by decide) ?_
        refine re_aald X (zQ_10_7 X.clo ho) (by decide) (by decide) rfl (rw_77 (by decide)) dX10_motion_98 ?_
        refine re_iload_n X dX10_motion_99 rfl rfl ?_
        refine re_aload_n X dX10_motion_100 rfl rfl ?_
        refine re_iconst (v := 1) X dX10_motion_101 (by decide) ?_
        refine re_bipush (v := 99) X dX10_motion_102 (by decide) ?_
        refine re_callVi X (lk_X10_number l w 1 99 ho) (ca_X10_number (by decide) (by decide)) ml_RX10_233 im_X10_number se_X10_number cl_10 ho rfl rfl rfl (zle rfl) zRo dX10_motion_104 (fun r10 M11 hr10 => ?_)
        refine re_ck (fun hi13 => ?_)
        refine re_iast X (rk_77 X.clo (zQ_10_7 X.clo ho) (i := 1) (by decide)) hi13 (j := zIx x1) rfl dX10_motion_107 (fun M12 => ?_)
        refine re_aload_n X dX10_motion_108 rfl rfl ?_
        refine re_getI X cl_10 (by decide) fl_RX10_153 ho rfl dX10_motion_109 ?_
        refine re_if_le (tgt := 116) X dX10_motion_112 (by decide) (fun _ => ?_) (fun _ => ?_)
        · refine re_aload_n X dX10_motion_116 rfl rfl ?_
          refine re_callVv X (lk_X10_word l w ho) (ca_X10_word (by decide) (by decide)) ml_RX10_217 im_X10_word se_X10_word cl_10 ho rfl rfl rfl (zle rfl) zRo dX10_motion_117 (fun r14 M15 hr14 => ?_)
          refine re_aload_n X dX10_motion_120 rfl rfl ?_
          refine re_getR X cl_10 (by decide) fl_RX10_27 ho rfl (zR_10_9 ho) dX10_motion_121 ?_
          refine re_iconst (v := 1) X dX10_motion_124 (by decide) ?_
          refine re_aald X (zQ_10_9 X.clo ho) (by decide) (by decide) rfl (rw_83 (by decide)) dX10_motion_125 ?_
          refine re_iload_n X dX10_motion_126 rfl rfl ?_
          refine re_aload_n X dX10_motion_127 rfl rfl ?_
          refine re_ldcS (k := 35) (tx := "second") X (by decide +kernel) dX10_motion_128 ?_
          refine re_callVz X (lk_X10_is l w 35 ho (by decide)) (ca_X10_is (by decide) (by decide)) ml_RX10_220 im_X10_is se_X10_is cl_10 ho rfl rfl rfl (zle rfl) zRo dX10_motion_130 (fun r16 M17 hr16 => ?_)
          refine re_ck (fun hi19 => ?_)
          refine re_zast X (rk_83 X.clo (zQ_10_9 X.clo ho) (i := 1) (by decide)) hi19 (j := zIx x1) rfl (zNar_b hr16) dX10_motion_133 (fun M18 => ?_)
          refine re_aload_n X dX10_motion_134 rfl rfl ?_
          refine re_getR X cl_10 (by decide) fl_RX10_27 ho rfl (zR_10_9 ho) dX10_motion_135 ?_
          refine re_iconst (v := 1) X dX10_motion_138 (by decide) ?_
          refine re_aald X (zQ_10_9 X.clo ho) (by decide) (by decide) rfl (rw_83 (by decide)) dX10_motion_139 ?_
          refine re_iload_n X dX10_motion_140 rfl rfl ?_
          refine re_ck (fun hi20 => ?_)
          refine re_zald X (rk_83 X.clo (zQ_10_9 X.clo ho) (i := 1) (by decide)) hi20 (j := zIx x1) rfl dX10_motion_141 ?_
          refine re_if_eq (tgt := 149) X dX10_motion_142 (by decide) (fun _ => ?_) (fun _ => ?_)
          · exact lb_X10_motion_149 X ho x1 M18
          · refine re_aload_n X dX10_motion_145 rfl rfl ?_
            refine re_callVv X (lk_X10_word l w ho) (ca_X10_word (by decide) (by decide)) ml_RX10_217 im_X10_word se_X10_word cl_10 ho rfl rfl rfl (zle rfl) zRo dX10_motion_146 (fun r42 M43 hr42 => ?_)
            exact lb_X10_motion_149 X ho x1 M43
        · exact re_vret X dX10_motion_115
      · refine re_aload_n X dX10_motion_65 rfl rfl ?_
        refine re_iconst (v := 3) X dX10_motion_66 (by decide) ?_
        refine re_aload_n X dX10_motion_67 rfl rfl ?_
        refine re_getI X cl_10 (by decide) fl_RX10_159 ho rfl dX10_motion_68 ?_
        refine re_callVv X (lk_X10_fails l w 3 (M 74 4) ho) (ca_X10_fails (by decide) (by decide)) ml_RX10_169 im_X10_fails se_X10_fails cl_10 ho rfl rfl rfl (zle rfl) zRo dX10_motion_71 (fun r44 M45 hr44 => ?_)
        exact re_vret X dX10_motion_74
  · exact re_vret X dX10_motion_37

set_option maxRecDepth 100000 in
theorem lb_X10_motion_6 {p : Program} {l : Launch} {e : Env} {s : State} {m : MethodId} {args : Array Value} {below : List Frame} {meth : Method} {c : Code} {w : zWD} (X : zCx p s m args meth c w (zFree w) RX10 cX10_motion 3 none) (ho : zKd w 74 = (10, 61)) : ∀ (n : Nat) (x1 : Int32) (M : zMem), zRm p l e rm_X10_motion s m args below meth c w 0 6 [some (.ref (zA w 74)), some (.int x1), none] [] M (f_X10_motion_L6 n x1 M) := by
  intro n
  induction n with
  | zero => intro x1 M; exact re_none
  | succ n ih =>
    intro x1 M
    rw [f_X10_motion_L6]
    refine re_iload_n X dX10_motion_6 rfl rfl ?_
    refine re_bipush (v := 8) X dX10_motion_7 (by decide) ?_
    refine re_icmp_ge (tgt := 30) X dX10_motion_9 (by decide) (fun _ => ?_) (fun _ => ?_)
    · exact lb_X10_motion_30 X ho x1 M
    · refine re_aload_n X dX10_motion_12 rfl rfl ?_
      refine re_aload_n X dX10_motion_13 rfl rfl ?_
      refine re_iload_n X dX10_motion_14 rfl rfl ?_
      refine re_callVs X (lk_X10_kindOf l w x1 ho) (ca_X10_kindOf (by decide) (by decide)) ml_RX10_224 im_X10_kindOf se_X10_kindOf cl_10 ho rfl rfl rfl (zle rfl) zRo dX10_motion_15 (fun r46 M47 hr46 => ?_)
      refine re_callVz X (lk_X10_is l w r46 ho hr46) (ca_X10_is (by decide) (by decide)) ml_RX10_220 im_X10_is se_X10_is cl_10 ho rfl rfl rfl (zle rfl) zRo dX10_motion_18 (fun r48 M49 hr48 => ?_)
      refine re_if_ne (tgt := 30) X dX10_motion_21 (by decide) (fun _ => ?_) (fun _ => ?_)
      · refine re_iinc (v := 1) (lv' := [some (.ref (zA w 74)), some (.int (x1 + 1)), none]) X dX10_motion_24 rfl (by decide) rfl ?_
        refine re_goto (tgt := 6) X dX10_motion_27 (by decide) ?_
        exact ih (x1 + 1) M49
      · exact lb_X10_motion_30 X ho x1 M49

set_option maxRecDepth 100000 in
theorem lk_X10_motion (l : Launch) (w : zWD)  (ho : zKd w 74 = (10, 61)) : zMt l w yX10_motion cX10_motion 3 none rm_X10_motion 0 [.ref (zA w 74)] (fun M => f_X10_motion M) := by
  refine zMt.of (by decide) [some (.ref (zA w 74)), none, none] rfl (zle rfl) (by intro v hv; simp only [List.mem_cons, List.not_mem_nil, or_false] at hv; rcases hv with rfl <;> rfl) ?_
  intro p e s m args below meth c X M
  unfold f_X10_motion
  refine re_aload_n X dX10_motion_0 rfl rfl ?_
  refine re_callVv X (lk_X10_word l w ho) (ca_X10_word (by decide) (by decide)) ml_RX10_217 im_X10_word se_X10_word cl_10 ho rfl rfl rfl (zle rfl) zRo dX10_motion_1 (fun r1 M2 hr1 => ?_)
  refine re_iconst (v := 0) X dX10_motion_4 (by decide) ?_
  refine re_istore_n (lv' := [some (.ref (zA w 74)), some (.int 0), none]) X dX10_motion_5 rfl (zlt rfl) rfl ?_
  exact lb_X10_motion_6 X ho zFu 0 M2
theorem ca_X10_motion {R : Room} (h1 : rm_X10_motion.frames + 1 ≤ R.frames) (h2 : 8 + (3 + 11) + rm_X10_motion.locals ≤ R.locals) : zCa yX10_motion cX10_motion 3 none rm_X10_motion R 0 := ⟨cd_X10_motion, iz_RX10, ⟨by decide, by decide, by decide⟩, rfl, rfl, h1, h2⟩
/-! DebateHouseModel.clause -/
abbrev rm_X10_clause : Room := { frames := 7, cells := 0, slots := 0, locals := 152 }
def f_X10_clause_B51   (x1 : Int32) (M : zMem) : zTr := if x1 = 4 then zBd (f_X10_fails 1 (M 74 4) M) (fun _ M6 => some (0, M6)) else zCk (zIn x1 12) (if (M 76 (zIx x1)) = 0 then zCk (zIn x1 12) (zLt (zUp M 76 (zIx x1) 1) (fun M8 => if x1 = 0 then zBd (f_X10_number 1 9999 M8) (fun r11 M12 => zLt (zUp M12 89 1 r11) (fun M13 => some (0, M13))) else if x1 = 1 then zBd (f_X10_number 0 24 M8) (fun r15 M16 => zLt (zUp M16 90 1 r15) (fun M17 => some (0, M17))) else if x1 = 2 then zBd (f_X10_one 46 47 M8) (fun r19 M20 => zLt (zUp M20 91 1 r19) (fun M21 => some (0, M21))) else zBd (f_X10_one 48 49 M8) (fun r22 M23 => zLt (zUp M23 92 1 r22) (fun M24 => some (0, M24))))) else zBd (f_X10_fails 3 (M 74 4) M) (fun _ M26 => some (0, M26)))
def f_X10_clause_L28   : Nat → Int32 → zMem → zTr
  | 0, _, _ => none
  | n + 1, x1, M => if 4 ≤ x1 then f_X10_clause_B51 x1 M else zBd (f_X10_clauseOf x1 M) (fun r27 M28 => zBd (f_X10_is r27 M28) (fun r29 M30 => if r29 = 0 then f_X10_clause_L28 n (x1 + 1) M30 else f_X10_clause_B51 x1 M30))
def f_X10_clause  (M : zMem) : zTr := zBd (f_X10_word M) (fun _ M2 => if (M2 74 5) ≤ 0 then zBd (f_X10_is 25 M2) (fun r3 M4 => if r3 = 0 then f_X10_clause_L28 zFu 0 M4 else zBd (f_X10_motion M4) (fun _ M32 => some (0, M32))) else some (0, M2))
set_option maxRecDepth 100000 in
theorem lb_X10_clause_51 {p : Program} {l : Launch} {e : Env} {s : State} {m : MethodId} {args : Array Value} {below : List Frame} {meth : Method} {c : Code} {w : zWD} (X : zCx p s m args meth c w (zFree w) RX10 cX10_clause 2 none) (ho : zKd w 74 = (10, 61)) : ∀ (x1 : Int32) (M : zMem), zRm p l e rm_X10_clause s m args below meth c w 0 51 [some (.ref (zA w 74)), some (.int x1)] [] M (f_X10_clause_B51 x1 M) := by
  intro x1 M
  unfold f_X10_clause_B51
  refine re_iload_n X dX10_clause_51 rfl rfl ?_
  refine re_iconst (v := 4) X dX10_clause_52 (by decide) ?_
  refine re_icmp_ne (tgt := 66) X dX10_clause_53 (by decide) (fun _ => ?_) (fun _ => ?_)
  · refine re_aload_n X dX10_clause_56 rfl rfl ?_
    refine re_iconst (v := 1) X dX10_clause_57 (by decide) ?_
    refine re_aload_n X dX10_clause_58 rfl rfl ?_
    refine re_getI X cl_10 (by decide) fl_RX10_159 ho rfl dX10_clause_59 ?_
    refine re_callVv X (lk_X10_fails l w 1 (M 74 4) ho) (ca_X10_fails (by decide) (by decide)) ml_RX10_169 im_X10_fails se_X10_fails cl_10 ho rfl rfl rfl (zle rfl) zRo dX10_clause_62 (fun r5 M6 hr5 => ?_)
    exact re_vret X dX10_clause_65
  · refine re_aload_n X dX10_clause_66 rfl rfl ?_
    refine re_getR X cl_10 (by decide) fl_RX10_13 ho rfl (zR_10_6 ho) dX10_clause_67 ?_
    refine re_iload_n X dX10_clause_70 rfl rfl ?_
    refine re_ck (fun hi7 => ?_)
    refine re_zald X (zQ_10_6 X.clo ho) hi7 (j := zIx x1) rfl dX10_clause_71 ?_
    refine re_if_eq (tgt := 85) X dX10_clause_72 (by decide) (fun _ => ?_) (fun _ => ?_)
    · refine re_aload_n X dX10_clause_85 rfl rfl ?_
      refine re_getR X cl_10 (by decide) fl_RX10_13 ho rfl (zR_10_6 ho) dX10_clause_86 ?_
      refine re_iload_n X dX10_clause_89 rfl rfl ?_
      refine re_iconst (v := 1) X dX10_clause_90 (by decide) ?_
      refine re_ck (fun hi9 => ?_)
      refine re_zast X (zQ_10_6 X.clo ho) hi9 (j := zIx x1) rfl (zNar_b (Or.inr rfl)) dX10_clause_91 (fun M8 => ?_)
      refine re_iload_n X dX10_clause_92 rfl rfl ?_
      refine re_if (fun e10 => ?_) (fun e10 => ?_)
      · refine re_sw_in (v := 0) (off := 27) (tgt := 120) X dX10_clause_93 e10 (by decide) (by decide) (by decide +kernel) (by decide) ?_
        refine re_aload_n X dX10_clause_120 rfl rfl ?_
        refine re_getR X cl_10 (by decide) fl_RX10_33 ho rfl (zR_10_11 ho) dX10_clause_121 ?_
        refine re_iconst (v := 1) X dX10_clause_124 (by decide) ?_
        refine re_aload_n X dX10_clause_125 rfl rfl ?_
        refine re_iconst (v := 1) X dX10_clause_126 (by decide) ?_
        refine re_sipush (v := 9999) X dX10_clause_127 (by decide) ?_
        refine re_callVi X (lk_X10_number l w 1 9999 ho) (ca_X10_number (by decide) (by decide)) ml_RX10_233 im_X10_number se_X10_number cl_10 ho rfl rfl rfl (zle rfl) zRo dX10_clause_130 (fun r11 M12 hr11 => ?_)
        refine re_iast X (zQ_10_11 X.clo ho) (by decide) (j := 1) rfl dX10_clause_133 (fun M13 => ?_)
        refine re_goto (tgt := 185) X dX10_clause_134 (by decide) ?_
        exact re_vret X dX10_clause_185
      refine re_if (fun e14 => ?_) (fun e14 => ?_)
      · refine re_sw_in (v := 1) (off := 44) (tgt := 137) X dX10_clause_93 e14 (by decide) (by decide) (by decide +kernel) (by decide) ?_
        refine re_aload_n X dX10_clause_137 rfl rfl ?_
        refine re_getR X cl_10 (by decide) fl_RX10_37 ho rfl (zR_10_12 ho) dX10_clause_138 ?_
        refine re_iconst (v := 1) X dX10_clause_141 (by decide) ?_
        refine re_aload_n X dX10_clause_142 rfl rfl ?_
        refine re_iconst (v := 0) X dX10_clause_143 (by decide) ?_
        refine re_bipush (v := 24) X dX10_clause_144 (by decide) ?_
        refine re_callVi X (lk_X10_number l w 0 24 ho) (ca_X10_number (by decide) (by decide)) ml_RX10_233 im_X10_number se_X10_number cl_10 ho rfl rfl rfl (zle rfl) zRo dX10_clause_146 (fun r15 M16 hr15 => ?_)
        refine re_iast X (zQ_10_12 X.clo ho) (by decide) (j := 1) rfl dX10_clause_149 (fun M17 => ?_)
        refine re_goto (tgt := 185) X dX10_clause_150 (by decide) ?_
        exact re_vret X dX10_clause_185
      refine re_if (fun e18 => ?_) (fun e18 => ?_)
      · refine re_sw_in (v := 2) (off := 60) (tgt := 153) X dX10_clause_93 e18 (by decide) (by decide) (by decide +kernel) (by decide) ?_
        refine re_aload_n X dX10_clause_153 rfl rfl ?_
        refine re_getR X cl_10 (by decide) fl_RX10_40 ho rfl (zR_10_13 ho) dX10_clause_154 ?_
        refine re_iconst (v := 1) X dX10_clause_157 (by decide) ?_
        refine re_aload_n X dX10_clause_158 rfl rfl ?_
        refine re_ldcS (k := 46) (tx := "schools") X (by decide +kernel) dX10_clause_159 ?_
        refine re_ldcS (k := 47) (tx := "members") X (by decide +kernel) dX10_clause_161 ?_
        refine re_callVz X (lk_X10_one l w 46 47 ho (by decide) (by decide)) (ca_X10_one (by decide) (by decide)) ml_RX10_229 im_X10_one se_X10_one cl_10 ho rfl rfl rfl (zle rfl) zRo dX10_clause_163 (fun r19 M20 hr19 => ?_)
        refine re_zast X (zQ_10_13 X.clo ho) (by decide) (j := 1) rfl (zNar_b hr19) dX10_clause_166 (fun M21 => ?_)
        refine re_goto (tgt := 185) X dX10_clause_167 (by decide) ?_
        exact re_vret X dX10_clause_185
      refine re_sw_out (tgt := 170) X dX10_clause_93 (by
          have e10 := lv_neT (a := 0) e10 (by decide)
          have e14 := lv_neT (a := 1) e14 (by decide)
          have e18 := lv_neT (a := 2) e18 (by decide)
          omega) (by decide) ?_
      refine re_aload_n X dX10_clause_170 rfl rfl ?_
      refine re_getR X cl_10 (by decide) fl_RX10_43 ho rfl (zR_10_14 ho) dX10_clause_171 ?_
      refine re_iconst (v := 1) X dX10_clause_174 (by decide) ?_
      refine re_aload_n X dX10_clause_175 rfl rfl ?_
      refine re_ldcS (k := 48) (tx := "yes") X (by decide +kernel) dX10_clause_176 ?_
      refine re_ldcwS (k := 49) (tx := "no") X (by decide +kernel) dX10_clause_178 ?_
      refine re_callVz X (lk_X10_one l w 48 49 ho (by decide) (by decide)) (ca_X10_one (by decide) (by decide)) ml_RX10_229 im_X10_one se_X10_one cl_10 ho rfl rfl rfl (zle rfl) zRo dX10_clause_181 (fun r22 M23 hr22 => ?_)
      refine re_zast X (zQ_10_14 X.clo ho) (by decide) (j := 1) rfl (zNar_b hr22) dX10_clause_184 (fun M24 => ?_)
      exact re_vret X dX10_clause_185
    · refine re_aload_n X dX10_clause_75 rfl rfl ?_
      refine re_iconst (v := 3) X dX10_clause_76 (by decide) ?_
      refine re_aload_n X dX10_clause_77 rfl rfl ?_
      refine re_getI X cl_10 (by decide) fl_RX10_159 ho rfl dX10_clause_78 ?_
      refine re_callVv X (lk_X10_fails l w 3 (M 74 4) ho) (ca_X10_fails (by decide) (by decide)) ml_RX10_169 im_X10_fails se_X10_fails cl_10 ho rfl rfl rfl (zle rfl) zRo dX10_clause_81 (fun r25 M26 hr25 => ?_)
      exact re_vret X dX10_clause_84

set_option maxRecDepth 100000 in
theorem lb_X10_clause_28 {p : Program} {l : Launch} {e : Env} {s : State} {m : MethodId} {args : Array Value} {below : List Frame} {meth : Method} {c : Code} {w : zWD} (X : zCx p s m args meth c w (zFree w) RX10 cX10_clause 2 none) (ho : zKd w 74 = (10, 61)) : ∀ (n : Nat) (x1 : Int32) (M : zMem), zRm p l e rm_X10_clause s m args below meth c w 0 28 [some (.ref (zA w 74)), some (.int x1)] [] M (f_X10_clause_L28 n x1 M) := by
  intro n
  induction n with
  | zero => intro x1 M; exact re_none
  | succ n ih =>
    intro x1 M
    rw [f_X10_clause_L28]
    refine re_iload_n X dX10_clause_28 rfl rfl ?_
    refine re_iconst (v := 4) X dX10_clause_29 (by decide) ?_
    refine re_icmp_ge (tgt := 51) X dX10_clause_30 (by decide) (fun _ => ?_) (fun _ => ?_)
    · exact lb_X10_clause_51 X ho x1 M
    · refine re_aload_n X dX10_clause_33 rfl rfl ?_
      refine re_aload_n X dX10_clause_34 rfl rfl ?_
      refine re_iload_n X dX10_clause_35 rfl rfl ?_
      refine re_callVs X (lk_X10_clauseOf l w x1 ho) (ca_X10_clauseOf (by decide) (by decide)) ml_RX10_248 im_X10_clauseOf se_X10_clauseOf cl_10 ho rfl rfl rfl (zle rfl) zRo dX10_clause_36 (fun r27 M28 hr27 => ?_)
      refine re_callVz X (lk_X10_is l w r27 ho hr27) (ca_X10_is (by decide) (by decide)) ml_RX10_220 im_X10_is se_X10_is cl_10 ho rfl rfl rfl (zle rfl) zRo dX10_clause_39 (fun r29 M30 hr29 => ?_)
      refine re_if_ne (tgt := 51) X dX10_clause_42 (by decide) (fun _ => ?_) (fun _ => ?_)
      · refine re_iinc (v := 1) (lv' := [some (.ref (zA w 74)), some (.int (x1 + 1))]) X dX10_clause_45 rfl (by decide) rfl ?_
        refine re_goto (tgt := 28) X dX10_clause_48 (by decide) ?_
        exact ih (x1 + 1) M30
      · exact lb_X10_clause_51 X ho x1 M30

set_option maxRecDepth 100000 in
theorem lk_X10_clause (l : Launch) (w : zWD)  (ho : zKd w 74 = (10, 61)) : zMt l w yX10_clause cX10_clause 2 none rm_X10_clause 0 [.ref (zA w 74)] (fun M => f_X10_clause M) := by
  refine zMt.of (by decide) [some (.ref (zA w 74)), none] rfl (zle rfl) (by intro v hv; simp only [List.mem_cons, List.not_mem_nil, or_false] at hv; rcases hv with rfl <;> rfl) ?_
  intro p e s m args below meth c X M
  unfold f_X10_clause
  refine re_aload_n X dX10_clause_0 rfl rfl ?_
  refine re_callVv X (lk_X10_word l w ho) (ca_X10_word (by decide) (by decide)) ml_RX10_217 im_X10_word se_X10_word cl_10 ho rfl rfl rfl (zle rfl) zRo dX10_clause_1 (fun r1 M2 hr1 => ?_)
  refine re_aload_n X dX10_clause_4 rfl rfl ?_
  refine re_getI X cl_10 (by decide) fl_RX10_153 ho rfl dX10_clause_5 ?_
  refine re_if_le (tgt := 12) X dX10_clause_8 (by decide) (fun _ => ?_) (fun _ => ?_)
  · refine re_aload_n X dX10_clause_12 rfl rfl ?_
    refine re_ldcS (k := 25) (tx := "motion") X (by decide +kernel) dX10_clause_13 ?_
    refine re_callVz X (lk_X10_is l w 25 ho (by decide)) (ca_X10_is (by decide) (by decide)) ml_RX10_220 im_X10_is se_X10_is cl_10 ho rfl rfl rfl (zle rfl) zRo dX10_clause_15 (fun r3 M4 hr3 => ?_)
    refine re_if_eq (tgt := 26) X dX10_clause_18 (by decide) (fun _ => ?_) (fun _ => ?_)
    · refine re_iconst (v := 0) X dX10_clause_26 (by decide) ?_
      refine re_istore_n (lv' := [some (.ref (zA w 74)), some (.int 0)]) X dX10_clause_27 rfl (zlt rfl) rfl ?_
      exact lb_X10_clause_28 X ho zFu 0 M4
    · refine re_aload_n X dX10_clause_21 rfl rfl ?_
      refine re_callVv X (lk_X10_motion l w ho) (ca_X10_motion (by decide) (by decide)) ml_RX10_246 im_X10_motion se_X10_motion cl_10 ho rfl rfl rfl (zle rfl) zRo dX10_clause_22 (fun r31 M32 hr31 => ?_)
      exact re_vret X dX10_clause_25
  · exact re_vret X dX10_clause_11
theorem ca_X10_clause {R : Room} (h1 : rm_X10_clause.frames + 1 ≤ R.frames) (h2 : 8 + (2 + 11) + rm_X10_clause.locals ≤ R.locals) : zCa yX10_clause cX10_clause 2 none rm_X10_clause R 0 := ⟨cd_X10_clause, iz_RX10, ⟨by decide, by decide, by decide⟩, rfl, rfl, h1, h2⟩
/-! DebateHouseModel.begin -/
abbrev rm_X10_begin : Room := { frames := 0, cells := 0, slots := 0, locals := 0 }
def f_X10_begin_B62   (M : zMem) : zTr := zLt (zUp M 74 31 0) (fun M1 => zLt (zUp M1 74 32 (-1)) (fun M2 => zLt (zUp M2 74 33 0) (fun M3 => zLt (zUp M3 74 34 (M3 89 0)) (fun M4 => zLt (zUp M4 74 35 0) (fun M5 => zLt (zUp M5 74 36 0) (fun M6 => zLt (zUp M6 74 37 0) (fun M7 => zLt (zUp M7 74 38 0) (fun M8 => zLt (zUp M8 74 39 0) (fun M9 => zLt (zUp M9 74 48 0) (fun M10 => zLt (zUp M10 74 49 0) (fun M11 => zLt (zUp M11 74 50 0) (fun M12 => some (0, M12)))))))))))))
def f_X10_begin_L30   : Nat → Int32 → zMem → zTr
  | 0, _, _ => none
  | n + 1, x1, M => if 300 ≤ x1 then f_X10_begin_B62 M else zCk (zIn x1 300) (zLt (zUp M 118 (zIx x1) 0) (fun M13 => zCk (zIn (M13 74 25) 2) (zCk (zIn x1 300) (zLt (zUp M13 (106 + zIx (M13 74 25)) (zIx x1) 0) (fun M16 => f_X10_begin_L30 n (x1 + 1) M16)))))
def f_X10_begin_L2   : Nat → Int32 → zMem → zTr
  | 0, _, _ => none
  | n + 1, x1, M => if 24 ≤ x1 then f_X10_begin_L30 zFu 0 M else zCk (zIn x1 24) (zLt (zUp M 108 (zIx x1) 0) (fun M18 => zCk (zIn x1 24) (zLt (zUp M18 110 (zIx x1) 0) (fun M20 => f_X10_begin_L2 n (x1 + 1) M20))))
def f_X10_begin  (M : zMem) : zTr := f_X10_begin_L2 zFu 0 M
set_option maxRecDepth 100000 in
theorem lb_X10_begin_62 {p : Program} {l : Launch} {e : Env} {s : State} {m : MethodId} {args : Array Value} {below : List Frame} {meth : Method} {c : Code} {w : zWD} (X : zCx p s m args meth c w (zFree w) RX10 cX10_begin 2 none) (ho : zKd w 74 = (10, 61)) : ∀ (M : zMem), zRm p l e rm_X10_begin s m args below meth c w 0 62 [some (.ref (zA w 74)), none] [] M (f_X10_begin_B62 M) := by
  intro M
  unfold f_X10_begin_B62
  refine re_aload_n X dX10_begin_62 rfl rfl ?_
  refine re_iconst (v := 0) X dX10_begin_63 (by decide) ?_
  refine re_putI X cl_10 (by decide) fl_RX10_268 ho rfl rfl rfl dX10_begin_64 (fun M1 => ?_)
  refine re_aload_n X dX10_begin_67 rfl rfl ?_
  refine re_iconst (v := -1) X dX10_begin_68 (by decide) ?_
  refine re_putI X cl_10 (by decide) fl_RX10_271 ho rfl rfl rfl dX10_begin_69 (fun M2 => ?_)
  refine re_aload_n X dX10_begin_72 rfl rfl ?_
  refine re_iconst (v := 0) X dX10_begin_73 (by decide) ?_
  refine re_putI X cl_10 (by decide) fl_RX10_274 ho rfl rfl rfl dX10_begin_74 (fun M3 => ?_)
  refine re_aload_n X dX10_begin_77 rfl rfl ?_
  refine re_aload_n X dX10_begin_78 rfl rfl ?_
  refine re_getR X cl_10 (by decide) fl_RX10_33 ho rfl (zR_10_11 ho) dX10_begin_79 ?_
  refine re_iconst (v := 0) X dX10_begin_82 (by decide) ?_
  refine re_iald X (zQ_10_11 X.clo ho) (by decide) (j := 0) rfl dX10_begin_83 ?_
  refine re_putI X cl_10 (by decide) fl_RX10_277 ho rfl rfl rfl dX10_begin_84 (fun M4 => ?_)
  refine re_aload_n X dX10_begin_87 rfl rfl ?_
  refine re_iconst (v := 0) X dX10_begin_88 (by decide) ?_
  refine re_putI X cl_10 (by decide) fl_RX10_280 ho rfl rfl rfl dX10_begin_89 (fun M5 => ?_)
  refine re_aload_n X dX10_begin_92 rfl rfl ?_
  refine re_iconst (v := 0) X dX10_begin_93 (by decide) ?_
  refine re_putI X cl_10 (by decide) fl_RX10_283 ho rfl rfl rfl dX10_begin_94 (fun M6 => ?_)
  refine re_aload_n X dX10_begin_97 rfl rfl ?_
  refine re_iconst (v := 0) X dX10_begin_98 (by decide) ?_
  refine re_putZ X cl_10 (by decide) fl_RX10_286 ho rfl rfl rfl (Or.inl rfl) dX10_begin_99 (fun M7 => ?_)
  refine re_aload_n X dX10_begin_102 rfl rfl ?_
  refine re_iconst (v := 0) X dX10_begin_103 (by decide) ?_
  refine re_putZ X cl_10 (by decide) fl_RX10_290 ho rfl rfl rfl (Or.inl rfl) dX10_begin_104 (fun M8 => ?_)
  refine re_aload_n X dX10_begin_107 rfl rfl ?_
  refine re_iconst (v := 0) X dX10_begin_108 (by decide) ?_
  refine re_putI X cl_10 (by decide) fl_RX10_293 ho rfl rfl rfl dX10_begin_109 (fun M9 => ?_)
  refine re_aload_n X dX10_begin_112 rfl rfl ?_
  refine re_iconst (v := 0) X dX10_begin_113 (by decide) ?_
  refine re_putZ X cl_10 (by decide) fl_RX10_296 ho rfl rfl rfl (Or.inl rfl) dX10_begin_114 (fun M10 => ?_)
  refine re_aload_n X dX10_begin_117 rfl rfl ?_
  refine re_iconst (v := 0) X dX10_begin_118 (by decide) ?_
  refine re_putI X cl_10 (by decide) fl_RX10_299 ho rfl rfl rfl dX10_begin_119 (fun M11 => ?_)
  refine re_aload_n X dX10_begin_122 rfl rfl ?_
  refine re_iconst (v := 0) X dX10_begin_123 (by decide) ?_
  refine re_putI X cl_10 (by decide) fl_RX10_302 ho rfl rfl rfl dX10_begin_124 (fun M12 => ?_)
  exact re_vret X dX10_begin_127

set_option maxRecDepth 100000 in
theorem lb_X10_begin_30 {p : Program} {l : Launch} {e : Env} {s : State} {m : MethodId} {args : Array Value} {below : List Frame} {meth : Method} {c : Code} {w : zWD} (X : zCx p s m args meth c w (zFree w) RX10 cX10_begin 2 none) (ho : zKd w 74 = (10, 61)) : ∀ (n : Nat) (x1 : Int32) (M : zMem), zRm p l e rm_X10_begin s m args below meth c w 0 30 [some (.ref (zA w 74)), some (.int x1)] [] M (f_X10_begin_L30 n x1 M) := by
  intro n
  induction n with
  | zero => intro x1 M; exact re_none
  | succ n ih =>
    intro x1 M
    rw [f_X10_begin_L30]
    refine re_iload_n X dX10_begin_30 rfl rfl ?_
    refine re_sipush (v := 300) X dX10_begin_31 (by decide) ?_
    refine re_icmp_ge (tgt := 62) X dX10_begin_34 (by decide) (fun _ => ?_) (fun _ => ?_)
    · exact re_sub (lb_X10_begin_62 X ho M) ⟨rfl, trivial⟩
    · refine re_aload_n X dX10_begin_37 rfl rfl ?_
      refine re_getR X cl_10 (by decide) fl_RX10_107 ho rfl (zR_10_47 ho) dX10_begin_38 ?_
      refine re_iload_n X dX10_begin_41 rfl rfl ?_
      refine re_iconst (v := 0) X dX10_begin_42 (by decide) ?_
      refine re_ck (fun hi14 => ?_)
      refine re_zast X (zQ_10_47 X.clo ho) hi14 (j := zIx x1) rfl (zNar_b (Or.inl rfl)) dX10_begin_43 (fun M13 => ?_)
      refine re_aload_n X dX10_begin_44 rfl rfl ?_
      refine re_getR X cl_10 (by decide) fl_RX10_70 ho rfl (zR_10_24 ho) dX10_begin_45 ?_
      refine re_aload_n X dX10_begin_48 rfl rfl ?_
      refine re_getI X cl_10 (by decide) fl_RX10_265 ho rfl dX10_begin_49 ?_
      refine re_ck (fun hi15 => ?_)
      refine re_aald X (zQ_10_24 X.clo ho) (by decide) hi15 rfl (rw_105 (zIx_lt hi15)) dX10_begin_52 ?_
      refine re_iload_n X dX10_begin_53 rfl rfl ?_
      refine re_iconst (v := 0) X dX10_begin_54 (by decide) ?_
      refine re_ck (fun hi17 => ?_)
      refine re_zast X (rk_105 X.clo (zQ_10_24 X.clo ho) (zIx_lt hi15)) hi17 (j := zIx x1) rfl (zNar_b (Or.inl rfl)) dX10_begin_55 (fun M16 => ?_)
      refine re_iinc (v := 1) (lv' := [some (.ref (zA w 74)), some (.int (x1 + 1))]) X dX10_begin_56 rfl (by decide) rfl ?_
      refine re_goto (tgt := 30) X dX10_begin_59 (by decide) ?_
      exact ih (x1 + 1) M16

set_option maxRecDepth 100000 in
theorem lb_X10_begin_2 {p : Program} {l : Launch} {e : Env} {s : State} {m : MethodId} {args : Array Value} {below : List Frame} {meth : Method} {c : Code} {w : zWD} (X : zCx p s m args meth c w (zFree w) RX10 cX10_begin 2 none) (ho : zKd w 74 = (10, 61)) : ∀ (n : Nat) (x1 : Int32) (M : zMem), zRm p l e rm_X10_begin s m args below meth c w 0 2 [some (.ref (zA w 74)), some (.int x1)] [] M (f_X10_begin_L2 n x1 M) := by
  intro n
  induction n with
  | zero => intro x1 M; exact re_none
  | succ n ih =>
    intro x1 M
    rw [f_X10_begin_L2]
    refine re_iload_n X dX10_begin_2 rfl rfl ?_
    refine re_bipush (v := 24) X dX10_begin_3 (by decide) ?_
    refine re_icmp_ge (tgt := 28) X dX10_begin_5 (by decide) (fun _ => ?_) (fun _ => ?_)
    · refine re_iconst (v := 0) X dX10_begin_28 (by decide) ?_
      refine re_istore_n (lv' := [some (.ref (zA w 74)), some (.int 0)]) X dX10_begin_29 rfl (zlt rfl) rfl ?_
      exact lb_X10_begin_30 X ho zFu 0 M
    · refine re_aload_n X dX10_begin_8 rfl rfl ?_
      refine re_getR X cl_10 (by decide) fl_RX10_77 ho rfl (zR_10_28 ho) dX10_begin_9 ?_
      refine re_iload_n X dX10_begin_12 rfl rfl ?_
      refine re_iconst (v := 0) X dX10_begin_13 (by decide) ?_
      refine re_ck (fun hi19 => ?_)
      refine re_zast X (zQ_10_28 X.clo ho) hi19 (j := zIx x1) rfl (zNar_b (Or.inl rfl)) dX10_begin_14 (fun M18 => ?_)
      refine re_aload_n X dX10_begin_15 rfl rfl ?_
      refine re_getR X cl_10 (by decide) fl_RX10_83 ho rfl (zR_10_30 ho) dX10_begin_16 ?_
      refine re_iload_n X dX10_begin_19 rfl rfl ?_
      refine re_iconst (v := 0) X dX10_begin_20 (by decide) ?_
      refine re_ck (fun hi21 => ?_)
      refine re_iast X (zQ_10_30 X.clo ho) hi21 (j := zIx x1) rfl dX10_begin_21 (fun M20 => ?_)
      refine re_iinc (v := 1) (lv' := [some (.ref (zA w 74)), some (.int (x1 + 1))]) X dX10_begin_22 rfl (by decide) rfl ?_
      refine re_goto (tgt := 2) X dX10_begin_25 (by decide) ?_
      exact ih (x1 + 1) M20

set_option maxRecDepth 100000 in
theorem lk_X10_begin (l : Launch) (w : zWD)  (ho : zKd w 74 = (10, 61)) : zMt l w yX10_begin cX10_begin 2 none rm_X10_begin 0 [.ref (zA w 74)] (fun M => f_X10_begin M) := by
  refine zMt.of (by decide) [some (.ref (zA w 74)), none] rfl (zle rfl) (by intro v hv; simp only [List.mem_cons, List.not_mem_nil, or_false] at hv; rcases hv with rfl <;> rfl) ?_
  intro p e s m args below meth c X M
  unfold f_X10_begin
  refine re_iconst (v := 0) X dX10_begin_0 (by decide) ?_
  refine re_istore_n (lv' := [some (.ref (zA w 74)), some (.int 0)]) X dX10_begin_1 rfl (zlt rfl) rfl ?_
  exact lb_X10_begin_2 X ho zFu 0 M
theorem ca_X10_begin {R : Room} (h1 : rm_X10_begin.frames + 1 ≤ R.frames) (h2 : 8 + (2 + 11) + rm_X10_begin.locals ≤ R.locals) : zCa yX10_begin cX10_begin 2 none rm_X10_begin R 0 := ⟨cd_X10_begin, iz_RX10, ⟨by decide, by decide, by decide⟩, rfl, rfl, h1, h2⟩
/-! DebateHouseModel.rules -/
abbrev rm_X10_rules : Room := { frames := 8, cells := 0, slots := 0, locals := 173 }
def f_X10_rules_B165  (k110 : zMem → zTr) (M : zMem) : zTr := zLt (zUp M 74 3 ((M 74 3) + 1)) (fun M14 => k110 M14)
def f_X10_rules_B156  (k110 : zMem → zTr) (M : zMem) : zTr := zBd (f_X10_fails 1 (M 74 3) M) (fun _ M16 => f_X10_rules_B165 k110 M16)
def f_X10_rules_B273   (M : zMem) : zTr := zLt (zUp M 89 0 (M 89 1)) (fun M18 => zLt (zUp M18 90 0 (M18 90 1)) (fun M19 => zCk ((M19 91 1) = 0 ∨ (M19 91 1) = 1) (zLt (zUp M19 91 0 (M19 91 1)) (fun M20 => zCk ((M20 92 1) = 0 ∨ (M20 92 1) = 1) (zLt (zUp M20 92 0 (M20 92 1)) (fun M22 => zBd (f_X10_begin M22) (fun _ M25 => some (0, M25))))))))
def f_X10_rules_L197   : Nat → Int32 → zMem → zTr
  | 0, _, _ => none
  | n + 1, x1, M => if 8 ≤ x1 then f_X10_rules_B273 M else zCk (zIn x1 8) (zCk (zIn x1 8) (zLt (zUp M 78 (zIx x1) (M 79 (zIx x1))) (fun M27 => zCk (zIn x1 8) (zCk (zIn x1 8) (zLt (zUp M27 81 (zIx x1) (M27 82 (zIx x1))) (fun M30 => zCk (zIn x1 8) (zCk (zIn x1 8) (zCk ((M30 85 (zIx x1)) = 0 ∨ (M30 85 (zIx x1)) = 1) (zLt (zUp M30 84 (zIx x1) (M30 85 (zIx x1))) (fun M33 => zCk (zIn x1 8) (zCk (zIn x1 8) (zCk ((M33 88 (zIx x1)) = 0 ∨ (M33 88 (zIx x1)) = 1) (zLt (zUp M33 87 (zIx x1) (M33 88 (zIx x1))) (fun M37 => f_X10_rules_L197 n (x1 + 1) M37))))))))))))))
def f_X10_rules_B178   (M : zMem) : zTr := zLt (zUp M 74 2 0) (fun M17 => if (M17 74 5) ≤ 0 then f_X10_rules_L197 zFu 0 M17 else some (M17 74 5, M17))
def f_X10_rules_L110   : Nat → zMem → zTr
  | 0, _ => none
  | n + 1, M => if (M 74 5) = 0 then zBd (f_X10_isEnd M) (fun r7 M8 => if r7 = 0 then zBd (f_X10_clause M8) (fun _ M10 => if (M10 74 5) = 0 then zBd (f_X10_isEnd M10) (fun r11 M12 => if r11 = 0 then zCk (zIn (M12 74 3) 600) (if (M12 75 (zIx (M12 74 3))) = 59 then f_X10_rules_B165 (fun M => f_X10_rules_L110 n M) M12 else f_X10_rules_B156 (fun M => f_X10_rules_L110 n M) M12) else f_X10_rules_B156 (fun M => f_X10_rules_L110 n M) M12) else f_X10_rules_L110 n M10) else f_X10_rules_B178 M8) else f_X10_rules_B178 M
def f_X10_rules_L81   : Nat → Int32 → zMem → zTr
  | 0, _, _ => none
  | n + 1, x1, M => if 12 ≤ x1 then zLt (zUp M 74 3 0) (fun M5 => zLt (zUp M5 74 5 0) (fun M6 => f_X10_rules_L110 zFu M6)) else zCk (zIn x1 12) (zLt (zUp M 76 (zIx x1) 0) (fun M40 => f_X10_rules_L81 n (x1 + 1) M40))
def f_X10_rules_B50   (M : zMem) : zTr := zLt (zUp M 89 1 60) (fun M1 => zLt (zUp M1 90 1 0) (fun M2 => zLt (zUp M2 91 1 0) (fun M3 => zLt (zUp M3 92 1 1) (fun M4 => f_X10_rules_L81 zFu 0 M4))))
def f_X10_rules_L11   : Nat → Int32 → zMem → zTr
  | 0, _, _ => none
  | n + 1, x1, M => if 8 ≤ x1 then f_X10_rules_B50 M else zCk (zIn x1 8) (zLt (zUp M 79 (zIx x1) 0) (fun M42 => zCk (zIn x1 8) (zLt (zUp M42 85 (zIx x1) 0) (fun M44 => zCk (zIn x1 8) (zLt (zUp M44 88 (zIx x1) 0) (fun M46 => f_X10_rules_L11 n (x1 + 1) M46))))))
def f_X10_rules  (M : zMem) : zTr := if (M 74 16) ≤ 0 then f_X10_rules_L11 zFu 0 M else some (-1, M)
set_option maxRecDepth 100000 in
theorem lb_X10_rules_165 {p : Program} {l : Launch} {e : Env} {s : State} {m : MethodId} {args : Array Value} {below : List Frame} {meth : Method} {c : Code} {w : zWD} (X : zCx p s m args meth c w (zFree w) RX10 cX10_rules 2 (some .int)) (ho : zKd w 74 = (10, 61)) (k110 : zMem → zTr) (hk110 : ∀  (M : zMem), zRm p l e rm_X10_rules s m args below meth c w 1 110 [some (.ref (zA w 74)), none] [] M (k110 M)) : ∀ (M : zMem), zRm p l e rm_X10_rules s m args below meth c w 1 165 [some (.ref (zA w 74)), none] [] M (f_X10_rules_B165 k110 M) := by
  intro M
  unfold f_X10_rules_B165
  refine re_aload_n X dX10_rules_165 rfl rfl ?_
  refine re_dup X dX10_rules_166 rfl ?_
  refine re_getI X cl_10 (by decide) fl_RX10_156 ho rfl dX10_rules_167 ?_
  refine re_iconst (v := 1) X dX10_rules_170 (by decide) ?_
  refine re_iadd X dX10_rules_171 ?_
  refine re_putI X cl_10 (by decide) fl_RX10_156 ho rfl rfl rfl dX10_rules_172 (fun M14 => ?_)
  refine re_goto (tgt := 110) X dX10_rules_175 (by decide) ?_
  exact hk110 M14

set_option maxRecDepth 100000 in
theorem lb_X10_rules_156 {p : Program} {l : Launch} {e : Env} {s : State} {m : MethodId} {args : Array Value} {below : List Frame} {meth : Method} {c : Code} {w : zWD} (X : zCx p s m args meth c w (zFree w) RX10 cX10_rules 2 (some .int)) (ho : zKd w 74 = (10, 61)) (k110 : zMem → zTr) (hk110 : ∀  (M : zMem), zRm p l e rm_X10_rules s m args below meth c w 1 110 [some (.ref (zA w 74)), none] [] M (k110 M)) : ∀ (M : zMem), zRm p l e rm_X10_rules s m args below meth c w 1 156 [some (.ref (zA w 74)), none] [] M (f_X10_rules_B156 k110 M) := by
  intro M
  unfold f_X10_rules_B156
  refine re_aload_n X dX10_rules_156 rfl rfl ?_
  refine re_iconst (v := 1) X dX10_rules_157 (by decide) ?_
  refine re_aload_n X dX10_rules_158 rfl rfl ?_
  refine re_getI X cl_10 (by decide) fl_RX10_156 ho rfl dX10_rules_159 ?_
  refine re_callVv X (lk_X10_fails l w 1 (M 74 3) ho) (ca_X10_fails (by decide) (by decide)) ml_RX10_169 im_X10_fails se_X10_fails cl_10 ho rfl rfl rfl (zle rfl) zRo dX10_rules_162 (fun r15 M16 hr15 => ?_)
  exact lb_X10_rules_165 X ho _ hk110 M16

set_option maxRecDepth 100000 in
theorem lb_X10_rules_273 {p : Program} {l : Launch} {e : Env} {s : State} {m : MethodId} {args : Array Value} {below : List Frame} {meth : Method} {c : Code} {w : zWD} (X : zCx p s m args meth c w (zFree w) RX10 cX10_rules 2 (some .int)) (ho : zKd w 74 = (10, 61)) : ∀ (M : zMem), zRm p l e rm_X10_rules s m args below meth c w 1 273 [some (.ref (zA w 74)), none] [] M (f_X10_rules_B273 M) := by
  intro M
  unfold f_X10_rules_B273
  refine re_aload_n X dX10_rules_273 rfl rfl ?_
  refine re_getR X cl_10 (by decide) fl_RX10_33 ho rfl (zR_10_11 ho) dX10_rules_274 ?_
  refine re_iconst (v := 0) X dX10_rules_277 (by decide) ?_
  refine re_aload_n X dX10_rules_278 rfl rfl ?_
  refine re_getR X cl_10 (by decide) fl_RX10_33 ho rfl (zR_10_11 ho) dX10_rules_279 ?_
  refine re_iconst (v := 1) X dX10_rules_282 (by decide) ?_
  refine re_iald X (zQ_10_11 X.clo ho) (by decide) (j := 1) rfl dX10_rules_283 ?_
  refine re_iast X (zQ_10_11 X.clo ho) (by decide) (j := 0) rfl dX10_rules_284 (fun M18 => ?_)
  refine re_aload_n X dX10_rules_285 rfl rfl ?_
  refine re_getR X cl_10 (by decide) fl_RX10_37 ho rfl (zR_10_12 ho) dX10_rules_286 ?_
  refine re_iconst (v := 0) X dX10_rules_289 (by decide) ?_
  refine re_aload_n X dX10_rules_290 rfl rfl ?_
  refine re_getR X cl_10 (by decide) fl_RX10_37 ho rfl (zR_10_12 ho) dX10_rules_291 ?_
  refine re_iconst (v := 1) X dX10_rules_294 (by decide) ?_
  refine re_iald X (zQ_10_12 X.clo ho) (by decide) (j := 1) rfl dX10_rules_295 ?_
  refine re_iast X (zQ_10_12 X.clo ho) (by decide) (j := 0) rfl dX10_rules_296 (fun M19 => ?_)
  refine re_aload_n X dX10_rules_297 rfl rfl ?_
  refine re_getR X cl_10 (by decide) fl_RX10_40 ho rfl (zR_10_13 ho) dX10_rules_298 ?_
  refine re_iconst (v := 0) X dX10_rules_301 (by decide) ?_
  refine re_aload_n X dX10_rules_302 rfl rfl ?_
  refine re_getR X cl_10 (by decide) fl_RX10_40 ho rfl (zR_10_13 ho) dX10_rules_303 ?_
  refine re_iconst (v := 1) X dX10_rules_306 (by decide) ?_
  refine re_zald X (zQ_10_13 X.clo ho) (by decide) (j := 1) rfl dX10_rules_307 ?_
  refine re_ck (fun hz21 => ?_)
  refine re_zast X (zQ_10_13 X.clo ho) (by decide) (j := 0) rfl (zNar_b hz21) dX10_rules_308 (fun M20 => ?_)
  refine re_aload_n X dX10_rules_309 rfl rfl ?_
  refine re_getR X cl_10 (by decide) fl_RX10_43 ho rfl (zR_10_14 ho) dX10_rules_310 ?_
  refine re_iconst (v := 0) X dX10_rules_313 (by decide) ?_
  refine re_aload_n X dX10_rules_314 rfl rfl ?_
  refine re_getR X cl_10 (by decide) fl_RX10_43 ho rfl (zR_10_14 ho) dX10_rules_315 ?_
  refine re_iconst (v := 1) X dX10_rules_318 (by decide) ?_
  refine re_zald X (zQ_10_14 X.clo ho) (by decide) (j := 1) rfl dX10_rules_319 ?_
  refine re_ck (fun hz23 => ?_)
  refine re_zast X (zQ_10_14 X.clo ho) (by decide) (j := 0) rfl (zNar_b hz23) dX10_rules_320 (fun M22 => ?_)
  refine re_aload_n X dX10_rules_321 rfl rfl ?_
  refine re_callVv X (lk_X10_begin l w ho) (ca_X10_begin (by decide) (by decide)) ml_RX10_140 im_X10_begin se_X10_begin cl_10 ho rfl rfl rfl (zle rfl) zRo dX10_rules_322 (fun r24 M25 hr24 => ?_)
  refine re_iconst (v := 0) X dX10_rules_325 (by decide) ?_
  exact re_iret X dX10_rules_326

set_option maxRecDepth 100000 in
theorem lb_X10_rules_197 {p : Program} {l : Launch} {e : Env} {s : State} {m : MethodId} {args : Array Value} {below : List Frame} {meth : Method} {c : Code} {w : zWD} (X : zCx p s m args meth c w (zFree w) RX10 cX10_rules 2 (some .int)) (ho : zKd w 74 = (10, 61)) : ∀ (n : Nat) (x1 : Int32) (M : zMem), zRm p l e rm_X10_rules s m args below meth c w 1 197 [some (.ref (zA w 74)), some (.int x1)] [] M (f_X10_rules_L197 n x1 M) := by
  intro n
  induction n with
  | zero => intro x1 M; exact re_none
  | succ n ih =>
    intro x1 M
    rw [f_X10_rules_L197]
    refine re_iload_n X dX10_rules_197 rfl rfl ?_
    refine re_bipush (v := 8) X dX10_rules_198 (by decide) ?_
    refine re_icmp_ge (tgt := 273) X dX10_rules_200 (by decide) (fun _ => ?_) (fun _ => ?_)
    · exact re_sub (lb_X10_rules_273 X ho M) ⟨rfl, trivial⟩
    · refine re_aload_n X dX10_rules_203 rfl rfl ?_
      refine re_getR X cl_10 (by decide) fl_RX10_19 ho rfl (zR_10_7 ho) dX10_rules_204 ?_
      refine re_iconst (v := 0) X dX10_rules_207 (by decide) ?_
      refine re_aald X (zQ_10_7 X.clo ho) (by decide) (by decide) rfl (rw_77 (by decide)) dX10_rules_208 ?_
      refine re_iload_n X dX10_rules_209 rfl rfl ?_
      refine re_aload_n X dX10_rules_210 rfl rfl ?_
      refine re_getR X cl_10 (by decide) fl_RX10_19 ho rfl (zR_10_7 ho) dX10_rules_211 ?_
      refine re_iconst (v := 1) X dX10_rules_214 (by decide) ?_
      refine re_aald X (zQ_10_7 X.clo ho) (by decide) (by decide) rfl (rw_77 (by decide)) dX10_rules_215 ?_
      refine re_iload_n X dX10_rules_216 rfl rfl ?_
      refine re_ck (fun hi26 => ?_)
      refine re_iald X (rk_77 X.clo (zQ_10_7 X.clo ho) (i := 1) (by decide)) hi26 (j := zIx x1) rfl dX10_rules_217 ?_
      refine re_ck (fun hi28 => ?_)
      refine re_iast X (rk_77 X.clo (zQ_10_7 X.clo ho) (i := 0) (by decide)) hi28 (j := zIx x1) rfl dX10_rules_218 (fun M27 => ?_)
      refine re_aload_n X dX10_rules_219 rfl rfl ?_
      refine re_getR X cl_10 (by decide) fl_RX10_22 ho rfl (zR_10_8 ho) dX10_rules_220 ?_
      refine re_iconst (v := 0) X dX10_rules_223 (by decide) ?_
      refine re_aald X (zQ_10_8 X.clo ho) (by decide) (by decide) rfl (rw_80 (by decide)) dX10_rules_224 ?_
      refine re_iload_n X dX10_rules_225 rfl rfl ?_
      refine re_aload_n X dX10_rules_226 rfl rfl ?_
      refine re_getR X cl_10 (by decide) fl_RX10_22 ho rfl (zR_10_8 ho) dX10_rules_227 ?_
      refine re_iconst (v := 1) X dX10_rules_230 (by decide) ?_
      refine re_aald X (zQ_10_8 X.clo ho) (by decide) (by decide) rfl (rw_80 (by decide)) dX10_rules_231 ?_
      refine re_iload_n X dX10_rules_232 rfl rfl ?_
      refine re_ck (fun hi29 => ?_)
      refine re_iald X (rk_80 X.clo (zQ_10_8 X.clo ho) (i := 1) (by decide)) hi29 (j := zIx x1) rfl dX10_rules_233 ?_
      refine re_ck (fun hi31 => ?_)
      refine re_iast X (rk_80 X.clo (zQ_10_8 X.clo ho) (i := 0) (by decide)) hi31 (j := zIx x1) rfl dX10_rules_234 (fun M30 => ?_)
      refine re_aload_n X dX10_rules_235 rfl rfl ?_
      refine re_getR X cl_10 (by decide) fl_RX10_27 ho rfl (zR_10_9 ho) dX10_rules_236 ?_
      refine re_iconst (v := 0) X dX10_rules_239 (by decide) ?_
      refine re_aald X (zQ_10_9 X.clo ho) (by decide) (by decide) rfl (rw_83 (by decide)) dX10_rules_240 ?_
      refine re_iload_n X dX10_rules_241 rfl rfl ?_
      refine re_aload_n X dX10_rules_242 rfl rfl ?_
      refine re_getR X cl_10 (by decide) fl_RX10_27 ho rfl (zR_10_9 ho) dX10_rules_243 ?_
      refine re_iconst (v := 1) X dX10_rules_246 (by decide) ?_
      refine re_aald X (zQ_10_9 X.clo ho) (by decide) (by decide) rfl (rw_83 (by decide)) dX10_rules_247 ?_
      refine re_iload_n X dX10_rules_248 rfl rfl ?_
      refine re_ck (fun hi32 => ?_)
      refine re_zald X (rk_83 X.clo (zQ_10_9 X.clo ho) (i := 1) (by decide)) hi32 (j := zIx x1) rfl dX10_rules_249 ?_
      refine re_ck (fun hi34 => ?_)
      refine re_ck (fun hz35 => ?_)
      refine re_zast X (rk_83 X.clo (zQ_10_9 X.clo ho) (i := 0) (by decide)) hi34 (j := zIx x1) rfl (zNar_b hz35) dX10_rules_250 (fun M33 => ?_)
      refine re_aload_n X dX10_rules_251 rfl rfl ?_
      refine re_getR X cl_10 (by decide) fl_RX10_30 ho rfl (zR_10_10 ho) dX10_rules_252 ?_
      refine re_iconst (v := 0) X dX10_rules_255 (by decide) ?_
      refine re_aald X (zQ_10_10 X.clo ho) (by decide) (by decide) rfl (rw_86 (by decide)) dX10_rules_256 ?_
      refine re_iload_n X dX10_rules_257 rfl rfl ?_
      refine re_aload_n X dX10_rules_258 rfl rfl ?_
      refine re_getR X cl_10 (by decide) fl_RX10_30 ho rfl (zR_10_10 ho) dX10_rules_259 ?_
      refine re_iconst (v := 1) X dX10_rules_262 (by decide) ?_
      refine re_aald X (zQ_10_10 X.clo ho) (by decide) (by decide) rfl (rw_86 (by decide)) dX10_rules_263 ?_
      refine re_iload_n X dX10_rules_264 rfl rfl ?_
      refine re_ck (fun hi36 => ?_)
      refine re_zald X (rk_86 X.clo (zQ_10_10 X.clo ho) (i := 1) (by decide)) hi36 (j := zIx x1) rfl dX10_rules_265 ?_
      refine re_ck (fun hi38 => ?_)
      refine re_ck (fun hz39 => ?_)
      refine re_zast X (rk_86 X.clo (zQ_10_10 X.clo ho) (i := 0) (by decide)) hi38 (j := zIx x1) rfl (zNar_b hz39) dX10_rules_266 (fun M37 => ?_)
      refine re_iinc (v := 1) (lv' := [some (.ref (zA w 74)), some (.int (x1 + 1))]) X dX10_rules_267 rfl (by decide) rfl ?_
      refine re_goto (tgt := 197) X dX10_rules_270 (by decide) ?_
      exact ih (x1 + 1) M37

set_option maxRecDepth 100000 in
theorem lb_X10_rules_178 {p : Program} {l : Launch} {e : Env} {s : State} {m : MethodId} {args : Array Value} {below : List Frame} {meth : Method} {c : Code} {w : zWD} (X : zCx p s m args meth c w (zFree w) RX10 cX10_rules 2 (some .int)) (ho : zKd w 74 = (10, 61)) : ∀ (M : zMem), zRm p l e rm_X10_rules s m args below meth c w 1 178 [some (.ref (zA w 74)), none] [] M (f_X10_rules_B178 M) := by
  intro M
  unfold f_X10_rules_B178
  refine re_aload_n X dX10_rules_178 rfl rfl ?_
  refine re_iconst (v := 0) X dX10_rules_179 (by decide) ?_
  refine re_putI X cl_10 (by decide) fl_RX10_146 ho rfl rfl rfl dX10_rules_180 (fun M17 => ?_)
  refine re_aload_n X dX10_rules_183 rfl rfl ?_
  refine re_getI X cl_10 (by decide) fl_RX10_153 ho rfl dX10_rules_184 ?_
  refine re_if_le (tgt := 195) X dX10_rules_187 (by decide) (fun _ => ?_) (fun _ => ?_)
  · refine re_iconst (v := 0) X dX10_rules_195 (by decide) ?_
    refine re_istore_n (lv' := [some (.ref (zA w 74)), some (.int 0)]) X dX10_rules_196 rfl (zlt rfl) rfl ?_
    exact lb_X10_rules_197 X ho zFu 0 M17
  · refine re_aload_n X dX10_rules_190 rfl rfl ?_
    refine re_getI X cl_10 (by decide) fl_RX10_153 ho rfl dX10_rules_191 ?_
    exact re_iret X dX10_rules_194

set_option maxRecDepth 100000 in
theorem lb_X10_rules_110 {p : Program} {l : Launch} {e : Env} {s : State} {m : MethodId} {args : Array Value} {below : List Frame} {meth : Method} {c : Code} {w : zWD} (X : zCx p s m args meth c w (zFree w) RX10 cX10_rules 2 (some .int)) (ho : zKd w 74 = (10, 61)) : ∀ (n : Nat) (M : zMem), zRm p l e rm_X10_rules s m args below meth c w 1 110 [some (.ref (zA w 74)), none] [] M (f_X10_rules_L110 n M) := by
  intro n
  induction n with
  | zero => intro M; exact re_none
  | succ n ih =>
    intro M
    rw [f_X10_rules_L110]
    refine re_aload_n X dX10_rules_110 rfl rfl ?_
    refine re_getI X cl_10 (by decide) fl_RX10_153 ho rfl dX10_rules_111 ?_
    refine re_if_ne (tgt := 178) X dX10_rules_114 (by decide) (fun _ => ?_) (fun _ => ?_)
    · refine re_aload_n X dX10_rules_117 rfl rfl ?_
      refine re_callVz X (lk_X10_isEnd l w ho) (ca_X10_isEnd (by decide) (by decide)) ml_RX10_162 im_X10_isEnd se_X10_isEnd cl_10 ho rfl rfl rfl (zle rfl) zRo dX10_rules_118 (fun r7 M8 hr7 => ?_)
      refine re_if_ne (tgt := 178) X dX10_rules_121 (by decide) (fun _ => ?_) (fun _ => ?_)
      · refine re_aload_n X dX10_rules_124 rfl rfl ?_
        refine re_callVv X (lk_X10_clause l w ho) (ca_X10_clause (by decide) (by decide)) ml_RX10_262 im_X10_clause se_X10_clause cl_10 ho rfl rfl rfl (zle rfl) zRo dX10_rules_125 (fun r9 M10 hr9 => ?_)
        refine re_aload_n X dX10_rules_128 rfl rfl ?_
        refine re_getI X cl_10 (by decide) fl_RX10_153 ho rfl dX10_rules_129 ?_
        refine re_if_ne (tgt := 110) X dX10_rules_132 (by decide) (fun _ => ?_) (fun _ => ?_)
        · refine re_aload_n X dX10_rules_135 rfl rfl ?_
          refine re_callVz X (lk_X10_isEnd l w ho) (ca_X10_isEnd (by decide) (by decide)) ml_RX10_162 im_X10_isEnd se_X10_isEnd cl_10 ho rfl rfl rfl (zle rfl) zRo dX10_rules_136 (fun r11 M12 hr11 => ?_)
          refine re_if_ne (tgt := 156) X dX10_rules_139 (by decide) (fun _ => ?_) (fun _ => ?_)
          · refine re_aload_n X dX10_rules_142 rfl rfl ?_
            refine re_getR X cl_10 (by decide) fl_RX10_7 ho rfl (zR_10_1 ho) dX10_rules_143 ?_
            refine re_aload_n X dX10_rules_146 rfl rfl ?_
            refine re_getI X cl_10 (by decide) fl_RX10_156 ho rfl dX10_rules_147 ?_
            refine re_ck (fun hi13 => ?_)
            refine re_bald X (zQ_10_1 X.clo ho) hi13 (j := zIx (M12 74 3)) rfl dX10_rules_150 ?_
            refine re_bipush (v := 59) X dX10_rules_151 (by decide) ?_
            refine re_icmp_eq (tgt := 165) X dX10_rules_153 (by decide) (fun _ => ?_) (fun _ => ?_)
            · exact lb_X10_rules_165 X ho _ ih M12
            · exact lb_X10_rules_156 X ho _ ih M12
          · exact lb_X10_rules_156 X ho _ ih M12
        · exact ih M10
      · exact lb_X10_rules_178 X ho M8
    · exact lb_X10_rules_178 X ho M

set_option maxRecDepth 100000 in
theorem lb_X10_rules_81 {p : Program} {l : Launch} {e : Env} {s : State} {m : MethodId} {args : Array Value} {below : List Frame} {meth : Method} {c : Code} {w : zWD} (X : zCx p s m args meth c w (zFree w) RX10 cX10_rules 2 (some .int)) (ho : zKd w 74 = (10, 61)) : ∀ (n : Nat) (x1 : Int32) (M : zMem), zRm p l e rm_X10_rules s m args below meth c w 1 81 [some (.ref (zA w 74)), some (.int x1)] [] M (f_X10_rules_L81 n x1 M) := by
  intro n
  induction n with
  | zero => intro x1 M; exact re_none
  | succ n ih =>
    intro x1 M
    rw [f_X10_rules_L81]
    refine re_iload_n X dX10_rules_81 rfl rfl ?_
    refine re_bipush (v := 12) X dX10_rules_82 (by decide) ?_
    refine re_icmp_ge (tgt := 100) X dX10_rules_84 (by decide) (fun _ => ?_) (fun _ => ?_)
    · refine re_aload_n X dX10_rules_100 rfl rfl ?_
      refine re_iconst (v := 0) X dX10_rules_101 (by decide) ?_
      refine re_putI X cl_10 (by decide) fl_RX10_156 ho rfl rfl rfl dX10_rules_102 (fun M5 => ?_)
      refine re_aload_n X dX10_rules_105 rfl rfl ?_
      refine re_iconst (v := 0) X dX10_rules_106 (by decide) ?_
      refine re_putI X cl_10 (by decide) fl_RX10_153 ho rfl rfl rfl dX10_rules_107 (fun M6 => ?_)
      exact re_sub (lb_X10_rules_110 X ho zFu M6) ⟨rfl, trivial⟩
    · refine re_aload_n X dX10_rules_87 rfl rfl ?_
      refine re_getR X cl_10 (by decide) fl_RX10_13 ho rfl (zR_10_6 ho) dX10_rules_88 ?_
      refine re_iload_n X dX10_rules_91 rfl rfl ?_
      refine re_iconst (v := 0) X dX10_rules_92 (by decide) ?_
      refine re_ck (fun hi41 => ?_)
      refine re_zast X (zQ_10_6 X.clo ho) hi41 (j := zIx x1) rfl (zNar_b (Or.inl rfl)) dX10_rules_93 (fun M40 => ?_)
      refine re_iinc (v := 1) (lv' := [some (.ref (zA w 74)), some (.int (x1 + 1))]) X dX10_rules_94 rfl (by decide) rfl ?_
      refine re_goto (tgt := 81) X dX10_rules_97 (by decide) ?_
      exact ih (x1 + 1) M40

set_option maxRecDepth 100000 in
theorem lb_X10_rules_50 {p : Program} {l : Launch} {e : Env} {s : State} {m : MethodId} {args : Array Value} {below : List Frame} {meth : Method} {c : Code} {w : zWD} (X : zCx p s m args meth c w (zFree w) RX10 cX10_rules 2 (some .int)) (ho : zKd w 74 = (10, 61)) : ∀ (M : zMem), zRm p l e rm_X10_rules s m args below meth c w 1 50 [some (.ref (zA w 74)), none] [] M (f_X10_rules_B50 M) := by
  intro M
  unfold f_X10_rules_B50
  refine re_aload_n X dX10_rules_50 rfl rfl ?_
  refine re_getR X cl_10 (by decide) fl_RX10_33 ho rfl (zR_10_11 ho) dX10_rules_51 ?_
  refine re_iconst (v := 1) X dX10_rules_54 (by decide) ?_
  refine re_bipush (v := 60) X dX10_rules_55 (by decide) ?_
  refine re_iast X (zQ_10_11 X.clo ho) (by decide) (j := 1) rfl dX10_rules_57 (fun M1 => ?_)
  refine re_aload_n X dX10_rules_58 rfl rfl ?_
  refine re_getR X cl_10 (by decide) fl_RX10_37 ho rfl (zR_10_12 ho) dX10_rules_59 ?_
  refine re_iconst (v := 1) X dX10_rules_62 (by decide) ?_
  refine re_iconst (v := 0) X dX10_rules_63 (by decide) ?_
  refine re_iast X (zQ_10_12 X.clo ho) (by decide) (j := 1) rfl dX10_rules_64 (fun M2 => ?_)
  refine re_aload_n X dX10_rules_65 rfl rfl ?_
  refine re_getR X cl_10 (by decide) fl_RX10_40 ho rfl (zR_10_13 ho) dX10_rules_66 ?_
  refine re_iconst (v := 1) X dX10_rules_69 (by decide) ?_
  refine re_iconst (v := 0) X dX10_rules_70 (by decide) ?_
  refine re_zast X (zQ_10_13 X.clo ho) (by decide) (j := 1) rfl (zNar_b (Or.inl rfl)) dX10_rules_71 (fun M3 => ?_)
  refine re_aload_n X dX10_rules_72 rfl rfl ?_
  refine re_getR X cl_10 (by decide) fl_RX10_43 ho rfl (zR_10_14 ho) dX10_rules_73 ?_
  refine re_iconst (v := 1) X dX10_rules_76 (by decide) ?_
  refine re_iconst (v := 1) X dX10_rules_77 (by decide) ?_
  refine re_zast X (zQ_10_14 X.clo ho) (by decide) (j := 1) rfl (zNar_b (Or.inr rfl)) dX10_rules_78 (fun M4 => ?_)
  refine re_iconst (v := 0) X dX10_rules_79 (by decide) ?_
  refine re_istore_n (lv' := [some (.ref (zA w 74)), some (.int 0)]) X dX10_rules_80 rfl (zlt rfl) rfl ?_
  exact lb_X10_rules_81 X ho zFu 0 M4

set_option maxRecDepth 100000 in
theorem lb_X10_rules_11 {p : Program} {l : Launch} {e : Env} {s : State} {m : MethodId} {args : Array Value} {below : List Frame} {meth : Method} {c : Code} {w : zWD} (X : zCx p s m args meth c w (zFree w) RX10 cX10_rules 2 (some .int)) (ho : zKd w 74 = (10, 61)) : ∀ (n : Nat) (x1 : Int32) (M : zMem), zRm p l e rm_X10_rules s m args below meth c w 1 11 [some (.ref (zA w 74)), some (.int x1)] [] M (f_X10_rules_L11 n x1 M) := by
  intro n
  induction n with
  | zero => intro x1 M; exact re_none
  | succ n ih =>
    intro x1 M
    rw [f_X10_rules_L11]
    refine re_iload_n X dX10_rules_11 rfl rfl ?_
    refine re_bipush (v := 8) X dX10_rules_12 (by decide) ?_
    refine re_icmp_ge (tgt := 50) X dX10_rules_14 (by decide) (fun _ => ?_) (fun _ => ?_)
    · exact re_sub (lb_X10_rules_50 X ho M) ⟨rfl, trivial⟩
    · refine re_aload_n X dX10_rules_17 rfl rfl ?_
      refine re_getR X cl_10 (by decide) fl_RX10_19 ho rfl (zR_10_7 ho) dX10_rules_18 ?_
      refine re_iconst (v := 1) X dX10_rules_21 (by decide) ?_
      refine re_aald X (zQ_10_7 X.clo ho) (by decide) (by decide) rfl (rw_77 (by decide)) dX10_rules_22 ?_
      refine re_iload_n X dX10_rules_23 rfl rfl ?_
      refine re_iconst (v := 0) X dX10_rules_24 (by decide) ?_
      refine re_ck (fun hi43 => ?_)
      refine re_iast X (rk_77 X.clo (zQ_10_7 X.clo ho) (i := 1) (by decide)) hi43 (j := zIx x1) rfl dX10_rules_25 (fun M42 => ?_)
      refine re_aload_n X dX10_rules_26 rfl rfl ?_
      refine re_getR X cl_10 (by decide) fl_RX10_27 ho rfl (zR_10_9 ho) dX10_rules_27 ?_
      refine re_iconst (v := 1) X dX10_rules_30 (by decide) ?_
      refine re_aald X (zQ_10_9 X.clo ho) (by decide) (by decide) rfl (rw_83 (by decide)) dX10_rules_31 ?_
      refine re_iload_n X dX10_rules_32 rfl rfl ?_
      refine re_iconst (v := 0) X dX10_rules_33 (by decide) ?_
      refine re_ck (fun hi45 => ?_)
      refine re_zast X (rk_83 X.clo (zQ_10_9 X.clo ho) (i := 1) (by decide)) hi45 (j := zIx x1) rfl (zNar_b (Or.inl rfl)) dX10_rules_34 (fun M44 => ?_)
      refine re_aload_n X dX10_rules_35 rfl rfl ?_
      refine re_getR X cl_10 (by decide) fl_RX10_30 ho rfl (zR_10_10 ho) dX10_rules_36 ?_
      refine re_iconst (v := 1) X dX10_rules_39 (by decide) ?_
      refine re_aald X (zQ_10_10 X.clo ho) (by decide) (by decide) rfl (rw_86 (by decide)) dX10_rules_40 ?_
      refine re_iload_n X dX10_rules_41 rfl rfl ?_
      refine re_iconst (v := 0) X dX10_rules_42 (by decide) ?_
      refine re_ck (fun hi47 => ?_)
      refine re_zast X (rk_86 X.clo (zQ_10_10 X.clo ho) (i := 1) (by decide)) hi47 (j := zIx x1) rfl (zNar_b (Or.inl rfl)) dX10_rules_43 (fun M46 => ?_)
      refine re_iinc (v := 1) (lv' := [some (.ref (zA w 74)), some (.int (x1 + 1))]) X dX10_rules_44 rfl (by decide) rfl ?_
      refine re_goto (tgt := 11) X dX10_rules_47 (by decide) ?_
      exact ih (x1 + 1) M46

set_option maxRecDepth 100000 in
theorem lk_X10_rules (l : Launch) (w : zWD)  (ho : zKd w 74 = (10, 61)) : zMt l w yX10_rules cX10_rules 2 (some .int) rm_X10_rules 1 [.ref (zA w 74)] (fun M => f_X10_rules M) := by
  refine zMt.of (by decide) [some (.ref (zA w 74)), none] rfl (zle rfl) (by intro v hv; simp only [List.mem_cons, List.not_mem_nil, or_false] at hv; rcases hv with rfl <;> rfl) ?_
  intro p e s m args below meth c X M
  unfold f_X10_rules
  refine re_aload_n X dX10_rules_0 rfl rfl ?_
  refine re_getI X cl_10 (by decide) fl_RX10_259 ho rfl dX10_rules_1 ?_
  refine re_if_le (tgt := 9) X dX10_rules_4 (by decide) (fun _ => ?_) (fun _ => ?_)
  · refine re_iconst (v := 0) X dX10_rules_9 (by decide) ?_
    refine re_istore_n (lv' := [some (.ref (zA w 74)), some (.int 0)]) X dX10_rules_10 rfl (zlt rfl) rfl ?_
    exact lb_X10_rules_11 X ho zFu 0 M
  · refine re_iconst (v := -1) X dX10_rules_7 (by decide) ?_
    exact re_iret X dX10_rules_8
theorem ca_X10_rules {R : Room} (h1 : rm_X10_rules.frames + 1 ≤ R.frames) (h2 : 8 + (2 + 11) + rm_X10_rules.locals ≤ R.locals) : zCa yX10_rules cX10_rules 2 (some .int) rm_X10_rules R 0 := ⟨cd_X10_rules, iz_RX10, ⟨by decide, by decide, by decide⟩, rfl, rfl, h1, h2⟩
/-! DebateHouseModel.school -/
abbrev rm_X10_school : Room := { frames := 1, cells := 0, slots := 0, locals := 22 }
def f_X10_school (u1 : Int32) (u2 : Int32) (M : zMem) : zTr := zBd (f_X10_in u1 0 23 M) (fun r1 M2 => if r1 = 0 then some (0, M2) else zBd (f_X10_in u2 0 7 M2) (fun r3 M4 => if r3 = 0 then some (0, M4) else if (M4 74 16) ≤ 0 then zCk (zIn u1 24) (zLt (zUp M4 93 (zIx u1) u2) (fun M5 => some (1, M5))) else some (0, M4)))
set_option maxRecDepth 100000 in
theorem lk_X10_school (l : Launch) (w : zWD) (u1 : Int32) (u2 : Int32) (ho : zKd w 74 = (10, 61)) : zMt l w yX10_school cX10_school 3 (some .boolean) rm_X10_school 2 [.ref (zA w 74), .int u1, .int u2] (fun M => f_X10_school u1 u2 M) := by
  refine zMt.of (by decide) [some (.ref (zA w 74)), some (.int u1), some (.int u2)] rfl (zle rfl) (by intro v hv; simp only [List.mem_cons, List.not_mem_nil, or_false] at hv; rcases hv with rfl | rfl | rfl <;> rfl) ?_
  intro p e s m args below meth c X M
  unfold f_X10_school
  refine re_iload_n X dX10_school_0 rfl rfl ?_
  refine re_iconst (v := 0) X dX10_school_1 (by decide) ?_
  refine re_bipush (v := 23) X dX10_school_2 (by decide) ?_
  refine re_callSz X (lk_X10_in l w u1 0 23) (ca_X10_in (by decide) (by decide)) ml_RX10_184 sm_X10_in rfl rfl rfl (zle rfl) zRo dX10_school_4 (fun r1 M2 hr1 => ?_)
  refine re_if_eq (tgt := 27) X dX10_school_7 (by decide) (fun _ => ?_) (fun _ => ?_)
  · refine re_iconst (v := 0) X dX10_school_27 (by decide) ?_
    exact re_zret X (Or.inl rfl) dX10_school_28
  · refine re_iload_n X dX10_school_10 rfl rfl ?_
    refine re_iconst (v := 0) X dX10_school_11 (by decide) ?_
    refine re_bipush (v := 7) X dX10_school_12 (by decide) ?_
    refine re_callSz X (lk_X10_in l w u2 0 7) (ca_X10_in (by decide) (by decide)) ml_RX10_184 sm_X10_in rfl rfl rfl (zle rfl) zRo dX10_school_14 (fun r3 M4 hr3 => ?_)
    refine re_if_eq (tgt := 27) X dX10_school_17 (by decide) (fun _ => ?_) (fun _ => ?_)
    · refine re_iconst (v := 0) X dX10_school_27 (by decide) ?_
      exact re_zret X (Or.inl rfl) dX10_school_28
    · refine re_aload_n X dX10_school_20 rfl rfl ?_
      refine re_getI X cl_10 (by decide) fl_RX10_259 ho rfl dX10_school_21 ?_
      refine re_if_le (tgt := 29) X dX10_school_24 (by decide) (fun _ => ?_) (fun _ => ?_)
      · refine re_aload_n X dX10_school_29 rfl rfl ?_
        refine re_getR X cl_10 (by decide) fl_RX10_46 ho rfl (zR_10_15 ho) dX10_school_30 ?_
        refine re_iload_n X dX10_school_33 rfl rfl ?_
        refine re_iload_n X dX10_school_34 rfl rfl ?_
        refine re_ck (fun hi6 => ?_)
        refine re_iast X (zQ_10_15 X.clo ho) hi6 (j := zIx u1) rfl dX10_school_35 (fun M5 => ?_)
        refine re_iconst (v := 1) X dX10_school_36 (by decide) ?_
        exact re_zret X (Or.inr rfl) dX10_school_37
      · refine re_iconst (v := 0) X dX10_school_27 (by decide) ?_
        exact re_zret X (Or.inl rfl) dX10_school_28
theorem ca_X10_school {R : Room} (h1 : rm_X10_school.frames + 1 ≤ R.frames) (h2 : 8 + (3 + 11) + rm_X10_school.locals ≤ R.locals) : zCa yX10_school cX10_school 3 (some .boolean) rm_X10_school R 2 := ⟨cd_X10_school, iz_RX10, ⟨by decide, by decide, by decide⟩, rfl, rfl, h1, h2⟩
/-! DebateHouseModel.there -/
abbrev rm_X10_there : Room := { frames := 0, cells := 0, slots := 0, locals := 0 }
def f_X10_there_L4   : Nat → Int32 → Int32 → zMem → zTr
  | 0, _, _, _ => none
  | n + 1, x1, x2, M => if 24 ≤ x2 then some (x1, M) else zCk (zIn x2 24) (if (M 108 (zIx x2)) = 0 then f_X10_there_L4 n (x1 + 0) (x2 + 1) M else f_X10_there_L4 n (x1 + 1) (x2 + 1) M)
def f_X10_there  (M : zMem) : zTr := f_X10_there_L4 zFu 0 0 M
set_option maxRecDepth 100000 in
theorem lb_X10_there_4 {p : Program} {l : Launch} {e : Env} {s : State} {m : MethodId} {args : Array Value} {below : List Frame} {meth : Method} {c : Code} {w : zWD} (X : zCx p s m args meth c w (zFree w) RX10 cX10_there 3 (some .int)) (ho : zKd w 74 = (10, 61)) : ∀ (n : Nat) (x1 : Int32) (x2 : Int32) (M : zMem), zRm p l e rm_X10_there s m args below meth c w 1 4 [some (.ref (zA w 74)), some (.int x1), some (.int x2)] [] M (f_X10_there_L4 n x1 x2 M) := by
  intro n
  induction n with
  | zero => intro x1 x2 M; exact re_none
  | succ n ih =>
    intro x1 x2 M
    rw [f_X10_there_L4]
    refine re_iload_n X dX10_there_4 rfl rfl ?_
    refine re_bipush (v := 24) X dX10_there_5 (by decide) ?_
    refine re_icmp_ge (tgt := 33) X dX10_there_7 (by decide) (fun _ => ?_) (fun _ => ?_)
    · refine re_iload_n X dX10_there_33 rfl rfl ?_
      exact re_iret X dX10_there_34
    · refine re_iload_n X dX10_there_10 rfl rfl ?_
      refine re_aload_n X dX10_there_11 rfl rfl ?_
      refine re_getR X cl_10 (by decide) fl_RX10_77 ho rfl (zR_10_28 ho) dX10_there_12 ?_
      refine re_iload_n X dX10_there_15 rfl rfl ?_
      refine re_ck (fun hi1 => ?_)
      refine re_zald X (zQ_10_28 X.clo ho) hi1 (j := zIx x2) rfl dX10_there_16 ?_
      refine re_if_eq (tgt := 24) X dX10_there_17 (by decide) (fun _ => ?_) (fun _ => ?_)
      · refine re_iconst (v := 0) X dX10_there_24 (by decide) ?_
        refine re_iadd X dX10_there_25 ?_
        refine re_istore_n (lv' := [some (.ref (zA w 74)), some (.int (x1 + 0)), some (.int x2)]) X dX10_there_26 rfl (zlt rfl) rfl ?_
        refine re_iinc (v := 1) (lv' := [some (.ref (zA w 74)), some (.int (x1 + 0)), some (.int (x2 + 1))]) X dX10_there_27 rfl (by decide) rfl ?_
        refine re_goto (tgt := 4) X dX10_there_30 (by decide) ?_
        exact ih (x1 + 0) (x2 + 1) M
      · refine re_iconst (v := 1) X dX10_there_20 (by decide) ?_
        refine re_goto (tgt := 25) X dX10_there_21 (by decide) ?_
        refine re_iadd X dX10_there_25 ?_
        refine re_istore_n (lv' := [some (.ref (zA w 74)), some (.int (x1 + 1)), some (.int x2)]) X dX10_there_26 rfl (zlt rfl) rfl ?_
        refine re_iinc (v := 1) (lv' := [some (.ref (zA w 74)), some (.int (x1 + 1)), some (.int (x2 + 1))]) X dX10_there_27 rfl (by decide) rfl ?_
        refine re_goto (tgt := 4) X dX10_there_30 (by decide) ?_
        exact ih (x1 + 1) (x2 + 1) M

set_option maxRecDepth 100000 in
theorem lk_X10_there (l : Launch) (w : zWD)  (ho : zKd w 74 = (10, 61)) : zMt l w yX10_there cX10_there 3 (some .int) rm_X10_there 1 [.ref (zA w 74)] (fun M => f_X10_there M) := by
  refine zMt.of (by decide) [some (.ref (zA w 74)), none, none] rfl (zle rfl) (by intro v hv; simp only [List.mem_cons, List.not_mem_nil, or_false] at hv; rcases hv with rfl <;> rfl) ?_
  intro p e s m args below meth c X M
  unfold f_X10_there
  refine re_iconst (v := 0) X dX10_there_0 (by decide) ?_
  refine re_istore_n (lv' := [some (.ref (zA w 74)), some (.int 0), none]) X dX10_there_1 rfl (zlt rfl) rfl ?_
  refine re_iconst (v := 0) X dX10_there_2 (by decide) ?_
  refine re_istore_n (lv' := [some (.ref (zA w 74)), some (.int 0), some (.int 0)]) X dX10_there_3 rfl (zlt rfl) rfl ?_
  exact lb_X10_there_4 X ho zFu 0 0 M
theorem ca_X10_there {R : Room} (h1 : rm_X10_there.frames + 1 ≤ R.frames) (h2 : 8 + (3 + 11) + rm_X10_there.locals ≤ R.locals) : zCa yX10_there cX10_there 3 (some .int) rm_X10_there R 0 := ⟨cd_X10_there, iz_RX10, ⟨by decide, by decide, by decide⟩, rfl, rfl, h1, h2⟩
/-! DebateHouseModel.waitsFor -/
abbrev rm_X10_waitsFor : Room := { frames := 0, cells := 0, slots := 0, locals := 0 }
def f_X10_waitsFor_L2 (u1 : Int32)  : Nat → Int32 → zMem → zTr
  | 0, _, _ => none
  | n + 1, x2, M => if (M 74 31) ≤ x2 then some (0, M) else zCk (zIn x2 24) (if (M 109 (zIx x2)) = u1 then some (1, M) else f_X10_waitsFor_L2 u1 n (x2 + 1) M)
def f_X10_waitsFor (u1 : Int32) (M : zMem) : zTr := f_X10_waitsFor_L2 u1 zFu 0 M
set_option maxRecDepth 100000 in
theorem lb_X10_waitsFor_2 {p : Program} {l : Launch} {e : Env} {s : State} {m : MethodId} {args : Array Value} {below : List Frame} {meth : Method} {c : Code} {w : zWD} {u1 : Int32} (X : zCx p s m args meth c w (zFree w) RX10 cX10_waitsFor 3 (some .boolean)) (ho : zKd w 74 = (10, 61)) : ∀ (n : Nat) (x2 : Int32) (M : zMem), zRm p l e rm_X10_waitsFor s m args below meth c w 2 2 [some (.ref (zA w 74)), some (.int u1), some (.int x2)] [] M (f_X10_waitsFor_L2 u1 n x2 M) := by
  intro n
  induction n with
  | zero => intro x2 M; exact re_none
  | succ n ih =>
    intro x2 M
    rw [f_X10_waitsFor_L2]
    refine re_iload_n X dX10_waitsFor_2 rfl rfl ?_
    refine re_aload_n X dX10_waitsFor_3 rfl rfl ?_
    refine re_getI X cl_10 (by decide) fl_RX10_268 ho rfl dX10_waitsFor_4 ?_
    refine re_icmp_ge (tgt := 28) X dX10_waitsFor_7 (by decide) (fun _ => ?_) (fun _ => ?_)
    · refine re_iconst (v := 0) X dX10_waitsFor_28 (by decide) ?_
      exact re_zret X (Or.inl rfl) dX10_waitsFor_29
    · refine re_aload_n X dX10_waitsFor_10 rfl rfl ?_
      refine re_getR X cl_10 (by decide) fl_RX10_80 ho rfl (zR_10_29 ho) dX10_waitsFor_11 ?_
      refine re_iload_n X dX10_waitsFor_14 rfl rfl ?_
      refine re_ck (fun hi1 => ?_)
      refine re_iald X (zQ_10_29 X.clo ho) hi1 (j := zIx x2) rfl dX10_waitsFor_15 ?_
      refine re_iload_n X dX10_waitsFor_16 rfl rfl ?_
      refine re_icmp_ne (tgt := 22) X dX10_waitsFor_17 (by decide) (fun _ => ?_) (fun _ => ?_)
      · refine re_iconst (v := 1) X dX10_waitsFor_20 (by decide) ?_
        exact re_zret X (Or.inr rfl) dX10_waitsFor_21
      · refine re_iinc (v := 1) (lv' := [some (.ref (zA w 74)), some (.int u1), some (.int (x2 + 1))]) X dX10_waitsFor_22 rfl (by decide) rfl ?_
        refine re_goto (tgt := 2) X dX10_waitsFor_25 (by decide) ?_
        exact ih (x2 + 1) M

set_option maxRecDepth 100000 in
theorem lk_X10_waitsFor (l : Launch) (w : zWD) (u1 : Int32) (ho : zKd w 74 = (10, 61)) : zMt l w yX10_waitsFor cX10_waitsFor 3 (some .boolean) rm_X10_waitsFor 2 [.ref (zA w 74), .int u1] (fun M => f_X10_waitsFor u1 M) := by
  refine zMt.of (by decide) [some (.ref (zA w 74)), some (.int u1), none] rfl (zle rfl) (by intro v hv; simp only [List.mem_cons, List.not_mem_nil, or_false] at hv; rcases hv with rfl | rfl <;> rfl) ?_
  intro p e s m args below meth c X M
  unfold f_X10_waitsFor
  refine re_iconst (v := 0) X dX10_waitsFor_0 (by decide) ?_
  refine re_istore_n (lv' := [some (.ref (zA w 74)), some (.int u1), some (.int 0)]) X dX10_waitsFor_1 rfl (zlt rfl) rfl ?_
  exact lb_X10_waitsFor_2 X ho zFu 0 M
theorem ca_X10_waitsFor {R : Room} (h1 : rm_X10_waitsFor.frames + 1 ≤ R.frames) (h2 : 8 + (3 + 11) + rm_X10_waitsFor.locals ≤ R.locals) : zCa yX10_waitsFor cX10_waitsFor 3 (some .boolean) rm_X10_waitsFor R 1 := ⟨cd_X10_waitsFor, iz_RX10, ⟨by decide, by decide, by decide⟩, rfl, rfl, h1, h2⟩
/-! DebateHouseModel.leaves -/
abbrev rm_X10_leaves : Room := { frames := 0, cells := 0, slots := 0, locals := 0 }
def f_X10_leaves_L4 (u1 : Int32)  : Nat → Int32 → Int32 → zMem → zTr
  | 0, _, _, _ => none
  | n + 1, x2, x3, M => if (M 74 31) ≤ x3 then zLt (zUp M 74 31 x2) (fun M1 => some (0, M1)) else zCk (zIn x3 24) (if (M 109 (zIx x3)) = u1 then f_X10_leaves_L4 u1 n x2 (x3 + 1) M else zCk (zIn x3 24) (zCk (zIn x2 24) (zLt (zUp M 109 (zIx x2) (M 109 (zIx x3))) (fun M4 => f_X10_leaves_L4 u1 n (x2 + 1) (x3 + 1) M4))))
def f_X10_leaves (u1 : Int32) (M : zMem) : zTr := f_X10_leaves_L4 u1 zFu 0 0 M
set_option maxRecDepth 100000 in
theorem lb_X10_leaves_4 {p : Program} {l : Launch} {e : Env} {s : State} {m : MethodId} {args : Array Value} {below : List Frame} {meth : Method} {c : Code} {w : zWD} {u1 : Int32} (X : zCx p s m args meth c w (zFree w) RX10 cX10_leaves 4 none) (ho : zKd w 74 = (10, 61)) : ∀ (n : Nat) (x2 : Int32) (x3 : Int32) (M : zMem), zRm p l e rm_X10_leaves s m args below meth c w 0 4 [some (.ref (zA w 74)), some (.int u1), some (.int x2), some (.int x3)] [] M (f_X10_leaves_L4 u1 n x2 x3 M) := by
  intro n
  induction n with
  | zero => intro x2 x3 M; exact re_none
  | succ n ih =>
    intro x2 x3 M
    rw [f_X10_leaves_L4]
    refine re_iload_n X dX10_leaves_4 rfl rfl ?_
    refine re_aload_n X dX10_leaves_5 rfl rfl ?_
    refine re_getI X cl_10 (by decide) fl_RX10_268 ho rfl dX10_leaves_6 ?_
    refine re_icmp_ge (tgt := 43) X dX10_leaves_9 (by decide) (fun _ => ?_) (fun _ => ?_)
    · refine re_aload_n X dX10_leaves_43 rfl rfl ?_
      refine re_iload_n X dX10_leaves_44 rfl rfl ?_
      refine re_putI X cl_10 (by decide) fl_RX10_268 ho rfl rfl rfl dX10_leaves_45 (fun M1 => ?_)
      exact re_vret X dX10_leaves_48
    · refine re_aload_n X dX10_leaves_12 rfl rfl ?_
      refine re_getR X cl_10 (by decide) fl_RX10_80 ho rfl (zR_10_29 ho) dX10_leaves_13 ?_
      refine re_iload_n X dX10_leaves_16 rfl rfl ?_
      refine re_ck (fun hi2 => ?_)
      refine re_iald X (zQ_10_29 X.clo ho) hi2 (j := zIx x3) rfl dX10_leaves_17 ?_
      refine re_iload_n X dX10_leaves_18 rfl rfl ?_
      refine re_icmp_eq (tgt := 37) X dX10_leaves_19 (by decide) (fun _ => ?_) (fun _ => ?_)
      · refine re_iinc (v := 1) (lv' := [some (.ref (zA w 74)), some (.int u1), some (.int x2), some (.int (x3 + 1))]) X dX10_leaves_37 rfl (by decide) rfl ?_
        refine re_goto (tgt := 4) X dX10_leaves_40 (by decide) ?_
        exact ih x2 (x3 + 1) M
      · refine re_aload_n X dX10_leaves_22 rfl rfl ?_
        refine re_getR X cl_10 (by decide) fl_RX10_80 ho rfl (zR_10_29 ho) dX10_leaves_23 ?_
        refine re_iload_n X dX10_leaves_26 rfl rfl ?_
        refine re_aload_n X dX10_leaves_27 rfl rfl ?_
        refine re_getR X cl_10 (by decide) fl_RX10_80 ho rfl (zR_10_29 ho) dX10_leaves_28 ?_
        refine re_iload_n X dX10_leaves_31 rfl rfl ?_
        refine re_ck (fun hi3 => ?_)
        refine re_iald X (zQ_10_29 X.clo ho) hi3 (j := zIx x3) rfl dX10_leaves_32 ?_
        refine re_ck (fun hi5 => ?_)
        refine re_iast X (zQ_10_29 X.clo ho) hi5 (j := zIx x2) rfl dX10_leaves_33 (fun M4 => ?_)
        refine re_iinc (v := 1) (lv' := [some (.ref (zA w 74)), some (.int u1), some (.int (x2 + 1)), some (.int x3)]) X dX10_leaves_34 rfl (by decide) rfl ?_
        refine re_iinc (v := 1) (lv' := [some (.ref (zA w 74)), some (.int u1), some (.int (x2 + 1)), some (.int (x3 + 1))]) X dX10_leaves_37 rfl (by decide) rfl ?_
        refine re_goto (tgt := 4) X dX10_leaves_40 (by decide) ?_
        exact ih (x2 + 1) (x3 + 1) M4

set_option maxRecDepth 100000 in
theorem lk_X10_leaves (l : Launch) (w : zWD) (u1 : Int32) (ho : zKd w 74 = (10, 61)) : zMt l w yX10_leaves cX10_leaves 4 none rm_X10_leaves 0 [.ref (zA w 74), .int u1] (fun M => f_X10_leaves u1 M) := by
  refine zMt.of (by decide) [some (.ref (zA w 74)), some (.int u1), none, none] rfl (zle rfl) (by intro v hv; simp only [List.mem_cons, List.not_mem_nil, or_false] at hv; rcases hv with rfl | rfl <;> rfl) ?_
  intro p e s m args below meth c X M
  unfold f_X10_leaves
  refine re_iconst (v := 0) X dX10_leaves_0 (by decide) ?_
  refine re_istore_n (lv' := [some (.ref (zA w 74)), some (.int u1), some (.int 0), none]) X dX10_leaves_1 rfl (zlt rfl) rfl ?_
  refine re_iconst (v := 0) X dX10_leaves_2 (by decide) ?_
  refine re_istore_n (lv' := [some (.ref (zA w 74)), some (.int u1), some (.int 0), some (.int 0)]) X dX10_leaves_3 rfl (zlt rfl) rfl ?_
  exact lb_X10_leaves_4 X ho zFu 0 0 M
theorem ca_X10_leaves {R : Room} (h1 : rm_X10_leaves.frames + 1 ≤ R.frames) (h2 : 8 + (4 + 11) + rm_X10_leaves.locals ≤ R.locals) : zCa yX10_leaves cX10_leaves 4 none rm_X10_leaves R 1 := ⟨cd_X10_leaves, iz_RX10, ⟨by decide, by decide, by decide⟩, rfl, rfl, h1, h2⟩
/-! DebateHouseModel.free -/
abbrev rm_X10_free : Room := { frames := 0, cells := 0, slots := 0, locals := 0 }
def f_X10_free  (M : zMem) : zTr := zLt (zUp M 74 32 (-1)) (fun M1 => zLt (zUp M1 74 33 0) (fun M2 => zLt (zUp M2 74 37 0) (fun M3 => some (0, M3))))
set_option maxRecDepth 100000 in
theorem lk_X10_free (l : Launch) (w : zWD)  (ho : zKd w 74 = (10, 61)) : zMt l w yX10_free cX10_free 1 none rm_X10_free 0 [.ref (zA w 74)] (fun M => f_X10_free M) := by
  refine zMt.of (by decide) [some (.ref (zA w 74))] rfl (zle rfl) (by intro v hv; simp only [List.mem_cons, List.not_mem_nil, or_false] at hv; rcases hv with rfl <;> rfl) ?_
  intro p e s m args below meth c X M
  unfold f_X10_free
  refine re_aload_n X dX10_free_0 rfl rfl ?_
  refine re_iconst (v := -1) X dX10_free_1 (by decide) ?_
  refine re_putI X cl_10 (by decide) fl_RX10_271 ho rfl rfl rfl dX10_free_2 (fun M1 => ?_)
  refine re_aload_n X dX10_free_5 rfl rfl ?_
  refine re_iconst (v := 0) X dX10_free_6 (by decide) ?_
  refine re_putI X cl_10 (by decide) fl_RX10_274 ho rfl rfl rfl dX10_free_7 (fun M2 => ?_)
  refine re_aload_n X dX10_free_10 rfl rfl ?_
  refine re_iconst (v := 0) X dX10_free_11 (by decide) ?_
  refine re_putZ X cl_10 (by decide) fl_RX10_286 ho rfl rfl rfl (Or.inl rfl) dX10_free_12 (fun M3 => ?_)
  exact re_vret X dX10_free_15
theorem ca_X10_free {R : Room} (h1 : rm_X10_free.frames + 1 ≤ R.frames) (h2 : 8 + (1 + 11) + rm_X10_free.locals ≤ R.locals) : zCa yX10_free cX10_free 1 none rm_X10_free R 0 := ⟨cd_X10_free, iz_RX10, ⟨by decide, by decide, by decide⟩, rfl, rfl, h1, h2⟩
/-! DebateHouseModel.spoke -/
abbrev rm_X10_spoke : Room := { frames := 0, cells := 0, slots := 0, locals := 0 }
def f_X10_spoke_B44 (u1 : Int32) (u2 : Nat) (k5 : Int32 → Int32 → zMem → zTr) (x4 : Int32) (y0 : Int32) (M : zMem) : zTr := zCk (zIn x4 24) (k5 (y0 + (M u2 (zIx x4))) (x4 + 1) M)
def f_X10_spoke_L5 (u1 : Int32) (u2 : Nat)  : Nat → Int32 → Int32 → zMem → zTr
  | 0, _, _, _ => none
  | n + 1, x3, x4, M => if 24 ≤ x4 then some (x3, M) else if x4 = u1 then f_X10_spoke_B44 u1 u2 (fun x3 x4 M => f_X10_spoke_L5 u1 u2 n x3 x4 M) x4 x3 M else if (M 91 0) = 0 then f_X10_spoke_L5 u1 u2 n (x3 + 0) (x4 + 1) M else zCk (zIn x4 24) (zCk (zIn u1 24) (if (M 93 (zIx x4)) = (M 93 (zIx u1)) then f_X10_spoke_B44 u1 u2 (fun x3 x4 M => f_X10_spoke_L5 u1 u2 n x3 x4 M) x4 x3 M else f_X10_spoke_L5 u1 u2 n (x3 + 0) (x4 + 1) M))
def f_X10_spoke (u1 : Int32) (u2 : Nat) (M : zMem) : zTr := f_X10_spoke_L5 u1 u2 zFu 0 0 M
set_option maxRecDepth 100000 in
theorem lb_X10_spoke_44 {p : Program} {l : Launch} {e : Env} {s : State} {m : MethodId} {args : Array Value} {below : List Frame} {meth : Method} {c : Code} {w : zWD} {u1 : Int32} {u2 : Nat} (X : zCx p s m args meth c w (zFree w) RX10 cX10_spoke 5 (some .int)) (ho : zKd w 74 = (10, 61)) (hu2 : zKd w u2 = (12, 24)) (k5 : Int32 → Int32 → zMem → zTr) (hk5 : ∀ (x3 : Int32) (x4 : Int32) (M : zMem), zRm p l e rm_X10_spoke s m args below meth c w 1 5 [some (.ref (zA w 74)), some (.int u1), some (.ref (zA w u2)), some (.int x3), some (.int x4)] [] M (k5 x3 x4 M)) : ∀ (x4 : Int32) (y0 : Int32) (M : zMem), zRm p l e rm_X10_spoke s m args below meth c w 1 44 [some (.ref (zA w 74)), some (.int u1), some (.ref (zA w u2)), none, some (.int x4)] [.int y0] M (f_X10_spoke_B44 u1 u2 k5 x4 y0 M) := by
  intro x4 y0 M
  unfold f_X10_spoke_B44
  refine re_aload_n X dX10_spoke_44 rfl rfl ?_
  refine re_iload X dX10_spoke_45 rfl ?_
  refine re_ck (fun hi1 => ?_)
  refine re_iald X hu2 hi1 (j := zIx x4) rfl dX10_spoke_47 ?_
  refine re_goto (tgt := 52) X dX10_spoke_48 (by decide) ?_
  refine re_iadd X dX10_spoke_52 ?_
  refine re_istore_n (lv' := [some (.ref (zA w 74)), some (.int u1), some (.ref (zA w u2)), some (.int (y0 + (M u2 (zIx x4)))), some (.int x4)]) X dX10_spoke_53 rfl (zlt rfl) rfl ?_
  refine re_iinc (v := 1) (lv' := [some (.ref (zA w 74)), some (.int u1), some (.ref (zA w u2)), some (.int (y0 + (M u2 (zIx x4)))), some (.int (x4 + 1))]) X dX10_spoke_54 rfl (by decide) rfl ?_
  refine re_goto (tgt := 5) X dX10_spoke_57 (by decide) ?_
  exact hk5 (y0 + (M u2 (zIx x4))) (x4 + 1) M

set_option maxRecDepth 100000 in
theorem lb_X10_spoke_5 {p : Program} {l : Launch} {e : Env} {s : State} {m : MethodId} {args : Array Value} {below : List Frame} {meth : Method} {c : Code} {w : zWD} {u1 : Int32} {u2 : Nat} (X : zCx p s m args meth c w (zFree w) RX10 cX10_spoke 5 (some .int)) (ho : zKd w 74 = (10, 61)) (hu2 : zKd w u2 = (12, 24)) : ∀ (n : Nat) (x3 : Int32) (x4 : Int32) (M : zMem), zRm p l e rm_X10_spoke s m args below meth c w 1 5 [some (.ref (zA w 74)), some (.int u1), some (.ref (zA w u2)), some (.int x3), some (.int x4)] [] M (f_X10_spoke_L5 u1 u2 n x3 x4 M) := by
  intro n
  induction n with
  | zero => intro x3 x4 M; exact re_none
  | succ n ih =>
    intro x3 x4 M
    rw [f_X10_spoke_L5]
    refine re_iload X dX10_spoke_5 rfl ?_
    refine re_bipush (v := 24) X dX10_spoke_7 (by decide) ?_
    refine re_icmp_ge (tgt := 60) X dX10_spoke_9 (by decide) (fun _ => ?_) (fun _ => ?_)
    · refine re_iload_n X dX10_spoke_60 rfl rfl ?_
      exact re_iret X dX10_spoke_61
    · refine re_iload_n X dX10_spoke_12 rfl rfl ?_
      refine re_iload X dX10_spoke_13 rfl ?_
      refine re_iload_n X dX10_spoke_15 rfl rfl ?_
      refine re_icmp_eq (tgt := 44) X dX10_spoke_16 (by decide) (fun _ => ?_) (fun _ => ?_)
      · exact re_sub (lb_X10_spoke_44 X ho hu2 _ ih x4 x3 M) ⟨rfl, ⟨rfl, ⟨rfl, ⟨rfl, trivial⟩⟩⟩⟩
      · refine re_aload_n X dX10_spoke_19 rfl rfl ?_
        refine re_getR X cl_10 (by decide) fl_RX10_40 ho rfl (zR_10_13 ho) dX10_spoke_20 ?_
        refine re_iconst (v := 0) X dX10_spoke_23 (by decide) ?_
        refine re_zald X (zQ_10_13 X.clo ho) (by decide) (j := 0) rfl dX10_spoke_24 ?_
        refine re_if_eq (tgt := 51) X dX10_spoke_25 (by decide) (fun _ => ?_) (fun _ => ?_)
        · refine re_iconst (v := 0) X dX10_spoke_51 (by decide) ?_
          refine re_iadd X dX10_spoke_52 ?_
          refine re_istore_n (lv' := [some (.ref (zA w 74)), some (.int u1), some (.ref (zA w u2)), some (.int (x3 + 0)), some (.int x4)]) X dX10_spoke_53 rfl (zlt rfl) rfl ?_
          refine re_iinc (v := 1) (lv' := [some (.ref (zA w 74)), some (.int u1), some (.ref (zA w u2)), some (.int (x3 + 0)), some (.int (x4 + 1))]) X dX10_spoke_54 rfl (by decide) rfl ?_
          refine re_goto (tgt := 5) X dX10_spoke_57 (by decide) ?_
          exact ih (x3 + 0) (x4 + 1) M
        · refine re_aload_n X dX10_spoke_28 rfl rfl ?_
          refine re_getR X cl_10 (by decide) fl_RX10_46 ho rfl (zR_10_15 ho) dX10_spoke_29 ?_
          refine re_iload X dX10_spoke_32 rfl ?_
          refine re_ck (fun hi2 => ?_)
          refine re_iald X (zQ_10_15 X.clo ho) hi2 (j := zIx x4) rfl dX10_spoke_34 ?_
          refine re_aload_n X dX10_spoke_35 rfl rfl ?_
          refine re_getR X cl_10 (by decide) fl_RX10_46 ho rfl (zR_10_15 ho) dX10_spoke_36 ?_
          refine re_iload_n X dX10_spoke_39 rfl rfl ?_
          refine re_ck (fun hi3 => ?_)
          refine re_iald X (zQ_10_15 X.clo ho) hi3 (j := zIx u1) rfl dX10_spoke_40 ?_
          refine re_icmp_ne (tgt := 51) X dX10_spoke_41 (by decide) (fun _ => ?_) (fun _ => ?_)
          · exact re_sub (lb_X10_spoke_44 X ho hu2 _ ih x4 x3 M) ⟨rfl, ⟨rfl, ⟨rfl, ⟨rfl, trivial⟩⟩⟩⟩
          · refine re_iconst (v := 0) X dX10_spoke_51 (by decide) ?_
            refine re_iadd X dX10_spoke_52 ?_
            refine re_istore_n (lv' := [some (.ref (zA w 74)), some (.int u1), some (.ref (zA w u2)), some (.int (x3 + 0)), some (.int x4)]) X dX10_spoke_53 rfl (zlt rfl) rfl ?_
            refine re_iinc (v := 1) (lv' := [some (.ref (zA w 74)), some (.int u1), some (.ref (zA w u2)), some (.int (x3 + 0)), some (.int (x4 + 1))]) X dX10_spoke_54 rfl (by decide) rfl ?_
            refine re_goto (tgt := 5) X dX10_spoke_57 (by decide) ?_
            exact ih (x3 + 0) (x4 + 1) M

set_option maxRecDepth 100000 in
theorem lk_X10_spoke (l : Launch) (w : zWD) (u1 : Int32) (u2 : Nat) (ho : zKd w 74 = (10, 61)) (hu2 : zKd w u2 = (12, 24)) : zMt l w yX10_spoke cX10_spoke 5 (some .int) rm_X10_spoke 1 [.ref (zA w 74), .int u1, .ref (zA w u2)] (fun M => f_X10_spoke u1 u2 M) := by
  refine zMt.of (by decide) [some (.ref (zA w 74)), some (.int u1), some (.ref (zA w u2)), none, none] rfl (zle rfl) (by intro v hv; simp only [List.mem_cons, List.not_mem_nil, or_false] at hv; rcases hv with rfl | rfl | rfl <;> rfl) ?_
  intro p e s m args below meth c X M
  unfold f_X10_spoke
  refine re_iconst (v := 0) X dX10_spoke_0 (by decide) ?_
  refine re_istore_n (lv' := [some (.ref (zA w 74)), some (.int u1), some (.ref (zA w u2)), some (.int 0), none]) X dX10_spoke_1 rfl (zlt rfl) rfl ?_
  refine re_iconst (v := 0) X dX10_spoke_2 (by decide) ?_
  refine re_istore (lv' := [some (.ref (zA w 74)), some (.int u1), some (.ref (zA w u2)), some (.int 0), some (.int 0)]) X dX10_spoke_3 (zlt rfl) rfl ?_
  exact lb_X10_spoke_5 X ho hu2 zFu 0 0 M
theorem ca_X10_spoke {R : Room} (h1 : rm_X10_spoke.frames + 1 ≤ R.frames) (h2 : 8 + (5 + 11) + rm_X10_spoke.locals ≤ R.locals) : zCa yX10_spoke cX10_spoke 5 (some .int) rm_X10_spoke R 2 := ⟨cd_X10_spoke, iz_RX10, ⟨by decide, by decide, by decide⟩, rfl, rfl, h1, h2⟩
/-! DebateHouseModel.next -/
abbrev rm_X10_next : Room := { frames := 1, cells := 0, slots := 0, locals := 24 }
def f_X10_next_L6 (u1 : Nat) (u2 : Int32) (u3 : Nat)  : Nat → Int32 → Int32 → zMem → zTr
  | 0, _, _, _ => none
  | n + 1, x4, x5, M => if u2 ≤ x5 then some (x4, M) else zCk (zIn x5 24) (zBd (f_X10_spoke (M u1 (zIx x5)) u3 M) (fun r2 M3 => zCk (zIn x4 24) (zBd (f_X10_spoke (M3 u1 (zIx x4)) u3 M3) (fun r5 M6 => if r5 ≤ r2 then f_X10_next_L6 u1 u2 u3 n x4 (x5 + 1) M6 else f_X10_next_L6 u1 u2 u3 n x5 (x5 + 1) M6))))
def f_X10_next (u1 : Nat) (u2 : Int32) (u3 : Nat) (M : zMem) : zTr := f_X10_next_L6 u1 u2 u3 zFu 0 1 M
set_option maxRecDepth 100000 in
theorem lb_X10_next_6 {p : Program} {l : Launch} {e : Env} {s : State} {m : MethodId} {args : Array Value} {below : List Frame} {meth : Method} {c : Code} {w : zWD} {u1 : Nat} {u2 : Int32} {u3 : Nat} (X : zCx p s m args meth c w (zFree w) RX10 cX10_next 6 (some .int)) (ho : zKd w 74 = (10, 61)) (hu1 : zKd w u1 = (12, 24)) (hu3 : zKd w u3 = (12, 24)) : ∀ (n : Nat) (x4 : Int32) (x5 : Int32) (M : zMem), zRm p l e rm_X10_next s m args below meth c w 1 6 [some (.ref (zA w 74)), some (.ref (zA w u1)), some (.int u2), some (.ref (zA w u3)), some (.int x4), some (.int x5)] [] M (f_X10_next_L6 u1 u2 u3 n x4 x5 M) := by
  intro n
  induction n with
  | zero => intro x4 x5 M; exact re_none
  | succ n ih =>
    intro x4 x5 M
    rw [f_X10_next_L6]
    refine re_iload X dX10_next_6 rfl ?_
    refine re_iload_n X dX10_next_8 rfl rfl ?_
    refine re_icmp_ge (tgt := 48) X dX10_next_9 (by decide) (fun _ => ?_) (fun _ => ?_)
    · refine re_iload X dX10_next_48 rfl ?_
      exact re_iret X dX10_next_50
    · refine re_aload_n X dX10_next_12 rfl rfl ?_
      refine re_aload_n X dX10_next_13 rfl rfl ?_
      refine re_iload X dX10_next_14 rfl ?_
      refine re_ck (fun hi1 => ?_)
      refine re_iald X hu1 hi1 (j := zIx x5) rfl dX10_next_16 ?_
      refine re_aload_n X dX10_next_17 rfl rfl ?_
      refine re_callVi X (lk_X10_spoke l w (M u1 (zIx x5)) u3 ho hu3) (ca_X10_spoke (by decide) (by decide)) ml_RX10_305 im_X10_spoke se_X10_spoke cl_10 ho rfl rfl rfl (zle rfl) zRo dX10_next_18 (fun r2 M3 hr2 => ?_)
      refine re_aload_n X dX10_next_21 rfl rfl ?_
      refine re_aload_n X dX10_next_22 rfl rfl ?_
      refine re_iload X dX10_next_23 rfl ?_
      refine re_ck (fun hi4 => ?_)
      refine re_iald X hu1 hi4 (j := zIx x4) rfl dX10_next_25 ?_
      refine re_aload_n X dX10_next_26 rfl rfl ?_
      refine re_callVi X (lk_X10_spoke l w (M3 u1 (zIx x4)) u3 ho hu3) (ca_X10_spoke (by decide) (by decide)) ml_RX10_305 im_X10_spoke se_X10_spoke cl_10 ho rfl rfl rfl (zle rfl) zRo dX10_next_27 (fun r5 M6 hr5 => ?_)
      refine re_icmp_ge (tgt := 38) X dX10_next_30 (by decide) (fun _ => ?_) (fun _ => ?_)
      · refine re_iload X dX10_next_38 rfl ?_
        refine re_istore (lv' := [some (.ref (zA w 74)), some (.ref (zA w u1)), some (.int u2), some (.ref (zA w u3)), some (.int x4), some (.int x5)]) X dX10_next_40 (zlt rfl) rfl ?_
        refine re_iinc (v := 1) (lv' := [some (.ref (zA w 74)), some (.ref (zA w u1)), some (.int u2), some (.ref (zA w u3)), some (.int x4), some (.int (x5 + 1))]) X dX10_next_42 rfl (by decide) rfl ?_
        refine re_goto (tgt := 6) X dX10_next_45 (by decide) ?_
        exact ih x4 (x5 + 1) M6
      · refine re_iload X dX10_next_33 rfl ?_
        refine re_goto (tgt := 40) X dX10_next_35 (by decide) ?_
        refine re_istore (lv' := [some (.ref (zA w 74)), some (.ref (zA w u1)), some (.int u2), some (.ref (zA w u3)), some (.int x5), some (.int x5)]) X dX10_next_40 (zlt rfl) rfl ?_
        refine re_iinc (v := 1) (lv' := [some (.ref (zA w 74)), some (.ref (zA w u1)), some (.int u2), some (.ref (zA w u3)), some (.int x5), some (.int (x5 + 1))]) X dX10_next_42 rfl (by decide) rfl ?_
        refine re_goto (tgt := 6) X dX10_next_45 (by decide) ?_
        exact ih x5 (x5 + 1) M6

set_option maxRecDepth 100000 in
theorem lk_X10_next (l : Launch) (w : zWD) (u1 : Nat) (u2 : Int32) (u3 : Nat) (ho : zKd w 74 = (10, 61)) (hu1 : zKd w u1 = (12, 24)) (hu3 : zKd w u3 = (12, 24)) : zMt l w yX10_next cX10_next 6 (some .int) rm_X10_next 1 [.ref (zA w 74), .ref (zA w u1), .int u2, .ref (zA w u3)] (fun M => f_X10_next u1 u2 u3 M) := by
  refine zMt.of (by decide) [some (.ref (zA w 74)), some (.ref (zA w u1)), some (.int u2), some (.ref (zA w u3)), none, none] rfl (zle rfl) (by intro v hv; simp only [List.mem_cons, List.not_mem_nil, or_false] at hv; rcases hv with rfl | rfl | rfl | rfl <;> rfl) ?_
  intro p e s m args below meth c X M
  unfold f_X10_next
  refine re_iconst (v := 0) X dX10_next_0 (by decide) ?_
  refine re_istore (lv' := [some (.ref (zA w 74)), some (.ref (zA w u1)), some (.int u2), some (.ref (zA w u3)), some (.int 0), none]) X dX10_next_1 (zlt rfl) rfl ?_
  refine re_iconst (v := 1) X dX10_next_3 (by decide) ?_
  refine re_istore (lv' := [some (.ref (zA w 74)), some (.ref (zA w u1)), some (.int u2), some (.ref (zA w u3)), some (.int 0), some (.int 1)]) X dX10_next_4 (zlt rfl) rfl ?_
  exact lb_X10_next_6 X ho hu1 hu3 zFu 0 1 M
theorem ca_X10_next {R : Room} (h1 : rm_X10_next.frames + 1 ≤ R.frames) (h2 : 8 + (6 + 11) + rm_X10_next.locals ≤ R.locals) : zCa yX10_next cX10_next 6 (some .int) rm_X10_next R 3 := ⟨cd_X10_next, iz_RX10, ⟨by decide, by decide, by decide⟩, rfl, rfl, h1, h2⟩
/-! DebateHouseModel.isWrong -/
abbrev rm_X10_isWrong : Room := { frames := 1, cells := 0, slots := 0, locals := 22 }
def f_X10_isWrong_L149 (u1 : Int32) (u2 : Int32)  : Nat → Int32 → Int32 → Int32 → Int32 → zMem → zTr
  | 0, _, _, _, _, _ => none
  | n + 1, x3, x4, x5, x6, M => if 24 ≤ x6 then zCk (x5 = 0 ∨ x5 = 1) (some (x5, M)) else if x5 = 0 then (if (((x3 ||| x4) >>> (x6 &&& 31)) &&& 1) = 1 then zCk (zIn x6 24) (if (M 108 (zIx x6)) = 0 then f_X10_isWrong_L149 u1 u2 n x3 x4 1 (x6 + 1) M else f_X10_isWrong_L149 u1 u2 n x3 x4 0 (x6 + 1) M) else f_X10_isWrong_L149 u1 u2 n x3 x4 0 (x6 + 1) M) else f_X10_isWrong_L149 u1 u2 n x3 x4 1 (x6 + 1) M
def f_X10_isWrong (u1 : Int32) (u2 : Int32) (M : zMem) : zTr := zCk (zIn u1 300) (zCk (zIn u1 300) (if u2 = 4 then zBd (f_X10_in (M 97 (zIx u1)) 1 9999 M) (fun r4 M5 => if r4 = 0 then some (1, M5) else some (0, M5)) else if u2 = 5 then some (0, M) else if u2 = 6 then zCk (zIn u1 300) (zBd (f_X10_in (M 96 (zIx u1)) 0 7 M) (fun r9 M10 => if r9 = 0 then some (1, M10) else zBd (f_X10_in (M 97 (zIx u1)) 0 999 M10) (fun r11 M12 => if r11 = 0 then some (1, M12) else zBd (f_X10_in (M 98 (zIx u1)) 0 999 M12) (fun r13 M14 => if r13 = 0 then some (1, M14) else some (0, M14))))) else if u2 = 7 then some (0, M) else if u2 = 8 then (if ((M 97 (zIx u1)) &&& (M 98 (zIx u1))) = 0 then (if ((M 97 (zIx u1)) >>> (24 &&& 31)) = 0 then (if ((M 98 (zIx u1)) >>> (24 &&& 31)) = 0 then f_X10_isWrong_L149 u1 u2 zFu (M 97 (zIx u1)) (M 98 (zIx u1)) 0 0 M else f_X10_isWrong_L149 u1 u2 zFu (M 97 (zIx u1)) (M 98 (zIx u1)) 1 0 M) else f_X10_isWrong_L149 u1 u2 zFu (M 97 (zIx u1)) (M 98 (zIx u1)) 1 0 M) else f_X10_isWrong_L149 u1 u2 zFu (M 97 (zIx u1)) (M 98 (zIx u1)) 1 0 M) else if u2 = 9 then zBd (f_X10_in (M 97 (zIx u1)) 0 1 M) (fun r20 M21 => if r20 = 0 then some (1, M21) else some (0, M21)) else some (0, M)))
set_option maxRecDepth 100000 in
theorem lb_X10_isWrong_149 {p : Program} {l : Launch} {e : Env} {s : State} {m : MethodId} {args : Array Value} {below : List Frame} {meth : Method} {c : Code} {w : zWD} {u1 : Int32} {u2 : Int32} (X : zCx p s m args meth c w (zFree w) RX10 cX10_isWrong 7 (some .boolean)) (ho : zKd w 74 = (10, 61)) : ∀ (n : Nat) (x3 : Int32) (x4 : Int32) (x5 : Int32) (x6 : Int32) (M : zMem), zRm p l e rm_X10_isWrong s m args below meth c w 2 149 [some (.ref (zA w 74)), none, none, some (.int x3), some (.int x4), some (.int x5), some (.int x6)] [] M (f_X10_isWrong_L149 u1 u2 n x3 x4 x5 x6 M) := by
  intro n
  induction n with
  | zero => intro x3 x4 x5 x6 M; exact re_none
  | succ n ih =>
    intro x3 x4 x5 x6 M
    rw [f_X10_isWrong_L149]
    refine re_iload X dX10_isWrong_149 rfl ?_
    refine re_bipush (v := 24) X dX10_isWrong_151 (by decide) ?_
    refine re_icmp_ge (tgt := 197) X dX10_isWrong_153 (by decide) (fun _ => ?_) (fun _ => ?_)
    · refine re_iload X dX10_isWrong_197 rfl ?_
      refine re_ck (fun hz17 => ?_)
      exact re_zret X hz17 dX10_isWrong_199
    · refine re_iload X dX10_isWrong_156 rfl ?_
      refine re_if_ne (tgt := 184) X dX10_isWrong_158 (by decide) (fun _ => ?_) (fun _ => ?_)
      · refine re_iload_n X dX10_isWrong_161 rfl rfl ?_
        refine re_iload X dX10_isWrong_162 rfl ?_
        refine re_ior X dX10_isWrong_164 ?_
        refine re_iload X dX10_isWrong_165 rfl ?_
        refine re_ishr X dX10_isWrong_167 ?_
        refine re_iconst (v := 1) X dX10_isWrong_168 (by decide) ?_
        refine re_iand X dX10_isWrong_169 ?_
        refine re_iconst (v := 1) X dX10_isWrong_170 (by decide) ?_
        refine re_icmp_ne (tgt := 188) X dX10_isWrong_171 (by decide) (fun _ => ?_) (fun _ => ?_)
        · refine re_aload_n X dX10_isWrong_174 rfl rfl ?_
          refine re_getR X cl_10 (by decide) fl_RX10_77 ho rfl (zR_10_28 ho) dX10_isWrong_175 ?_
          refine re_iload X dX10_isWrong_178 rfl ?_
          refine re_ck (fun hi18 => ?_)
          refine re_zald X (zQ_10_28 X.clo ho) hi18 (j := zIx x6) rfl dX10_isWrong_180 ?_
          refine re_if_ne (tgt := 188) X dX10_isWrong_181 (by decide) (fun _ => ?_) (fun _ => ?_)
          · refine re_iconst (v := 1) X dX10_isWrong_184 (by decide) ?_
            refine re_goto (tgt := 189) X dX10_isWrong_185 (by decide) ?_
            refine re_istore (lv' := [some (.ref (zA w 74)), none, none, some (.int x3), some (.int x4), some (.int 1), some (.int x6)]) X dX10_isWrong_189 (zlt rfl) rfl ?_
            refine re_iinc (v := 1) (lv' := [some (.ref (zA w 74)), none, none, some (.int x3), some (.int x4), some (.int 1), some (.int (x6 + 1))]) X dX10_isWrong_191 rfl (by decide) rfl ?_
            refine re_goto (tgt := 149) X dX10_isWrong_194 (by decide) ?_
            exact ih x3 x4 1 (x6 + 1) M
          · refine re_iconst (v := 0) X dX10_isWrong_188 (by decide) ?_
            refine re_istore (lv' := [some (.ref (zA w 74)), none, none, some (.int x3), some (.int x4), some (.int 0), some (.int x6)]) X dX10_isWrong_189 (zlt rfl) rfl ?_
            refine re_iinc (v := 1) (lv' := [some (.ref (zA w 74)), none, none, some (.int x3), some (.int x4), some (.int 0), some (.int (x6 + 1))]) X dX10_isWrong_191 rfl (by decide) rfl ?_
            refine re_goto (tgt := 149) X dX10_isWrong_194 (by decide) ?_
            exact ih x3 x4 0 (x6 + 1) M
        · refine re_iconst (v := 0) X dX10_isWrong_188 (by decide) ?_
          refine re_istore (lv' := [some (.ref (zA w 74)), none, none, some (.int x3), some (.int x4), some (.int 0), some (.int x6)]) X dX10_isWrong_189 (zlt rfl) rfl ?_
          refine re_iinc (v := 1) (lv' := [some (.ref (zA w 74)), none, none, some (.int x3), some (.int x4), some (.int 0), some (.int (x6 + 1))]) X dX10_isWrong_191 rfl (by decide) rfl ?_
          refine re_goto (tgt := 149) X dX10_isWrong_194 (by decide) ?_
          exact ih x3 x4 0 (x6 + 1) M
      · refine re_iconst (v := 1) X dX10_isWrong_184 (by decide) ?_
        refine re_goto (tgt := 189) X dX10_isWrong_185 (by decide) ?_
        refine re_istore (lv' := [some (.ref (zA w 74)), none, none, some (.int x3), some (.int x4), some (.int 1), some (.int x6)]) X dX10_isWrong_189 (zlt rfl) rfl ?_
        refine re_iinc (v := 1) (lv' := [some (.ref (zA w 74)), none, none, some (.int x3), some (.int x4), some (.int 1), some (.int (x6 + 1))]) X dX10_isWrong_191 rfl (by decide) rfl ?_
        refine re_goto (tgt := 149) X dX10_isWrong_194 (by decide) ?_
        exact ih x3 x4 1 (x6 + 1) M

set_option maxRecDepth 100000 in
theorem lk_X10_isWrong (l : Launch) (w : zWD) (u1 : Int32) (u2 : Int32) (ho : zKd w 74 = (10, 61)) : zMt l w yX10_isWrong cX10_isWrong 7 (some .boolean) rm_X10_isWrong 2 [.ref (zA w 74), .int u1, .int u2] (fun M => f_X10_isWrong u1 u2 M) := by
  refine zMt.of (by decide) [some (.ref (zA w 74)), some (.int u1), some (.int u2), none, none, none, none] rfl (zle rfl) (by intro v hv; simp only [List.mem_cons, List.not_mem_nil, or_false] at hv; rcases hv with rfl | rfl | rfl <;> rfl) ?_
  intro p e s m args below meth c X M
  unfold f_X10_isWrong
  refine re_aload_n X dX10_isWrong_0 rfl rfl ?_
  refine re_getR X cl_10 (by decide) fl_RX10_58 ho rfl (zR_10_20 ho) dX10_isWrong_1 ?_
  refine re_iload_n X dX10_isWrong_4 rfl rfl ?_
  refine re_ck (fun hi1 => ?_)
  refine re_iald X (zQ_10_20 X.clo ho) hi1 (j := zIx u1) rfl dX10_isWrong_5 ?_
  refine re_istore_n (lv' := [some (.ref (zA w 74)), some (.int u1), some (.int u2), some (.int (M 97 (zIx u1))), none, none, none]) X dX10_isWrong_6 rfl (zlt rfl) rfl ?_
  refine re_aload_n X dX10_isWrong_7 rfl rfl ?_
  refine re_getR X cl_10 (by decide) fl_RX10_61 ho rfl (zR_10_21 ho) dX10_isWrong_8 ?_
  refine re_iload_n X dX10_isWrong_11 rfl rfl ?_
  refine re_ck (fun hi2 => ?_)
  refine re_iald X (zQ_10_21 X.clo ho) hi2 (j := zIx u1) rfl dX10_isWrong_12 ?_
  refine re_istore (lv' := [some (.ref (zA w 74)), some (.int u1), some (.int u2), some (.int (M 97 (zIx u1))), some (.int (M 98 (zIx u1))), none, none]) X dX10_isWrong_13 (zlt rfl) rfl ?_
  refine re_iload_n X dX10_isWrong_15 rfl rfl ?_
  refine re_if (fun e3 => ?_) (fun e3 => ?_)
  · refine re_sw_in (v := 4) (off := 40) (tgt := 56) X dX10_isWrong_16 e3 (by decide) (by decide) (by decide +kernel) (by decide) ?_
    refine re_iload_n X dX10_isWrong_56 rfl rfl ?_
    refine re_iconst (v := 1) X dX10_isWrong_57 (by decide) ?_
    refine re_sipush (v := 9999) X dX10_isWrong_58 (by decide) ?_
    refine re_callSz X (lk_X10_in l w (M 97 (zIx u1)) 1 9999) (ca_X10_in (by decide) (by decide)) ml_RX10_184 sm_X10_in rfl rfl rfl (zle rfl) zRo dX10_isWrong_61 (fun r4 M5 hr4 => ?_)
    refine re_if_ne (tgt := 71) X dX10_isWrong_64 (by decide) (fun _ => ?_) (fun _ => ?_)
    · refine re_iconst (v := 1) X dX10_isWrong_67 (by decide) ?_
      refine re_goto (tgt := 72) X dX10_isWrong_68 (by decide) ?_
      exact re_zret X (Or.inr rfl) dX10_isWrong_72
    · refine re_iconst (v := 0) X dX10_isWrong_71 (by decide) ?_
      exact re_zret X (Or.inl rfl) dX10_isWrong_72
  refine re_if (fun e6 => ?_) (fun e6 => ?_)
  · refine re_sw_in (v := 5) (off := 199) (tgt := 215) X dX10_isWrong_16 e6 (by decide) (by decide) (by decide +kernel) (by decide) ?_
    refine re_iconst (v := 0) X dX10_isWrong_215 (by decide) ?_
    exact re_zret X (Or.inl rfl) dX10_isWrong_216
  refine re_if (fun e7 => ?_) (fun e7 => ?_)
  · refine re_sw_in (v := 6) (off := 57) (tgt := 73) X dX10_isWrong_16 e7 (by decide) (by decide) (by decide +kernel) (by decide) ?_
    refine re_aload_n X dX10_isWrong_73 rfl rfl ?_
    refine re_getR X cl_10 (by decide) fl_RX10_55 ho rfl (zR_10_19 ho) dX10_isWrong_74 ?_
    refine re_iload_n X dX10_isWrong_77 rfl rfl ?_
    refine re_ck (fun hi8 => ?_)
    refine re_iald X (zQ_10_19 X.clo ho) hi8 (j := zIx u1) rfl dX10_isWrong_78 ?_
    refine re_iconst (v := 0) X dX10_isWrong_79 (by decide) ?_
    refine re_bipush (v := 7) X dX10_isWrong_80 (by decide) ?_
    refine re_callSz X (lk_X10_in l w (M 96 (zIx u1)) 0 7) (ca_X10_in (by decide) (by decide)) ml_RX10_184 sm_X10_in rfl rfl rfl (zle rfl) zRo dX10_isWrong_82 (fun r9 M10 hr9 => ?_)
    refine re_if_eq (tgt := 111) X dX10_isWrong_85 (by decide) (fun _ => ?_) (fun _ => ?_)
    · refine re_iconst (v := 1) X dX10_isWrong_111 (by decide) ?_
      refine re_goto (tgt := 116) X dX10_isWrong_112 (by decide) ?_
      exact re_zret X (Or.inr rfl) dX10_isWrong_116
    · refine re_iload_n X dX10_isWrong_88 rfl rfl ?_
      refine re_iconst (v := 0) X dX10_isWrong_89 (by decide) ?_
      refine re_sipush (v := 999) X dX10_isWrong_90 (by decide) ?_
      refine re_callSz X (lk_X10_in l w (M 97 (zIx u1)) 0 999) (ca_X10_in (by decide) (by decide)) ml_RX10_184 sm_X10_in rfl rfl rfl (zle rfl) zRo dX10_isWrong_93 (fun r11 M12 hr11 => ?_)
      refine re_if_eq (tgt := 111) X dX10_isWrong_96 (by decide) (fun _ => ?_) (fun _ => ?_)
      · refine re_iconst (v := 1) X dX10_isWrong_111 (by decide) ?_
        refine re_goto (tgt := 116) X dX10_isWrong_112 (by decide) ?_
        exact re_zret X (Or.inr rfl) dX10_isWrong_116
      · refine re_iload X dX10_isWrong_99 rfl ?_
        refine re_iconst (v := 0) X dX10_isWrong_101 (by decide) ?_
        refine re_sipush (v := 999) X dX10_isWrong_102 (by decide) ?_
        refine re_callSz X (lk_X10_in l w (M 98 (zIx u1)) 0 999) (ca_X10_in (by decide) (by decide)) ml_RX10_184 sm_X10_in rfl rfl rfl (zle rfl) zRo dX10_isWrong_105 (fun r13 M14 hr13 => ?_)
        refine re_if_ne (tgt := 115) X dX10_isWrong_108 (by decide) (fun _ => ?_) (fun _ => ?_)
        · refine re_iconst (v := 1) X dX10_isWrong_111 (by decide) ?_
          refine re_goto (tgt := 116) X dX10_isWrong_112 (by decide) ?_
          exact re_zret X (Or.inr rfl) dX10_isWrong_116
        · refine re_iconst (v := 0) X dX10_isWrong_115 (by decide) ?_
          exact re_zret X (Or.inl rfl) dX10_isWrong_116
  refine re_if (fun e15 => ?_) (fun e15 => ?_)
  · refine re_sw_in (v := 7) (off := 199) (tgt := 215) X dX10_isWrong_16 e15 (by decide) (by decide) (by decide +kernel) (by decide) ?_
    refine re_iconst (v := 0) X dX10_isWrong_215 (by decide) ?_
    exact re_zret X (Or.inl rfl) dX10_isWrong_216
  refine re_if (fun e16 => ?_) (fun e16 => ?_)
  · refine re_sw_in (v := 8) (off := 101) (tgt := 117) X dX10_isWrong_16 e16 (by decide) (by decide) (by decide +kernel) (by decide) ?_
    refine re_iload_n X dX10_isWrong_117 rfl rfl ?_
    refine re_iload X dX10_isWrong_118 rfl ?_
    refine re_iand X dX10_isWrong_120 ?_
    refine re_if_ne (tgt := 139) X dX10_isWrong_121 (by decide) (fun _ => ?_) (fun _ => ?_)
    · refine re_iload_n X dX10_isWrong_124 rfl rfl ?_
      refine re_bipush (v := 24) X dX10_isWrong_125 (by decide) ?_
      refine re_ishr X dX10_isWrong_127 ?_
      refine re_if_ne (tgt := 139) X dX10_isWrong_128 (by decide) (fun _ => ?_) (fun _ => ?_)
      · refine re_iload X dX10_isWrong_131 rfl ?_
        refine re_bipush (v := 24) X dX10_isWrong_133 (by decide) ?_
        refine re_ishr X dX10_isWrong_135 ?_
        refine re_if_eq (tgt := 143) X dX10_isWrong_136 (by decide) (fun _ => ?_) (fun _ => ?_)
        · refine re_iconst (v := 0) X dX10_isWrong_143 (by decide) ?_
          refine re_istore (lv' := [some (.ref (zA w 74)), some (.int u1), some (.int u2), some (.int (M 97 (zIx u1))), some (.int (M 98 (zIx u1))), some (.int 0), none]) X dX10_isWrong_144 (zlt rfl) rfl ?_
          refine re_iconst (v := 0) X dX10_isWrong_146 (by decide) ?_
          refine re_istore (lv' := [some (.ref (zA w 74)), some (.int u1), some (.int u2), some (.int (M 97 (zIx u1))), some (.int (M 98 (zIx u1))), some (.int 0), some (.int 0)]) X dX10_isWrong_147 (zlt rfl) rfl ?_
          exact re_sub (lb_X10_isWrong_149 X ho zFu (M 97 (zIx u1)) (M 98 (zIx u1)) 0 0 M) ⟨rfl, ⟨rfl, ⟨rfl, ⟨rfl, ⟨rfl, trivial⟩⟩⟩⟩⟩
        · refine re_iconst (v := 1) X dX10_isWrong_139 (by decide) ?_
          refine re_goto (tgt := 144) X dX10_isWrong_140 (by decide) ?_
          refine re_istore (lv' := [some (.ref (zA w 74)), some (.int u1), some (.int u2), some (.int (M 97 (zIx u1))), some (.int (M 98 (zIx u1))), some (.int 1), none]) X dX10_isWrong_144 (zlt rfl) rfl ?_
          refine re_iconst (v := 0) X dX10_isWrong_146 (by decide) ?_
          refine re_istore (lv' := [some (.ref (zA w 74)), some (.int u1), some (.int u2), some (.int (M 97 (zIx u1))), some (.int (M 98 (zIx u1))), some (.int 1), some (.int 0)]) X dX10_isWrong_147 (zlt rfl) rfl ?_
          exact re_sub (lb_X10_isWrong_149 X ho zFu (M 97 (zIx u1)) (M 98 (zIx u1)) 1 0 M) ⟨rfl, ⟨rfl, ⟨rfl, ⟨rfl, ⟨rfl, trivial⟩⟩⟩⟩⟩
      · refine re_iconst (v := 1) X dX10_isWrong_139 (by decide) ?_
        refine re_goto (tgt := 144) X dX10_isWrong_140 (by decide) ?_
        refine re_istore (lv' := [some (.ref (zA w 74)), some (.int u1), some (.int u2), some (.int (M 97 (zIx u1))), some (.int (M 98 (zIx u1))), some (.int 1), none]) X dX10_isWrong_144 (zlt rfl) rfl ?_
        refine re_iconst (v := 0) X dX10_isWrong_146 (by decide) ?_
        refine re_istore (lv' := [some (.ref (zA w 74)), some (.int u1), some (.int u2), some (.int (M 97 (zIx u1))), some (.int (M 98 (zIx u1))), some (.int 1), some (.int 0)]) X dX10_isWrong_147 (zlt rfl) rfl ?_
        exact re_sub (lb_X10_isWrong_149 X ho zFu (M 97 (zIx u1)) (M 98 (zIx u1)) 1 0 M) ⟨rfl, ⟨rfl, ⟨rfl, ⟨rfl, ⟨rfl, trivial⟩⟩⟩⟩⟩
    · refine re_iconst (v := 1) X dX10_isWrong_139 (by decide) ?_
      refine re_goto (tgt := 144) X dX10_isWrong_140 (by decide) ?_
      refine re_istore (lv' := [some (.ref (zA w 74)), some (.int u1), some (.int u2), some (.int (M 97 (zIx u1))), some (.int (M 98 (zIx u1))), some (.int 1), none]) X dX10_isWrong_144 (zlt rfl) rfl ?_
      refine re_iconst (v := 0) X dX10_isWrong_146 (by decide) ?_
      refine re_istore (lv' := [some (.ref (zA w 74)), some (.int u1), some (.int u2), some (.int (M 97 (zIx u1))), some (.int (M 98 (zIx u1))), some (.int 1), some (.int 0)]) X dX10_isWrong_147 (zlt rfl) rfl ?_
      exact re_sub (lb_X10_isWrong_149 X ho zFu (M 97 (zIx u1)) (M 98 (zIx u1)) 1 0 M) ⟨rfl, ⟨rfl, ⟨rfl, ⟨rfl, ⟨rfl, trivial⟩⟩⟩⟩⟩
  refine re_if (fun e19 => ?_) (fun e19 => ?_)
  · refine re_sw_in (v := 9) (off := 184) (tgt := 200) X dX10_isWrong_16 e19 (by decide) (by decide) (by decide +kernel) (by decide) ?_
    refine re_iload_n X dX10_isWrong_200 rfl rfl ?_
    refine re_iconst (v := 0) X dX10_isWrong_201 (by decide) ?_
    refine re_iconst (v := 1) X dX10_isWrong_202 (by decide) ?_
    refine re_callSz X (lk_X10_in l w (M 97 (zIx u1)) 0 1) (ca_X10_in (by decide) (by decide)) ml_RX10_184 sm_X10_in rfl rfl rfl (zle rfl) zRo dX10_isWrong_203 (fun r20 M21 hr20 => ?_)
    refine re_if_ne (tgt := 213) X dX10_isWrong_206 (by decide) (fun _ => ?_) (fun _ => ?_)
    · refine re_iconst (v := 1) X dX10_isWrong_209 (by decide) ?_
      refine re_goto (tgt := 214) X dX10_isWrong_210 (by decide) ?_
      exact re_zret X (Or.inr rfl) dX10_isWrong_214
    · refine re_iconst (v := 0) X dX10_isWrong_213 (by decide) ?_
      exact re_zret X (Or.inl rfl) dX10_isWrong_214
  refine re_sw_out (tgt := 215) X dX10_isWrong_16 (by
      have e3 := lv_neT (a := 4) e3 (by decide)
      have e6 := lv_neT (a := 5) e6 (by decide)
      have e7 := lv_neT (a := 6) e7 (by decide)
      have e15 := lv_neT (a := 7) e15 (by decide)
      have e16 := lv_neT (a := 8) e16 (by decide)
      have e19 := lv_neT (a := 9) e19 (by decide)
      omega) (by decide) ?_
  refine re_iconst (v := 0) X dX10_isWrong_215 (by decide) ?_
  exact re_zret X (Or.inl rfl) dX10_isWrong_216
theorem ca_X10_isWrong {R : Room} (h1 : rm_X10_isWrong.frames + 1 ≤ R.frames) (h2 : 8 + (7 + 11) + rm_X10_isWrong.locals ≤ R.locals) : zCa yX10_isWrong cX10_isWrong 7 (some .boolean) rm_X10_isWrong R 2 := ⟨cd_X10_isWrong, iz_RX10, ⟨by decide, by decide, by decide⟩, rfl, rfl, h1, h2⟩
/-! DebateHouseModel.refused -/
abbrev rm_X10_refused : Room := { frames := 0, cells := 0, slots := 0, locals := 0 }
def f_X10_refused_L4 (u1 : Int32)  : Nat → Int32 → zMem → zTr
  | 0, _, _ => none
  | n + 1, x2, M => if x2 < 0 then some (-1, M) else zCk (zIn (M 74 25) 2) (zCk (zIn x2 300) (if (M (100 + zIx (M 74 25)) (zIx x2)) = 6 then zCk (zIn x2 300) (if (M 94 (zIx x2)) = 6 then some (x2, M) else zCk (zIn x2 300) (if (M 94 (zIx x2)) = 5 then some (x2, M) else f_X10_refused_L4 u1 n (x2 + (-1)) M)) else f_X10_refused_L4 u1 n (x2 + (-1)) M))
def f_X10_refused (u1 : Int32) (M : zMem) : zTr := f_X10_refused_L4 u1 zFu (u1 - 1) M
set_option maxRecDepth 100000 in
theorem lb_X10_refused_4 {p : Program} {l : Launch} {e : Env} {s : State} {m : MethodId} {args : Array Value} {below : List Frame} {meth : Method} {c : Code} {w : zWD} {u1 : Int32} (X : zCx p s m args meth c w (zFree w) RX10 cX10_refused 3 (some .int)) (ho : zKd w 74 = (10, 61)) : ∀ (n : Nat) (x2 : Int32) (M : zMem), zRm p l e rm_X10_refused s m args below meth c w 1 4 [some (.ref (zA w 74)), none, some (.int x2)] [] M (f_X10_refused_L4 u1 n x2 M) := by
  intro n
  induction n with
  | zero => intro x2 M; exact re_none
  | succ n ih =>
    intro x2 M
    rw [f_X10_refused_L4]
    refine re_iload_n X dX10_refused_4 rfl rfl ?_
    refine re_if_lt (tgt := 53) X dX10_refused_5 (by decide) (fun _ => ?_) (fun _ => ?_)
    · refine re_iconst (v := -1) X dX10_refused_53 (by decide) ?_
      exact re_iret X dX10_refused_54
    · refine re_aload_n X dX10_refused_8 rfl rfl ?_
      refine re_getR X cl_10 (by decide) fl_RX10_64 ho rfl (zR_10_22 ho) dX10_refused_9 ?_
      refine re_aload_n X dX10_refused_12 rfl rfl ?_
      refine re_getI X cl_10 (by decide) fl_RX10_265 ho rfl dX10_refused_13 ?_
      refine re_ck (fun hi1 => ?_)
      refine re_aald X (zQ_10_22 X.clo ho) (by decide) hi1 rfl (rw_99 (zIx_lt hi1)) dX10_refused_16 ?_
      refine re_iload_n X dX10_refused_17 rfl rfl ?_
      refine re_ck (fun hi2 => ?_)
      refine re_iald X (rk_99 X.clo (zQ_10_22 X.clo ho) (zIx_lt hi1)) hi2 (j := zIx x2) rfl dX10_refused_18 ?_
      refine re_bipush (v := 6) X dX10_refused_19 (by decide) ?_
      refine re_icmp_ne (tgt := 47) X dX10_refused_21 (by decide) (fun _ => ?_) (fun _ => ?_)
      · refine re_aload_n X dX10_refused_24 rfl rfl ?_
        refine re_getR X cl_10 (by decide) fl_RX10_49 ho rfl (zR_10_17 ho) dX10_refused_25 ?_
        refine re_iload_n X dX10_refused_28 rfl rfl ?_
        refine re_ck (fun hi3 => ?_)
        refine re_iald X (zQ_10_17 X.clo ho) hi3 (j := zIx x2) rfl dX10_refused_29 ?_
        refine re_bipush (v := 6) X dX10_refused_30 (by decide) ?_
        refine re_icmp_eq (tgt := 45) X dX10_refused_32 (by decide) (fun _ => ?_) (fun _ => ?_)
        · refine re_iload_n X dX10_refused_45 rfl rfl ?_
          exact re_iret X dX10_refused_46
        · refine re_aload_n X dX10_refused_35 rfl rfl ?_
          refine re_getR X cl_10 (by decide) fl_RX10_49 ho rfl (zR_10_17 ho) dX10_refused_36 ?_
          refine re_iload_n X dX10_refused_39 rfl rfl ?_
          refine re_ck (fun hi4 => ?_)
          refine re_iald X (zQ_10_17 X.clo ho) hi4 (j := zIx x2) rfl dX10_refused_40 ?_
          refine re_iconst (v := 5) X dX10_refused_41 (by decide) ?_
          refine re_icmp_ne (tgt := 47) X dX10_refused_42 (by decide) (fun _ => ?_) (fun _ => ?_)
          · refine re_iload_n X dX10_refused_45 rfl rfl ?_
            exact re_iret X dX10_refused_46
          · refine re_iinc (v := -1) (lv' := [some (.ref (zA w 74)), none, some (.int (x2 + (-1)))]) X dX10_refused_47 rfl (by decide) rfl ?_
            refine re_goto (tgt := 4) X dX10_refused_50 (by decide) ?_
            exact ih (x2 + (-1)) M
      · refine re_iinc (v := -1) (lv' := [some (.ref (zA w 74)), none, some (.int (x2 + (-1)))]) X dX10_refused_47 rfl (by decide) rfl ?_
        refine re_goto (tgt := 4) X dX10_refused_50 (by decide) ?_
        exact ih (x2 + (-1)) M

set_option maxRecDepth 100000 in
theorem lk_X10_refused (l : Launch) (w : zWD) (u1 : Int32) (ho : zKd w 74 = (10, 61)) : zMt l w yX10_refused cX10_refused 3 (some .int) rm_X10_refused 1 [.ref (zA w 74), .int u1] (fun M => f_X10_refused u1 M) := by
  refine zMt.of (by decide) [some (.ref (zA w 74)), some (.int u1), none] rfl (zle rfl) (by intro v hv; simp only [List.mem_cons, List.not_mem_nil, or_false] at hv; rcases hv with rfl | rfl <;> rfl) ?_
  intro p e s m args below meth c X M
  unfold f_X10_refused
  refine re_iload_n X dX10_refused_0 rfl rfl ?_
  refine re_iconst (v := 1) X dX10_refused_1 (by decide) ?_
  refine re_isub X dX10_refused_2 ?_
  refine re_istore_n (lv' := [some (.ref (zA w 74)), some (.int u1), some (.int (u1 - 1))]) X dX10_refused_3 rfl (zlt rfl) rfl ?_
  exact re_sub (lb_X10_refused_4 X ho zFu (u1 - 1) M) ⟨rfl, ⟨rfl, trivial⟩⟩
theorem ca_X10_refused {R : Room} (h1 : rm_X10_refused.frames + 1 ≤ R.frames) (h2 : 8 + (3 + 11) + rm_X10_refused.locals ≤ R.locals) : zCa yX10_refused cX10_refused 3 (some .int) rm_X10_refused R 1 := ⟨cd_X10_refused, iz_RX10, ⟨by decide, by decide, by decide⟩, rfl, rfl, h1, h2⟩
/-! DebateHouseModel.placeOf -/
abbrev rm_X10_placeOf : Room := { frames := 0, cells := 0, slots := 0, locals := 0 }
def f_X10_placeOf_L2 (u1 : Int32)  : Nat → Int32 → zMem → zTr
  | 0, _, _ => none
  | n + 1, x2, M => if (M 74 48) = 0 then some (-1, M) else if (M 74 49) ≤ x2 then some (-1, M) else zCk (zIn x2 60) (if (M 119 (zIx x2)) = u1 then some (x2, M) else f_X10_placeOf_L2 u1 n (x2 + 1) M)
def f_X10_placeOf (u1 : Int32) (M : zMem) : zTr := f_X10_placeOf_L2 u1 zFu 0 M
set_option maxRecDepth 100000 in
theorem lb_X10_placeOf_2 {p : Program} {l : Launch} {e : Env} {s : State} {m : MethodId} {args : Array Value} {below : List Frame} {meth : Method} {c : Code} {w : zWD} {u1 : Int32} (X : zCx p s m args meth c w (zFree w) RX10 cX10_placeOf 3 (some .int)) (ho : zKd w 74 = (10, 61)) : ∀ (n : Nat) (x2 : Int32) (M : zMem), zRm p l e rm_X10_placeOf s m args below meth c w 1 2 [some (.ref (zA w 74)), some (.int u1), some (.int x2)] [] M (f_X10_placeOf_L2 u1 n x2 M) := by
  intro n
  induction n with
  | zero => intro x2 M; exact re_none
  | succ n ih =>
    intro x2 M
    rw [f_X10_placeOf_L2]
    refine re_aload_n X dX10_placeOf_2 rfl rfl ?_
    refine re_getI X cl_10 (by decide) fl_RX10_296 ho rfl dX10_placeOf_3 ?_
    refine re_if_eq (tgt := 35) X dX10_placeOf_6 (by decide) (fun _ => ?_) (fun _ => ?_)
    · refine re_iconst (v := -1) X dX10_placeOf_35 (by decide) ?_
      exact re_iret X dX10_placeOf_36
    · refine re_iload_n X dX10_placeOf_9 rfl rfl ?_
      refine re_aload_n X dX10_placeOf_10 rfl rfl ?_
      refine re_getI X cl_10 (by decide) fl_RX10_299 ho rfl dX10_placeOf_11 ?_
      refine re_icmp_ge (tgt := 35) X dX10_placeOf_14 (by decide) (fun _ => ?_) (fun _ => ?_)
      · refine re_iconst (v := -1) X dX10_placeOf_35 (by decide) ?_
        exact re_iret X dX10_placeOf_36
      · refine re_aload_n X dX10_placeOf_17 rfl rfl ?_
        refine re_getR X cl_10 (by decide) fl_RX10_110 ho rfl (zR_10_51 ho) dX10_placeOf_18 ?_
        refine re_iload_n X dX10_placeOf_21 rfl rfl ?_
        refine re_ck (fun hi1 => ?_)
        refine re_iald X (zQ_10_51 X.clo ho) hi1 (j := zIx x2) rfl dX10_placeOf_22 ?_
        refine re_iload_n X dX10_placeOf_23 rfl rfl ?_
        refine re_icmp_ne (tgt := 29) X dX10_placeOf_24 (by decide) (fun _ => ?_) (fun _ => ?_)
        · refine re_iload_n X dX10_placeOf_27 rfl rfl ?_
          exact re_iret X dX10_placeOf_28
        · refine re_iinc (v := 1) (lv' := [some (.ref (zA w 74)), some (.int u1), some (.int (x2 + 1))]) X dX10_placeOf_29 rfl (by decide) rfl ?_
          refine re_goto (tgt := 2) X dX10_placeOf_32 (by decide) ?_
          exact ih (x2 + 1) M

set_option maxRecDepth 100000 in
theorem lk_X10_placeOf (l : Launch) (w : zWD) (u1 : Int32) (ho : zKd w 74 = (10, 61)) : zMt l w yX10_placeOf cX10_placeOf 3 (some .int) rm_X10_placeOf 1 [.ref (zA w 74), .int u1] (fun M => f_X10_placeOf u1 M) := by
  refine zMt.of (by decide) [some (.ref (zA w 74)), some (.int u1), none] rfl (zle rfl) (by intro v hv; simp only [List.mem_cons, List.not_mem_nil, or_false] at hv; rcases hv with rfl | rfl <;> rfl) ?_
  intro p e s m args below meth c X M
  unfold f_X10_placeOf
  refine re_iconst (v := 0) X dX10_placeOf_0 (by decide) ?_
  refine re_istore_n (lv' := [some (.ref (zA w 74)), some (.int u1), some (.int 0)]) X dX10_placeOf_1 rfl (zlt rfl) rfl ?_
  exact lb_X10_placeOf_2 X ho zFu 0 M
theorem ca_X10_placeOf {R : Room} (h1 : rm_X10_placeOf.frames + 1 ≤ R.frames) (h2 : 8 + (3 + 11) + rm_X10_placeOf.locals ≤ R.locals) : zCa yX10_placeOf cX10_placeOf 3 (some .int) rm_X10_placeOf R 1 := ⟨cd_X10_placeOf, iz_RX10, ⟨by decide, by decide, by decide⟩, rfl, rfl, h1, h2⟩
/-! DebateHouseModel.mayAmend -/
abbrev rm_X10_mayAmend : Room := { frames := 1, cells := 0, slots := 0, locals := 22 }
def f_X10_mayAmend (u1 : Int32) (M : zMem) : zTr := zBd (f_X10_placeOf (u1 / 4) M) (fun r1 M2 => if r1 = (-1) then some (0, M2) else if (u1 - u1 / 4 * 4) = 3 then (if (M2 74 49) ≤ (r1 + 1) then some (0, M2) else some (1, M2)) else if (u1 - u1 / 4 * 4) = 0 then (if 40 ≤ (M2 74 49) then some (0, M2) else some (1, M2)) else some (1, M2))
set_option maxRecDepth 100000 in
theorem lk_X10_mayAmend (l : Launch) (w : zWD) (u1 : Int32) (ho : zKd w 74 = (10, 61)) : zMt l w yX10_mayAmend cX10_mayAmend 3 (some .boolean) rm_X10_mayAmend 2 [.ref (zA w 74), .int u1] (fun M => f_X10_mayAmend u1 M) := by
  refine zMt.of (by decide) [some (.ref (zA w 74)), some (.int u1), none] rfl (zle rfl) (by intro v hv; simp only [List.mem_cons, List.not_mem_nil, or_false] at hv; rcases hv with rfl | rfl <;> rfl) ?_
  intro p e s m args below meth c X M
  unfold f_X10_mayAmend
  refine re_aload_n X dX10_mayAmend_0 rfl rfl ?_
  refine re_iload_n X dX10_mayAmend_1 rfl rfl ?_
  refine re_iconst (v := 4) X dX10_mayAmend_2 (by decide) ?_
  refine re_idivK X (by decide) dX10_mayAmend_3 ?_
  refine re_callVi X (lk_X10_placeOf l w (u1 / 4) ho) (ca_X10_placeOf (by decide) (by decide)) ml_RX10_333 im_X10_placeOf se_X10_placeOf cl_10 ho rfl rfl rfl (zle rfl) zRo dX10_mayAmend_4 (fun r1 M2 hr1 => ?_)
  refine re_istore_n (lv' := [some (.ref (zA w 74)), some (.int u1), some (.int r1)]) X dX10_mayAmend_7 rfl (zlt rfl) rfl ?_
  refine re_iload_n X dX10_mayAmend_8 rfl rfl ?_
  refine re_iconst (v := -1) X dX10_mayAmend_9 (by decide) ?_
  refine re_icmp_ne (tgt := 15) X dX10_mayAmend_10 (by decide) (fun _ => ?_) (fun _ => ?_)
  · refine re_iconst (v := 0) X dX10_mayAmend_13 (by decide) ?_
    exact re_zret X (Or.inl rfl) dX10_mayAmend_14
  · refine re_iload_n X dX10_mayAmend_15 rfl rfl ?_
    refine re_iconst (v := 4) X dX10_mayAmend_16 (by decide) ?_
    refine re_iremK X (by decide) dX10_mayAmend_17 ?_
    refine re_iconst (v := 3) X dX10_mayAmend_18 (by decide) ?_
    refine re_icmp_ne (tgt := 40) X dX10_mayAmend_19 (by decide) (fun _ => ?_) (fun _ => ?_)
    · refine re_iload_n X dX10_mayAmend_22 rfl rfl ?_
      refine re_iconst (v := 1) X dX10_mayAmend_23 (by decide) ?_
      refine re_iadd X dX10_mayAmend_24 ?_
      refine re_aload_n X dX10_mayAmend_25 rfl rfl ?_
      refine re_getI X cl_10 (by decide) fl_RX10_299 ho rfl dX10_mayAmend_26 ?_
      refine re_icmp_ge (tgt := 36) X dX10_mayAmend_29 (by decide) (fun _ => ?_) (fun _ => ?_)
      · refine re_iconst (v := 0) X dX10_mayAmend_36 (by decide) ?_
        refine re_goto (tgt := 60) X dX10_mayAmend_37 (by decide) ?_
        exact re_zret X (Or.inl rfl) dX10_mayAmend_60
      · refine re_iconst (v := 1) X dX10_mayAmend_32 (by decide) ?_
        refine re_goto (tgt := 60) X dX10_mayAmend_33 (by decide) ?_
        exact re_zret X (Or.inr rfl) dX10_mayAmend_60
    · refine re_iload_n X dX10_mayAmend_40 rfl rfl ?_
      refine re_iconst (v := 4) X dX10_mayAmend_41 (by decide) ?_
      refine re_iremK X (by decide) dX10_mayAmend_42 ?_
      refine re_if_ne (tgt := 55) X dX10_mayAmend_43 (by decide) (fun _ => ?_) (fun _ => ?_)
      · refine re_aload_n X dX10_mayAmend_46 rfl rfl ?_
        refine re_getI X cl_10 (by decide) fl_RX10_299 ho rfl dX10_mayAmend_47 ?_
        refine re_bipush (v := 40) X dX10_mayAmend_50 (by decide) ?_
        refine re_icmp_ge (tgt := 59) X dX10_mayAmend_52 (by decide) (fun _ => ?_) (fun _ => ?_)
        · refine re_iconst (v := 0) X dX10_mayAmend_59 (by decide) ?_
          exact re_zret X (Or.inl rfl) dX10_mayAmend_60
        · refine re_iconst (v := 1) X dX10_mayAmend_55 (by decide) ?_
          refine re_goto (tgt := 60) X dX10_mayAmend_56 (by decide) ?_
          exact re_zret X (Or.inr rfl) dX10_mayAmend_60
      · refine re_iconst (v := 1) X dX10_mayAmend_55 (by decide) ?_
        refine re_goto (tgt := 60) X dX10_mayAmend_56 (by decide) ?_
        exact re_zret X (Or.inr rfl) dX10_mayAmend_60
theorem ca_X10_mayAmend {R : Room} (h1 : rm_X10_mayAmend.frames + 1 ≤ R.frames) (h2 : 8 + (3 + 11) + rm_X10_mayAmend.locals ≤ R.locals) : zCa yX10_mayAmend cX10_mayAmend 3 (some .boolean) rm_X10_mayAmend R 1 := ⟨cd_X10_mayAmend, iz_RX10, ⟨by decide, by decide, by decide⟩, rfl, rfl, h1, h2⟩
/-! DebateHouseModel.mayMove -/
abbrev rm_X10_mayMove : Room := { frames := 2, cells := 0, slots := 0, locals := 44 }
def f_X10_mayMove_B75 (u1 : Int32) (u2 : Int32)  (M : zMem) : zTr := zBd (f_X10_refused u1 M) (fun r4 M5 => if r4 = (-1) then some (0, M5) else zCk (zIn r4 300) (if (M5 118 (zIx r4)) = 0 then some (1, M5) else some (0, M5)))
def f_X10_mayMove_L46 (u1 : Int32) (u2 : Int32)  : Nat → Int32 → zMem → zTr
  | 0, _, _ => none
  | n + 1, x5, M => if (M 74 39) ≤ x5 then f_X10_mayMove_B75 u1 u2 M else zCk (zIn x5 12) (if (M 111 (zIx x5)) = 7 then some (0, M) else f_X10_mayMove_L46 u1 u2 n (x5 + 1) M)
def f_X10_mayMove_B158 (u1 : Int32) (u2 : Int32)  (x3 : Int32) (x4 : Int32) (M : zMem) : zTr := if x3 = 0 then (if (M 74 48) = 0 then zBd (f_X10_in x4 1 20 M) (fun r9 M10 => if r9 = 0 then some (0, M10) else some (1, M10)) else some (0, M)) else if x3 = 1 then (if (M 74 48) = 0 then some (0, M) else zBd (f_X10_mayAmend x4 M) (fun r12 M13 => if r12 = 0 then some (0, M13) else some (1, M13))) else if x3 = 2 then (if (M 74 48) = 0 then some (0, M) else if (M 74 39) ≤ 0 then some (0, M) else some (1, M)) else if x3 = 3 then (if x4 ≤ 0 then some (0, M) else some (1, M)) else if x3 = 4 then zCk ((M 74 48) = 0 ∨ (M 74 48) = 1) (some (M 74 48, M)) else if x3 = 5 then (if x4 ≤ 0 then some (0, M) else some (1, M)) else some (1, M)
def f_X10_mayMove_B140 (u1 : Int32) (u2 : Int32)  (x3 : Int32) (x4 : Int32) (M : zMem) : zTr := if (M 74 32) = (-1) then f_X10_mayMove_B158 u1 u2 x3 x4 M else if (M 74 32) = u2 then f_X10_mayMove_B158 u1 u2 x3 x4 M else some (0, M)
def f_X10_mayMove (u1 : Int32) (u2 : Int32) (M : zMem) : zTr := zCk (zIn u1 300) (zCk (zIn u1 300) (zCk (zIn (M 96 (zIx u1)) 8) (if (M 78 (zIx (M 96 (zIx u1)))) = 0 then some (0, M) else if (M 74 39) < 8 then (if (M 96 (zIx u1)) = 7 then f_X10_mayMove_L46 u1 u2 zFu 0 M else if (M 74 39) ≤ 0 then f_X10_mayMove_B140 u1 u2 (M 96 (zIx u1)) (M 97 (zIx u1)) M else zCk (zIn (M 96 (zIx u1)) 8) (zCk (zIn ((M 74 39) - 1) 12) (zCk (zIn (M 111 (zIx ((M 74 39) - 1))) 8) (if (M 78 (zIx (M 96 (zIx u1)))) ≤ (M 78 (zIx (M 111 (zIx ((M 74 39) - 1))))) then some (0, M) else f_X10_mayMove_B140 u1 u2 (M 96 (zIx u1)) (M 97 (zIx u1)) M)))) else some (0, M))))
set_option maxRecDepth 100000 in
theorem lb_X10_mayMove_75 {p : Program} {l : Launch} {e : Env} {s : State} {m : MethodId} {args : Array Value} {below : List Frame} {meth : Method} {c : Code} {w : zWD} {u1 : Int32} {u2 : Int32} (X : zCx p s m args meth c w (zFree w) RX10 cX10_mayMove 6 (some .boolean)) (ho : zKd w 74 = (10, 61)) : ∀ (M : zMem), zRm p l e rm_X10_mayMove s m args below meth c w 2 75 [some (.ref (zA w 74)), some (.int u1), none, none, none, none] [] M (f_X10_mayMove_B75 u1 u2 M) := by
  intro M
  unfold f_X10_mayMove_B75
  refine re_aload_n X dX10_mayMove_75 rfl rfl ?_
  refine re_iload_n X dX10_mayMove_76 rfl rfl ?_
  refine re_callVi X (lk_X10_refused l w u1 ho) (ca_X10_refused (by decide) (by decide)) ml_RX10_326 im_X10_refused se_X10_refused cl_10 ho rfl rfl rfl (zle rfl) zRo dX10_mayMove_77 (fun r4 M5 hr4 => ?_)
  refine re_istore (lv' := [some (.ref (zA w 74)), some (.int u1), none, none, none, some (.int r4)]) X dX10_mayMove_80 (zlt rfl) rfl ?_
  refine re_iload X dX10_mayMove_82 rfl ?_
  refine re_iconst (v := -1) X dX10_mayMove_84 (by decide) ?_
  refine re_icmp_eq (tgt := 102) X dX10_mayMove_85 (by decide) (fun _ => ?_) (fun _ => ?_)
  · refine re_iconst (v := 0) X dX10_mayMove_102 (by decide) ?_
    exact re_zret X (Or.inl rfl) dX10_mayMove_103
  · refine re_aload_n X dX10_mayMove_88 rfl rfl ?_
    refine re_getR X cl_10 (by decide) fl_RX10_107 ho rfl (zR_10_47 ho) dX10_mayMove_89 ?_
    refine re_iload X dX10_mayMove_92 rfl ?_
    refine re_ck (fun hi6 => ?_)
    refine re_zald X (zQ_10_47 X.clo ho) hi6 (j := zIx r4) rfl dX10_mayMove_94 ?_
    refine re_if_ne (tgt := 102) X dX10_mayMove_95 (by decide) (fun _ => ?_) (fun _ => ?_)
    · refine re_iconst (v := 1) X dX10_mayMove_98 (by decide) ?_
      refine re_goto (tgt := 103) X dX10_mayMove_99 (by decide) ?_
      exact re_zret X (Or.inr rfl) dX10_mayMove_103
    · refine re_iconst (v := 0) X dX10_mayMove_102 (by decide) ?_
      exact re_zret X (Or.inl rfl) dX10_mayMove_103

set_option maxRecDepth 100000 in
theorem lb_X10_mayMove_46 {p : Program} {l : Launch} {e : Env} {s : State} {m : MethodId} {args : Array Value} {below : List Frame} {meth : Method} {c : Code} {w : zWD} {u1 : Int32} {u2 : Int32} (X : zCx p s m args meth c w (zFree w) RX10 cX10_mayMove 6 (some .boolean)) (ho : zKd w 74 = (10, 61)) : ∀ (n : Nat) (x5 : Int32) (M : zMem), zRm p l e rm_X10_mayMove s m args below meth c w 2 46 [some (.ref (zA w 74)), some (.int u1), none, none, none, some (.int x5)] [] M (f_X10_mayMove_L46 u1 u2 n x5 M) := by
  intro n
  induction n with
  | zero => intro x5 M; exact re_none
  | succ n ih =>
    intro x5 M
    rw [f_X10_mayMove_L46]
    refine re_iload X dX10_mayMove_46 rfl ?_
    refine re_aload_n X dX10_mayMove_48 rfl rfl ?_
    refine re_getI X cl_10 (by decide) fl_RX10_293 ho rfl dX10_mayMove_49 ?_
    refine re_icmp_ge (tgt := 75) X dX10_mayMove_52 (by decide) (fun _ => ?_) (fun _ => ?_)
    · exact re_sub (lb_X10_mayMove_75 X ho M) ⟨rfl, ⟨rfl, trivial⟩⟩
    · refine re_aload_n X dX10_mayMove_55 rfl rfl ?_
      refine re_getR X cl_10 (by decide) fl_RX10_86 ho rfl (zR_10_40 ho) dX10_mayMove_56 ?_
      refine re_iload X dX10_mayMove_59 rfl ?_
      refine re_ck (fun hi7 => ?_)
      refine re_iald X (zQ_10_40 X.clo ho) hi7 (j := zIx x5) rfl dX10_mayMove_61 ?_
      refine re_bipush (v := 7) X dX10_mayMove_62 (by decide) ?_
      refine re_icmp_ne (tgt := 69) X dX10_mayMove_64 (by decide) (fun _ => ?_) (fun _ => ?_)
      · refine re_iconst (v := 0) X dX10_mayMove_67 (by decide) ?_
        exact re_zret X (Or.inl rfl) dX10_mayMove_68
      · refine re_iinc (v := 1) (lv' := [some (.ref (zA w 74)), some (.int u1), none, none, none, some (.int (x5 + 1))]) X dX10_mayMove_69 rfl (by decide) rfl ?_
        refine re_goto (tgt := 46) X dX10_mayMove_72 (by decide) ?_
        exact ih (x5 + 1) M

set_option maxRecDepth 100000 in
theorem lb_X10_mayMove_158 {p : Program} {l : Launch} {e : Env} {s : State} {m : MethodId} {args : Array Value} {below : List Frame} {meth : Method} {c : Code} {w : zWD} {u1 : Int32} {u2 : Int32} (X : zCx p s m args meth c w (zFree w) RX10 cX10_mayMove 6 (some .boolean)) (ho : zKd w 74 = (10, 61)) : ∀ (x3 : Int32) (x4 : Int32) (M : zMem), zRm p l e rm_X10_mayMove s m args below meth c w 2 158 [some (.ref (zA w 74)), none, none, some (.int x3), some (.int x4), none] [] M (f_X10_mayMove_B158 u1 u2 x3 x4 M) := by
  intro x3 x4 M
  unfold f_X10_mayMove_B158
  refine re_iload_n X dX10_mayMove_158 rfl rfl ?_
  refine re_if (fun e8 => ?_) (fun e8 => ?_)
  · refine re_sw_in (v := 0) (off := 37) (tgt := 196) X dX10_mayMove_159 e8 (by decide) (by decide) (by decide +kernel) (by decide) ?_
    refine re_aload_n X dX10_mayMove_196 rfl rfl ?_
    refine re_getI X cl_10 (by decide) fl_RX10_296 ho rfl dX10_mayMove_197 ?_
    refine re_if_ne (tgt := 218) X dX10_mayMove_200 (by decide) (fun _ => ?_) (fun _ => ?_)
    · refine re_iload X dX10_mayMove_203 rfl ?_
      refine re_iconst (v := 1) X dX10_mayMove_205 (by decide) ?_
      refine re_bipush (v := 20) X dX10_mayMove_206 (by decide) ?_
      refine re_callSz X (lk_X10_in l w x4 1 20) (ca_X10_in (by decide) (by decide)) ml_RX10_184 sm_X10_in rfl rfl rfl (zle rfl) zRo dX10_mayMove_208 (fun r9 M10 hr9 => ?_)
      refine re_if_eq (tgt := 218) X dX10_mayMove_211 (by decide) (fun _ => ?_) (fun _ => ?_)
      · refine re_iconst (v := 0) X dX10_mayMove_218 (by decide) ?_
        exact re_zret X (Or.inl rfl) dX10_mayMove_219
      · refine re_iconst (v := 1) X dX10_mayMove_214 (by decide) ?_
        refine re_goto (tgt := 219) X dX10_mayMove_215 (by decide) ?_
        exact re_zret X (Or.inr rfl) dX10_mayMove_219
    · refine re_iconst (v := 0) X dX10_mayMove_218 (by decide) ?_
      exact re_zret X (Or.inl rfl) dX10_mayMove_219
  refine re_if (fun e11 => ?_) (fun e11 => ?_)
  · refine re_sw_in (v := 1) (off := 61) (tgt := 220) X dX10_mayMove_159 e11 (by decide) (by decide) (by decide +kernel) (by decide) ?_
    refine re_aload_n X dX10_mayMove_220 rfl rfl ?_
    refine re_getI X cl_10 (by decide) fl_RX10_296 ho rfl dX10_mayMove_221 ?_
    refine re_if_eq (tgt := 240) X dX10_mayMove_224 (by decide) (fun _ => ?_) (fun _ => ?_)
    · refine re_iconst (v := 0) X dX10_mayMove_240 (by decide) ?_
      exact re_zret X (Or.inl rfl) dX10_mayMove_241
    · refine re_aload_n X dX10_mayMove_227 rfl rfl ?_
      refine re_iload X dX10_mayMove_228 rfl ?_
      refine re_callVz X (lk_X10_mayAmend l w x4 ho) (ca_X10_mayAmend (by decide) (by decide)) ml_RX10_330 im_X10_mayAmend se_X10_mayAmend cl_10 ho rfl rfl rfl (zle rfl) zRo dX10_mayMove_230 (fun r12 M13 hr12 => ?_)
      refine re_if_eq (tgt := 240) X dX10_mayMove_233 (by decide) (fun _ => ?_) (fun _ => ?_)
      · refine re_iconst (v := 0) X dX10_mayMove_240 (by decide) ?_
        exact re_zret X (Or.inl rfl) dX10_mayMove_241
      · refine re_iconst (v := 1) X dX10_mayMove_236 (by decide) ?_
        refine re_goto (tgt := 241) X dX10_mayMove_237 (by decide) ?_
        exact re_zret X (Or.inr rfl) dX10_mayMove_241
  refine re_if (fun e14 => ?_) (fun e14 => ?_)
  · refine re_sw_in (v := 2) (off := 83) (tgt := 242) X dX10_mayMove_159 e14 (by decide) (by decide) (by decide +kernel) (by decide) ?_
    refine re_aload_n X dX10_mayMove_242 rfl rfl ?_
    refine re_getI X cl_10 (by decide) fl_RX10_296 ho rfl dX10_mayMove_243 ?_
    refine re_if_eq (tgt := 260) X dX10_mayMove_246 (by decide) (fun _ => ?_) (fun _ => ?_)
    · refine re_iconst (v := 0) X dX10_mayMove_260 (by decide) ?_
      exact re_zret X (Or.inl rfl) dX10_mayMove_261
    · refine re_aload_n X dX10_mayMove_249 rfl rfl ?_
      refine re_getI X cl_10 (by decide) fl_RX10_293 ho rfl dX10_mayMove_250 ?_
      refine re_if_le (tgt := 260) X dX10_mayMove_253 (by decide) (fun _ => ?_) (fun _ => ?_)
      · refine re_iconst (v := 0) X dX10_mayMove_260 (by decide) ?_
        exact re_zret X (Or.inl rfl) dX10_mayMove_261
      · refine re_iconst (v := 1) X dX10_mayMove_256 (by decide) ?_
        refine re_goto (tgt := 261) X dX10_mayMove_257 (by decide) ?_
        exact re_zret X (Or.inr rfl) dX10_mayMove_261
  refine re_if (fun e15 => ?_) (fun e15 => ?_)
  · refine re_sw_in (v := 3) (off := 108) (tgt := 267) X dX10_mayMove_159 e15 (by decide) (by decide) (by decide +kernel) (by decide) ?_
    refine re_iload X dX10_mayMove_267 rfl ?_
    refine re_if_le (tgt := 276) X dX10_mayMove_269 (by decide) (fun _ => ?_) (fun _ => ?_)
    · refine re_iconst (v := 0) X dX10_mayMove_276 (by decide) ?_
      exact re_zret X (Or.inl rfl) dX10_mayMove_277
    · refine re_iconst (v := 1) X dX10_mayMove_272 (by decide) ?_
      refine re_goto (tgt := 277) X dX10_mayMove_273 (by decide) ?_
      exact re_zret X (Or.inr rfl) dX10_mayMove_277
  refine re_if (fun e16 => ?_) (fun e16 => ?_)
  · refine re_sw_in (v := 4) (off := 103) (tgt := 262) X dX10_mayMove_159 e16 (by decide) (by decide) (by decide +kernel) (by decide) ?_
    refine re_aload_n X dX10_mayMove_262 rfl rfl ?_
    refine re_getI X cl_10 (by decide) fl_RX10_296 ho rfl dX10_mayMove_263 ?_
    refine re_ck (fun hz17 => ?_)
    exact re_zret X hz17 dX10_mayMove_266
  refine re_if (fun e18 => ?_) (fun e18 => ?_)
  · refine re_sw_in (v := 5) (off := 108) (tgt := 267) X dX10_mayMove_159 e18 (by decide) (by decide) (by decide +kernel) (by decide) ?_
    refine re_iload X dX10_mayMove_267 rfl ?_
    refine re_if_le (tgt := 276) X dX10_mayMove_269 (by decide) (fun _ => ?_) (fun _ => ?_)
    · refine re_iconst (v := 0) X dX10_mayMove_276 (by decide) ?_
      exact re_zret X (Or.inl rfl) dX10_mayMove_277
    · refine re_iconst (v := 1) X dX10_mayMove_272 (by decide) ?_
      refine re_goto (tgt := 277) X dX10_mayMove_273 (by decide) ?_
      exact re_zret X (Or.inr rfl) dX10_mayMove_277
  refine re_sw_out (tgt := 278) X dX10_mayMove_159 (by
      have e8 := lv_neT (a := 0) e8 (by decide)
      have e11 := lv_neT (a := 1) e11 (by decide)
      have e14 := lv_neT (a := 2) e14 (by decide)
      have e15 := lv_neT (a := 3) e15 (by decide)
      have e16 := lv_neT (a := 4) e16 (by decide)
      have e18 := lv_neT (a := 5) e18 (by decide)
      omega) (by decide) ?_
  refine re_iconst (v := 1) X dX10_mayMove_278 (by decide) ?_
  exact re_zret X (Or.inr rfl) dX10_mayMove_279

set_option maxRecDepth 100000 in
theorem lb_X10_mayMove_140 {p : Program} {l : Launch} {e : Env} {s : State} {m : MethodId} {args : Array Value} {below : List Frame} {meth : Method} {c : Code} {w : zWD} {u1 : Int32} {u2 : Int32} (X : zCx p s m args meth c w (zFree w) RX10 cX10_mayMove 6 (some .boolean)) (ho : zKd w 74 = (10, 61)) : ∀ (x3 : Int32) (x4 : Int32) (M : zMem), zRm p l e rm_X10_mayMove s m args below meth c w 2 140 [some (.ref (zA w 74)), none, some (.int u2), some (.int x3), some (.int x4), none] [] M (f_X10_mayMove_B140 u1 u2 x3 x4 M) := by
  intro x3 x4 M
  unfold f_X10_mayMove_B140
  refine re_aload_n X dX10_mayMove_140 rfl rfl ?_
  refine re_getI X cl_10 (by decide) fl_RX10_271 ho rfl dX10_mayMove_141 ?_
  refine re_iconst (v := -1) X dX10_mayMove_144 (by decide) ?_
  refine re_icmp_eq (tgt := 158) X dX10_mayMove_145 (by decide) (fun _ => ?_) (fun _ => ?_)
  · exact re_sub (lb_X10_mayMove_158 X ho x3 x4 M) ⟨rfl, ⟨rfl, ⟨rfl, trivial⟩⟩⟩
  · refine re_aload_n X dX10_mayMove_148 rfl rfl ?_
    refine re_getI X cl_10 (by decide) fl_RX10_271 ho rfl dX10_mayMove_149 ?_
    refine re_iload_n X dX10_mayMove_152 rfl rfl ?_
    refine re_icmp_eq (tgt := 158) X dX10_mayMove_153 (by decide) (fun _ => ?_) (fun _ => ?_)
    · exact re_sub (lb_X10_mayMove_158 X ho x3 x4 M) ⟨rfl, ⟨rfl, ⟨rfl, trivial⟩⟩⟩
    · refine re_iconst (v := 0) X dX10_mayMove_156 (by decide) ?_
      exact re_zret X (Or.inl rfl) dX10_mayMove_157

set_option maxRecDepth 100000 in
theorem lk_X10_mayMove (l : Launch) (w : zWD) (u1 : Int32) (u2 : Int32) (ho : zKd w 74 = (10, 61)) : zMt l w yX10_mayMove cX10_mayMove 6 (some .boolean) rm_X10_mayMove 2 [.ref (zA w 74), .int u1, .int u2] (fun M => f_X10_mayMove u1 u2 M) := by
  refine zMt.of (by decide) [some (.ref (zA w 74)), some (.int u1), some (.int u2), none, none, none] rfl (zle rfl) (by intro v hv; simp only [List.mem_cons, List.not_mem_nil, or_false] at hv; rcases hv with rfl | rfl | rfl <;> rfl) ?_
  intro p e s m args below meth c X M
  unfold f_X10_mayMove
  refine re_aload_n X dX10_mayMove_0 rfl rfl ?_
  refine re_getR X cl_10 (by decide) fl_RX10_55 ho rfl (zR_10_19 ho) dX10_mayMove_1 ?_
  refine re_iload_n X dX10_mayMove_4 rfl rfl ?_
  refine re_ck (fun hi1 => ?_)
  refine re_iald X (zQ_10_19 X.clo ho) hi1 (j := zIx u1) rfl dX10_mayMove_5 ?_
  refine re_istore_n (lv' := [some (.ref (zA w 74)), some (.int u1), some (.int u2), some (.int (M 96 (zIx u1))), none, none]) X dX10_mayMove_6 rfl (zlt rfl) rfl ?_
  refine re_aload_n X dX10_mayMove_7 rfl rfl ?_
  refine re_getR X cl_10 (by decide) fl_RX10_58 ho rfl (zR_10_20 ho) dX10_mayMove_8 ?_
  refine re_iload_n X dX10_mayMove_11 rfl rfl ?_
  refine re_ck (fun hi2 => ?_)
  refine re_iald X (zQ_10_20 X.clo ho) hi2 (j := zIx u1) rfl dX10_mayMove_12 ?_
  refine re_istore (lv' := [some (.ref (zA w 74)), some (.int u1), some (.int u2), some (.int (M 96 (zIx u1))), some (.int (M 97 (zIx u1))), none]) X dX10_mayMove_13 (zlt rfl) rfl ?_
  refine re_aload_n X dX10_mayMove_15 rfl rfl ?_
  refine re_getR X cl_10 (by decide) fl_RX10_19 ho rfl (zR_10_7 ho) dX10_mayMove_16 ?_
  refine re_iconst (v := 0) X dX10_mayMove_19 (by decide) ?_
  refine re_aald X (zQ_10_7 X.clo ho) (by decide) (by decide) rfl (rw_77 (by decide)) dX10_mayMove_20 ?_
  refine re_iload_n X dX10_mayMove_21 rfl rfl ?_
  refine re_ck (fun hi3 => ?_)
  refine re_iald X (rk_77 X.clo (zQ_10_7 X.clo ho) (i := 0) (by decide)) hi3 (j := zIx (M 96 (zIx u1))) rfl dX10_mayMove_22 ?_
  refine re_if_eq (tgt := 35) X dX10_mayMove_23 (by decide) (fun _ => ?_) (fun _ => ?_)
  · refine re_iconst (v := 0) X dX10_mayMove_35 (by decide) ?_
    exact re_zret X (Or.inl rfl) dX10_mayMove_36
  · refine re_aload_n X dX10_mayMove_26 rfl rfl ?_
    refine re_getI X cl_10 (by decide) fl_RX10_293 ho rfl dX10_mayMove_27 ?_
    refine re_bipush (v := 8) X dX10_mayMove_30 (by decide) ?_
    refine re_icmp_lt (tgt := 37) X dX10_mayMove_32 (by decide) (fun _ => ?_) (fun _ => ?_)
    · refine re_iload_n X dX10_mayMove_37 rfl rfl ?_
      refine re_bipush (v := 7) X dX10_mayMove_38 (by decide) ?_
      refine re_icmp_ne (tgt := 104) X dX10_mayMove_40 (by decide) (fun _ => ?_) (fun _ => ?_)
      · refine re_iconst (v := 0) X dX10_mayMove_43 (by decide) ?_
        refine re_istore (lv' := [some (.ref (zA w 74)), some (.int u1), some (.int u2), some (.int (M 96 (zIx u1))), some (.int (M 97 (zIx u1))), some (.int 0)]) X dX10_mayMove_44 (zlt rfl) rfl ?_
        exact re_sub (lb_X10_mayMove_46 X ho zFu 0 M) ⟨rfl, ⟨rfl, ⟨rfl, trivial⟩⟩⟩
      · refine re_aload_n X dX10_mayMove_104 rfl rfl ?_
        refine re_getI X cl_10 (by decide) fl_RX10_293 ho rfl dX10_mayMove_105 ?_
        refine re_if_le (tgt := 140) X dX10_mayMove_108 (by decide) (fun _ => ?_) (fun _ => ?_)
        · exact re_sub (lb_X10_mayMove_140 X ho (M 96 (zIx u1)) (M 97 (zIx u1)) M) ⟨rfl, ⟨rfl, ⟨rfl, ⟨rfl, trivial⟩⟩⟩⟩
        · refine re_aload_n X dX10_mayMove_111 rfl rfl ?_
          refine re_getR X cl_10 (by decide) fl_RX10_19 ho rfl (zR_10_7 ho) dX10_mayMove_112 ?_
          refine re_iconst (v := 0) X dX10_mayMove_115 (by decide) ?_
          refine re_aald X (zQ_10_7 X.clo ho) (by decide) (by decide) rfl (rw_77 (by decide)) dX10_mayMove_116 ?_
          refine re_iload_n X dX10_mayMove_117 rfl rfl ?_
          refine re_ck (fun hi19 => ?_)
          refine re_iald X (rk_77 X.clo (zQ_10_7 X.clo ho) (i := 0) (by decide)) hi19 (j := zIx (M 96 (zIx u1))) rfl dX10_mayMove_118 ?_
          refine re_aload_n X dX10_mayMove_119 rfl rfl ?_
          refine re_getR X cl_10 (by decide) fl_RX10_19 ho rfl (zR_10_7 ho) dX10_mayMove_120 ?_
          refine re_iconst (v := 0) X dX10_mayMove_123 (by decide) ?_
          refine re_aald X (zQ_10_7 X.clo ho) (by decide) (by decide) rfl (rw_77 (by decide)) dX10_mayMove_124 ?_
          refine re_aload_n X dX10_mayMove_125 rfl rfl ?_
          refine re_getR X cl_10 (by decide) fl_RX10_86 ho rfl (zR_10_40 ho) dX10_mayMove_126 ?_
          refine re_aload_n X dX10_mayMove_129 rfl rfl ?_
          refine re_getI X cl_10 (by decide) fl_RX10_293 ho rfl dX10_mayMove_130 ?_
          refine re_iconst (v := 1) X dX10_mayMove_133 (by decide) ?_
          refine re_isub X dX10_mayMove_134 ?_
          refine re_ck (fun hi20 => ?_)
          refine re_iald X (zQ_10_40 X.clo ho) hi20 (j := zIx ((M 74 39) - 1)) rfl dX10_mayMove_135 ?_
          refine re_ck (fun hi21 => ?_)
          refine re_iald X (rk_77 X.clo (zQ_10_7 X.clo ho) (i := 0) (by decide)) hi21 (j := zIx (M 111 (zIx ((M 74 39) - 1)))) rfl dX10_mayMove_136 ?_
          refine re_icmp_le (tgt := 156) X dX10_mayMove_137 (by decide) (fun _ => ?_) (fun _ => ?_)
          · refine re_iconst (v := 0) X dX10_mayMove_156 (by decide) ?_
            exact re_zret X (Or.inl rfl) dX10_mayMove_157
          · exact re_sub (lb_X10_mayMove_140 X ho (M 96 (zIx u1)) (M 97 (zIx u1)) M) ⟨rfl, ⟨rfl, ⟨rfl, ⟨rfl, trivial⟩⟩⟩⟩
    · refine re_iconst (v := 0) X dX10_mayMove_35 (by decide) ?_
      exact re_zret X (Or.inl rfl) dX10_mayMove_36
theorem ca_X10_mayMove {R : Room} (h1 : rm_X10_mayMove.frames + 1 ≤ R.frames) (h2 : 8 + (6 + 11) + rm_X10_mayMove.locals ≤ R.locals) : zCa yX10_mayMove cX10_mayMove 6 (some .boolean) rm_X10_mayMove R 2 := ⟨cd_X10_mayMove, iz_RX10, ⟨by decide, by decide, by decide⟩, rfl, rfl, h1, h2⟩
/-! DebateHouseModel.isInOrder -/
abbrev rm_X10_isInOrder : Room := { frames := 3, cells := 0, slots := 0, locals := 69 }
def f_X10_isInOrder_B235 (u1 : Int32) (u2 : Int32) (u3 : Int32)  (y0 : Int32) (y1 : Int32) (M : zMem) : zTr := if y1 = y0 then some (1, M) else some (0, M)
def f_X10_isInOrder_B224 (u1 : Int32) (u2 : Int32) (u3 : Int32)  (y0 : Int32) (M : zMem) : zTr := if u2 = 9 then f_X10_isInOrder_B235 u1 u2 u3 1 y0 M else f_X10_isInOrder_B235 u1 u2 u3 0 y0 M
def f_X10_isInOrder (u1 : Int32) (u2 : Int32) (u3 : Int32) (M : zMem) : zTr := if u2 = 2 then zBd (f_X10_waitsFor u3 M) (fun r2 M3 => if r2 = 0 then (if (M3 74 32) = u3 then some (0, M3) else some (1, M3)) else some (0, M3)) else if u2 = 3 then (if (M 74 31) ≤ 0 then some (0, M) else if (M 74 32) = (-1) then some (1, M) else some (0, M)) else if u2 = 4 then some (1, M) else if u2 = 5 then (if (M 74 32) = (-1) then some (0, M) else if (M 74 32) = u3 then some (0, M) else if (M 74 37) = 0 then (if (M 92 0) = 0 then some (0, M) else some (1, M)) else some (0, M)) else if u2 = 6 then zBd (f_X10_mayMove u1 u3 M) (fun r8 M9 => some (r8, M9)) else if u2 = 7 then (if (M 74 39) ≤ 0 then some (0, M) else zCk (zIn ((M 74 39) - 1) 12) (if (M 116 (zIx ((M 74 39) - 1))) = 0 then zCk (zIn ((M 74 39) - 1) 12) (if (M 112 (zIx ((M 74 39) - 1))) = u3 then some (0, M) else some (1, M)) else some (0, M))) else if (M 74 39) = 0 then some (0, M) else zCk (zIn ((M 74 39) - 1) 12) (if (M 116 (zIx ((M 74 39) - 1))) = 0 then some (0, M) else zCk (zIn ((M 74 39) - 1) 12) (if (M 117 (zIx ((M 74 39) - 1))) = 0 then some (0, M) else zCk (zIn ((M 74 39) - 1) 12) (zCk (zIn (M 111 (zIx ((M 74 39) - 1))) 8) (if (M 81 (zIx (M 111 (zIx ((M 74 39) - 1))))) = 3 then f_X10_isInOrder_B224 u1 u2 u3 1 M else f_X10_isInOrder_B224 u1 u2 u3 0 M))))
set_option maxRecDepth 100000 in
theorem lb_X10_isInOrder_235 {p : Program} {l : Launch} {e : Env} {s : State} {m : MethodId} {args : Array Value} {below : List Frame} {meth : Method} {c : Code} {w : zWD} {u1 : Int32} {u2 : Int32} {u3 : Int32} (X : zCx p s m args meth c w (zFree w) RX10 cX10_isInOrder 5 (some .boolean)) (ho : zKd w 74 = (10, 61)) : ∀ (y0 : Int32) (y1 : Int32) (M : zMem), zRm p l e rm_X10_isInOrder s m args below meth c w 2 235 [none, none, none, none, none] [.int y0, .int y1] M (f_X10_isInOrder_B235 u1 u2 u3 y0 y1 M) := by
  intro y0 y1 M
  unfold f_X10_isInOrder_B235
  refine re_icmp_ne (tgt := 242) X dX10_isInOrder_235 (by decide) (fun _ => ?_) (fun _ => ?_)
  · refine re_iconst (v := 1) X dX10_isInOrder_238 (by decide) ?_
    refine re_goto (tgt := 243) X dX10_isInOrder_239 (by decide) ?_
    exact re_zret X (Or.inr rfl) dX10_isInOrder_243
  · refine re_iconst (v := 0) X dX10_isInOrder_242 (by decide) ?_
    exact re_zret X (Or.inl rfl) dX10_isInOrder_243

set_option maxRecDepth 100000 in
theorem lb_X10_isInOrder_224 {p : Program} {l : Launch} {e : Env} {s : State} {m : MethodId} {args : Array Value} {below : List Frame} {meth : Method} {c : Code} {w : zWD} {u1 : Int32} {u2 : Int32} {u3 : Int32} (X : zCx p s m args meth c w (zFree w) RX10 cX10_isInOrder 5 (some .boolean)) (ho : zKd w 74 = (10, 61)) : ∀ (y0 : Int32) (M : zMem), zRm p l e rm_X10_isInOrder s m args below meth c w 2 224 [none, none, some (.int u2), none, none] [.int y0] M (f_X10_isInOrder_B224 u1 u2 u3 y0 M) := by
  intro y0 M
  unfold f_X10_isInOrder_B224
  refine re_iload_n X dX10_isInOrder_224 rfl rfl ?_
  refine re_bipush (v := 9) X dX10_isInOrder_225 (by decide) ?_
  refine re_icmp_ne (tgt := 234) X dX10_isInOrder_227 (by decide) (fun _ => ?_) (fun _ => ?_)
  · refine re_iconst (v := 1) X dX10_isInOrder_230 (by decide) ?_
    refine re_goto (tgt := 235) X dX10_isInOrder_231 (by decide) ?_
    exact re_sub (lb_X10_isInOrder_235 X ho 1 y0 M) trivial
  · refine re_iconst (v := 0) X dX10_isInOrder_234 (by decide) ?_
    exact re_sub (lb_X10_isInOrder_235 X ho 0 y0 M) trivial

set_option maxRecDepth 100000 in
theorem lk_X10_isInOrder (l : Launch) (w : zWD) (u1 : Int32) (u2 : Int32) (u3 : Int32) (ho : zKd w 74 = (10, 61)) : zMt l w yX10_isInOrder cX10_isInOrder 5 (some .boolean) rm_X10_isInOrder 2 [.ref (zA w 74), .int u1, .int u2, .int u3] (fun M => f_X10_isInOrder u1 u2 u3 M) := by
  refine zMt.of (by decide) [some (.ref (zA w 74)), some (.int u1), some (.int u2), some (.int u3), none] rfl (zle rfl) (by intro v hv; simp only [List.mem_cons, List.not_mem_nil, or_false] at hv; rcases hv with rfl | rfl | rfl | rfl <;> rfl) ?_
  intro p e s m args below meth c X M
  unfold f_X10_isInOrder
  refine re_aload_n X dX10_isInOrder_0 rfl rfl ?_
  refine re_getI X cl_10 (by decide) fl_RX10_293 ho rfl dX10_isInOrder_1 ?_
  refine re_iconst (v := 1) X dX10_isInOrder_4 (by decide) ?_
  refine re_isub X dX10_isInOrder_5 ?_
  refine re_istore (lv' := [some (.ref (zA w 74)), some (.int u1), some (.int u2), some (.int u3), some (.int ((M 74 39) - 1))]) X dX10_isInOrder_6 (zlt rfl) rfl ?_
  refine re_iload_n X dX10_isInOrder_8 rfl rfl ?_
  refine re_if (fun e1 => ?_) (fun e1 => ?_)
  · refine re_sw_in (v := 2) (off := 39) (tgt := 48) X dX10_isInOrder_9 e1 (by decide) (by decide) (by decide +kernel) (by decide) ?_
    refine re_aload_n X dX10_isInOrder_48 rfl rfl ?_
    refine re_iload_n X dX10_isInOrder_49 rfl rfl ?_
    refine re_callVz X (lk_X10_waitsFor l w u3 ho) (ca_X10_waitsFor (by decide) (by decide)) ml_RX10_319 im_X10_waitsFor se_X10_waitsFor cl_10 ho rfl rfl rfl (zle rfl) zRo dX10_isInOrder_50 (fun r2 M3 hr2 => ?_)
    refine re_if_ne (tgt := 68) X dX10_isInOrder_53 (by decide) (fun _ => ?_) (fun _ => ?_)
    · refine re_aload_n X dX10_isInOrder_56 rfl rfl ?_
      refine re_getI X cl_10 (by decide) fl_RX10_271 ho rfl dX10_isInOrder_57 ?_
      refine re_iload_n X dX10_isInOrder_60 rfl rfl ?_
      refine re_icmp_eq (tgt := 68) X dX10_isInOrder_61 (by decide) (fun _ => ?_) (fun _ => ?_)
      · refine re_iconst (v := 0) X dX10_isInOrder_68 (by decide) ?_
        exact re_zret X (Or.inl rfl) dX10_isInOrder_69
      · refine re_iconst (v := 1) X dX10_isInOrder_64 (by decide) ?_
        refine re_goto (tgt := 69) X dX10_isInOrder_65 (by decide) ?_
        exact re_zret X (Or.inr rfl) dX10_isInOrder_69
    · refine re_iconst (v := 0) X dX10_isInOrder_68 (by decide) ?_
      exact re_zret X (Or.inl rfl) dX10_isInOrder_69
  refine re_if (fun e4 => ?_) (fun e4 => ?_)
  · refine re_sw_in (v := 3) (off := 61) (tgt := 70) X dX10_isInOrder_9 e4 (by decide) (by decide) (by decide +kernel) (by decide) ?_
    refine re_aload_n X dX10_isInOrder_70 rfl rfl ?_
    refine re_getI X cl_10 (by decide) fl_RX10_268 ho rfl dX10_isInOrder_71 ?_
    refine re_if_le (tgt := 89) X dX10_isInOrder_74 (by decide) (fun _ => ?_) (fun _ => ?_)
    · refine re_iconst (v := 0) X dX10_isInOrder_89 (by decide) ?_
      exact re_zret X (Or.inl rfl) dX10_isInOrder_90
    · refine re_aload_n X dX10_isInOrder_77 rfl rfl ?_
      refine re_getI X cl_10 (by decide) fl_RX10_271 ho rfl dX10_isInOrder_78 ?_
      refine re_iconst (v := -1) X dX10_isInOrder_81 (by decide) ?_
      refine re_icmp_ne (tgt := 89) X dX10_isInOrder_82 (by decide) (fun _ => ?_) (fun _ => ?_)
      · refine re_iconst (v := 1) X dX10_isInOrder_85 (by decide) ?_
        refine re_goto (tgt := 90) X dX10_isInOrder_86 (by decide) ?_
        exact re_zret X (Or.inr rfl) dX10_isInOrder_90
      · refine re_iconst (v := 0) X dX10_isInOrder_89 (by decide) ?_
        exact re_zret X (Or.inl rfl) dX10_isInOrder_90
  refine re_if (fun e5 => ?_) (fun e5 => ?_)
  · refine re_sw_in (v := 4) (off := 82) (tgt := 91) X dX10_isInOrder_9 e5 (by decide) (by decide) (by decide +kernel) (by decide) ?_
    refine re_iconst (v := 1) X dX10_isInOrder_91 (by decide) ?_
    exact re_zret X (Or.inr rfl) dX10_isInOrder_92
  refine re_if (fun e6 => ?_) (fun e6 => ?_)
  · refine re_sw_in (v := 5) (off := 84) (tgt := 93) X dX10_isInOrder_9 e6 (by decide) (by decide) (by decide +kernel) (by decide) ?_
    refine re_aload_n X dX10_isInOrder_93 rfl rfl ?_
    refine re_getI X cl_10 (by decide) fl_RX10_271 ho rfl dX10_isInOrder_94 ?_
    refine re_iconst (v := -1) X dX10_isInOrder_97 (by decide) ?_
    refine re_icmp_eq (tgt := 129) X dX10_isInOrder_98 (by decide) (fun _ => ?_) (fun _ => ?_)
    · refine re_iconst (v := 0) X dX10_isInOrder_129 (by decide) ?_
      exact re_zret X (Or.inl rfl) dX10_isInOrder_130
    · refine re_aload_n X dX10_isInOrder_101 rfl rfl ?_
      refine re_getI X cl_10 (by decide) fl_RX10_271 ho rfl dX10_isInOrder_102 ?_
      refine re_iload_n X dX10_isInOrder_105 rfl rfl ?_
      refine re_icmp_eq (tgt := 129) X dX10_isInOrder_106 (by decide) (fun _ => ?_) (fun _ => ?_)
      · refine re_iconst (v := 0) X dX10_isInOrder_129 (by decide) ?_
        exact re_zret X (Or.inl rfl) dX10_isInOrder_130
      · refine re_aload_n X dX10_isInOrder_109 rfl rfl ?_
        refine re_getI X cl_10 (by decide) fl_RX10_286 ho rfl dX10_isInOrder_110 ?_
        refine re_if_ne (tgt := 129) X dX10_isInOrder_113 (by decide) (fun _ => ?_) (fun _ => ?_)
        · refine re_aload_n X dX10_isInOrder_116 rfl rfl ?_
          refine re_getR X cl_10 (by decide) fl_RX10_43 ho rfl (zR_10_14 ho) dX10_isInOrder_117 ?_
          refine re_iconst (v := 0) X dX10_isInOrder_120 (by decide) ?_
          refine re_zald X (zQ_10_14 X.clo ho) (by decide) (j := 0) rfl dX10_isInOrder_121 ?_
          refine re_if_eq (tgt := 129) X dX10_isInOrder_122 (by decide) (fun _ => ?_) (fun _ => ?_)
          · refine re_iconst (v := 0) X dX10_isInOrder_129 (by decide) ?_
            exact re_zret X (Or.inl rfl) dX10_isInOrder_130
          · refine re_iconst (v := 1) X dX10_isInOrder_125 (by decide) ?_
            refine re_goto (tgt := 130) X dX10_isInOrder_126 (by decide) ?_
            exact re_zret X (Or.inr rfl) dX10_isInOrder_130
        · refine re_iconst (v := 0) X dX10_isInOrder_129 (by decide) ?_
          exact re_zret X (Or.inl rfl) dX10_isInOrder_130
  refine re_if (fun e7 => ?_) (fun e7 => ?_)
  · refine re_sw_in (v := 6) (off := 122) (tgt := 131) X dX10_isInOrder_9 e7 (by decide) (by decide) (by decide +kernel) (by decide) ?_
    refine re_aload_n X dX10_isInOrder_131 rfl rfl ?_
    refine re_iload_n X dX10_isInOrder_132 rfl rfl ?_
    refine re_iload_n X dX10_isInOrder_133 rfl rfl ?_
    refine re_callVz X (lk_X10_mayMove l w u1 u3 ho) (ca_X10_mayMove (by decide) (by decide)) ml_RX10_323 im_X10_mayMove se_X10_mayMove cl_10 ho rfl rfl rfl (zle rfl) zRo dX10_isInOrder_134 (fun r8 M9 hr8 => ?_)
    exact re_zret X hr8 dX10_isInOrder_137
  refine re_if (fun e10 => ?_) (fun e10 => ?_)
  · refine re_sw_in (v := 7) (off := 129) (tgt := 138) X dX10_isInOrder_9 e10 (by decide) (by decide) (by decide +kernel) (by decide) ?_
    refine re_aload_n X dX10_isInOrder_138 rfl rfl ?_
    refine re_getI X cl_10 (by decide) fl_RX10_293 ho rfl dX10_isInOrder_139 ?_
    refine re_if_le (tgt := 170) X dX10_isInOrder_142 (by decide) (fun _ => ?_) (fun _ => ?_)
    · refine re_iconst (v := 0) X dX10_isInOrder_170 (by decide) ?_
      exact re_zret X (Or.inl rfl) dX10_isInOrder_171
    · refine re_aload_n X dX10_isInOrder_145 rfl rfl ?_
      refine re_getR X cl_10 (by decide) fl_RX10_101 ho rfl (zR_10_45 ho) dX10_isInOrder_146 ?_
      refine re_iload X dX10_isInOrder_149 rfl ?_
      refine re_ck (fun hi11 => ?_)
      refine re_zald X (zQ_10_45 X.clo ho) hi11 (j := zIx ((M 74 39) - 1)) rfl dX10_isInOrder_151 ?_
      refine re_if_ne (tgt := 170) X dX10_isInOrder_152 (by decide) (fun _ => ?_) (fun _ => ?_)
      · refine re_aload_n X dX10_isInOrder_155 rfl rfl ?_
        refine re_getR X cl_10 (by decide) fl_RX10_89 ho rfl (zR_10_41 ho) dX10_isInOrder_156 ?_
        refine re_iload X dX10_isInOrder_159 rfl ?_
        refine re_ck (fun hi12 => ?_)
        refine re_iald X (zQ_10_41 X.clo ho) hi12 (j := zIx ((M 74 39) - 1)) rfl dX10_isInOrder_161 ?_
        refine re_iload_n X dX10_isInOrder_162 rfl rfl ?_
        refine re_icmp_eq (tgt := 170) X dX10_isInOrder_163 (by decide) (fun _ => ?_) (fun _ => ?_)
        · refine re_iconst (v := 0) X dX10_isInOrder_170 (by decide) ?_
          exact re_zret X (Or.inl rfl) dX10_isInOrder_171
        · refine re_iconst (v := 1) X dX10_isInOrder_166 (by decide) ?_
          refine re_goto (tgt := 171) X dX10_isInOrder_167 (by decide) ?_
          exact re_zret X (Or.inr rfl) dX10_isInOrder_171
      · refine re_iconst (v := 0) X dX10_isInOrder_170 (by decide) ?_
        exact re_zret X (Or.inl rfl) dX10_isInOrder_171
  refine re_sw_out (tgt := 172) X dX10_isInOrder_9 (by
      have e1 := lv_neT (a := 2) e1 (by decide)
      have e4 := lv_neT (a := 3) e4 (by decide)
      have e5 := lv_neT (a := 4) e5 (by decide)
      have e6 := lv_neT (a := 5) e6 (by decide)
      have e7 := lv_neT (a := 6) e7 (by decide)
      have e10 := lv_neT (a := 7) e10 (by decide)
      omega) (by decide) ?_
  refine re_aload_n X dX10_isInOrder_172 rfl rfl ?_
  refine re_getI X cl_10 (by decide) fl_RX10_293 ho rfl dX10_isInOrder_173 ?_
  refine re_if_eq (tgt := 199) X dX10_isInOrder_176 (by decide) (fun _ => ?_) (fun _ => ?_)
  · refine re_iconst (v := 0) X dX10_isInOrder_199 (by decide) ?_
    exact re_zret X (Or.inl rfl) dX10_isInOrder_200
  · refine re_aload_n X dX10_isInOrder_179 rfl rfl ?_
    refine re_getR X cl_10 (by decide) fl_RX10_101 ho rfl (zR_10_45 ho) dX10_isInOrder_180 ?_
    refine re_iload X dX10_isInOrder_183 rfl ?_
    refine re_ck (fun hi13 => ?_)
    refine re_zald X (zQ_10_45 X.clo ho) hi13 (j := zIx ((M 74 39) - 1)) rfl dX10_isInOrder_185 ?_
    refine re_if_eq (tgt := 199) X dX10_isInOrder_186 (by decide) (fun _ => ?_) (fun _ => ?_)
    · refine re_iconst (v := 0) X dX10_isInOrder_199 (by decide) ?_
      exact re_zret X (Or.inl rfl) dX10_isInOrder_200
    · refine re_aload_n X dX10_isInOrder_189 rfl rfl ?_
      refine re_getR X cl_10 (by decide) fl_RX10_104 ho rfl (zR_10_46 ho) dX10_isInOrder_190 ?_
      refine re_iload X dX10_isInOrder_193 rfl ?_
      refine re_ck (fun hi14 => ?_)
      refine re_zald X (zQ_10_46 X.clo ho) hi14 (j := zIx ((M 74 39) - 1)) rfl dX10_isInOrder_195 ?_
      refine re_if_ne (tgt := 201) X dX10_isInOrder_196 (by decide) (fun _ => ?_) (fun _ => ?_)
      · refine re_iconst (v := 0) X dX10_isInOrder_199 (by decide) ?_
        exact re_zret X (Or.inl rfl) dX10_isInOrder_200
      · refine re_aload_n X dX10_isInOrder_201 rfl rfl ?_
        refine re_getR X cl_10 (by decide) fl_RX10_22 ho rfl (zR_10_8 ho) dX10_isInOrder_202 ?_
        refine re_iconst (v := 0) X dX10_isInOrder_205 (by decide) ?_
        refine re_aald X (zQ_10_8 X.clo ho) (by decide) (by decide) rfl (rw_80 (by decide)) dX10_isInOrder_206 ?_
        refine re_aload_n X dX10_isInOrder_207 rfl rfl ?_
        refine re_getR X cl_10 (by decide) fl_RX10_86 ho rfl (zR_10_40 ho) dX10_isInOrder_208 ?_
        refine re_iload X dX10_isInOrder_211 rfl ?_
        refine re_ck (fun hi15 => ?_)
        refine re_iald X (zQ_10_40 X.clo ho) hi15 (j := zIx ((M 74 39) - 1)) rfl dX10_isInOrder_213 ?_
        refine re_ck (fun hi16 => ?_)
        refine re_iald X (rk_80 X.clo (zQ_10_8 X.clo ho) (i := 0) (by decide)) hi16 (j := zIx (M 111 (zIx ((M 74 39) - 1)))) rfl dX10_isInOrder_214 ?_
        refine re_iconst (v := 3) X dX10_isInOrder_215 (by decide) ?_
        refine re_icmp_ne (tgt := 223) X dX10_isInOrder_216 (by decide) (fun _ => ?_) (fun _ => ?_)
        · refine re_iconst (v := 1) X dX10_isInOrder_219 (by decide) ?_
          refine re_goto (tgt := 224) X dX10_isInOrder_220 (by decide) ?_
          exact re_sub (lb_X10_isInOrder_224 X ho 1 M) ⟨rfl, trivial⟩
        · refine re_iconst (v := 0) X dX10_isInOrder_223 (by decide) ?_
          exact re_sub (lb_X10_isInOrder_224 X ho 0 M) ⟨rfl, trivial⟩
theorem ca_X10_isInOrder {R : Room} (h1 : rm_X10_isInOrder.frames + 1 ≤ R.frames) (h2 : 8 + (5 + 11) + rm_X10_isInOrder.locals ≤ R.locals) : zCa yX10_isInOrder cX10_isInOrder 5 (some .boolean) rm_X10_isInOrder R 3 := ⟨cd_X10_isInOrder, iz_RX10, ⟨by decide, by decide, by decide⟩, rfl, rfl, h1, h2⟩
/-! DebateHouseModel.rule -/
abbrev rm_X10_rule : Room := { frames := 4, cells := 0, slots := 0, locals := 93 }
def f_X10_rule_B132 (u1 : Int32)  (x2 : Int32) (x3 : Int32) (M : zMem) : zTr := zBd (f_X10_isInOrder u1 x2 x3 M) (fun r7 M8 => if r7 = 0 then some (6, M8) else some (0, M8))
def f_X10_rule_B87 (u1 : Int32)  (x2 : Int32) (x3 : Int32) (M : zMem) : zTr := if 2 ≤ x2 then (if (M 74 38) = 0 then zBd (f_X10_there M) (fun r5 M6 => if (M6 90 0) ≤ r5 then (if (M6 74 36) ≤ 0 then f_X10_rule_B132 u1 x2 x3 M6 else if x2 = 4 then f_X10_rule_B132 u1 x2 x3 M6 else some (5, M6)) else some (4, M6)) else some (3, M)) else some (0, M)
def f_X10_rule_B82 (u1 : Int32)  (x2 : Int32) (x3 : Int32) (y0 : Int32) (y1 : Int32) (M : zMem) : zTr := if y1 = y0 then some (2, M) else f_X10_rule_B87 u1 x2 x3 M
def f_X10_rule_B51 (u1 : Int32)  (x2 : Int32) (x3 : Int32) (x4 : Int32) (M : zMem) : zTr := zBd (f_X10_isWrong u1 x2 M) (fun r3 M4 => if r3 = 0 then (if x4 = 0 then f_X10_rule_B87 u1 x2 x3 M4 else zCk (zIn x3 24) (if x2 = 0 then f_X10_rule_B82 u1 x2 x3 1 (M4 108 (zIx x3)) M4 else f_X10_rule_B82 u1 x2 x3 0 (M4 108 (zIx x3)) M4)) else some (1, M4))
def f_X10_rule_B34 (u1 : Int32)  (x2 : Int32) (x3 : Int32) (y0 : Int32) (M : zMem) : zTr := if y0 = 0 then f_X10_rule_B51 u1 x2 x3 y0 M else zBd (f_X10_in x3 0 23 M) (fun r10 M11 => if r10 = 0 then some (1, M11) else f_X10_rule_B51 u1 x2 x3 y0 M11)
def f_X10_rule_B29 (u1 : Int32)  (x2 : Int32) (x3 : Int32) (M : zMem) : zTr := f_X10_rule_B34 u1 x2 x3 1 M
def f_X10_rule (u1 : Int32) (M : zMem) : zTr := zCk (zIn u1 300) (zCk (zIn u1 300) (if (M 94 (zIx u1)) < 3 then f_X10_rule_B29 u1 (M 94 (zIx u1)) (M 95 (zIx u1)) M else zBd (f_X10_in (M 94 (zIx u1)) 5 7 M) (fun r12 M13 => if r12 = 0 then f_X10_rule_B34 u1 (M 94 (zIx u1)) (M 95 (zIx u1)) 0 M13 else f_X10_rule_B29 u1 (M 94 (zIx u1)) (M 95 (zIx u1)) M13)))
set_option maxRecDepth 100000 in
theorem lb_X10_rule_132 {p : Program} {l : Launch} {e : Env} {s : State} {m : MethodId} {args : Array Value} {below : List Frame} {meth : Method} {c : Code} {w : zWD} {u1 : Int32} (X : zCx p s m args meth c w (zFree w) RX10 cX10_rule 5 (some .int)) (ho : zKd w 74 = (10, 61)) : ∀ (x2 : Int32) (x3 : Int32) (M : zMem), zRm p l e rm_X10_rule s m args below meth c w 1 132 [some (.ref (zA w 74)), some (.int u1), some (.int x2), some (.int x3), none] [] M (f_X10_rule_B132 u1 x2 x3 M) := by
  intro x2 x3 M
  unfold f_X10_rule_B132
  refine re_aload_n X dX10_rule_132 rfl rfl ?_
  refine re_iload_n X dX10_rule_133 rfl rfl ?_
  refine re_iload_n X dX10_rule_134 rfl rfl ?_
  refine re_iload_n X dX10_rule_135 rfl rfl ?_
  refine re_callVz X (lk_X10_isInOrder l w u1 x2 x3 ho) (ca_X10_isInOrder (by decide) (by decide)) ml_RX10_316 im_X10_isInOrder se_X10_isInOrder cl_10 ho rfl rfl rfl (zle rfl) zRo dX10_rule_136 (fun r7 M8 hr7 => ?_)
  refine re_if_eq (tgt := 146) X dX10_rule_139 (by decide) (fun _ => ?_) (fun _ => ?_)
  · refine re_bipush (v := 6) X dX10_rule_146 (by decide) ?_
    exact re_iret X dX10_rule_148
  · refine re_iconst (v := 0) X dX10_rule_142 (by decide) ?_
    refine re_goto (tgt := 148) X dX10_rule_143 (by decide) ?_
    exact re_iret X dX10_rule_148

set_option maxRecDepth 100000 in
theorem lb_X10_rule_87 {p : Program} {l : Launch} {e : Env} {s : State} {m : MethodId} {args : Array Value} {below : List Frame} {meth : Method} {c : Code} {w : zWD} {u1 : Int32} (X : zCx p s m args meth c w (zFree w) RX10 cX10_rule 5 (some .int)) (ho : zKd w 74 = (10, 61)) : ∀ (x2 : Int32) (x3 : Int32) (M : zMem), zRm p l e rm_X10_rule s m args below meth c w 1 87 [some (.ref (zA w 74)), some (.int u1), some (.int x2), some (.int x3), none] [] M (f_X10_rule_B87 u1 x2 x3 M) := by
  intro x2 x3 M
  unfold f_X10_rule_B87
  refine re_iload_n X dX10_rule_87 rfl rfl ?_
  refine re_iconst (v := 2) X dX10_rule_88 (by decide) ?_
  refine re_icmp_ge (tgt := 94) X dX10_rule_89 (by decide) (fun _ => ?_) (fun _ => ?_)
  · refine re_aload_n X dX10_rule_94 rfl rfl ?_
    refine re_getI X cl_10 (by decide) fl_RX10_290 ho rfl dX10_rule_95 ?_
    refine re_if_eq (tgt := 103) X dX10_rule_98 (by decide) (fun _ => ?_) (fun _ => ?_)
    · refine re_aload_n X dX10_rule_103 rfl rfl ?_
      refine re_callVi X (lk_X10_there l w ho) (ca_X10_there (by decide) (by decide)) ml_RX10_313 im_X10_there se_X10_there cl_10 ho rfl rfl rfl (zle rfl) zRo dX10_rule_104 (fun r5 M6 hr5 => ?_)
      refine re_aload_n X dX10_rule_107 rfl rfl ?_
      refine re_getR X cl_10 (by decide) fl_RX10_37 ho rfl (zR_10_12 ho) dX10_rule_108 ?_
      refine re_iconst (v := 0) X dX10_rule_111 (by decide) ?_
      refine re_iald X (zQ_10_12 X.clo ho) (by decide) (j := 0) rfl dX10_rule_112 ?_
      refine re_icmp_ge (tgt := 118) X dX10_rule_113 (by decide) (fun _ => ?_) (fun _ => ?_)
      · refine re_aload_n X dX10_rule_118 rfl rfl ?_
        refine re_getI X cl_10 (by decide) fl_RX10_283 ho rfl dX10_rule_119 ?_
        refine re_if_le (tgt := 132) X dX10_rule_122 (by decide) (fun _ => ?_) (fun _ => ?_)
        · exact lb_X10_rule_132 X ho x2 x3 M6
        · refine re_iload_n X dX10_rule_125 rfl rfl ?_
          refine re_iconst (v := 4) X dX10_rule_126 (by decide) ?_
          refine re_icmp_eq (tgt := 132) X dX10_rule_127 (by decide) (fun _ => ?_) (fun _ => ?_)
          · exact lb_X10_rule_132 X ho x2 x3 M6
          · refine re_iconst (v := 5) X dX10_rule_130 (by decide) ?_
            exact re_iret X dX10_rule_131
      · refine re_iconst (v := 4) X dX10_rule_116 (by decide) ?_
        exact re_iret X dX10_rule_117
    · refine re_iconst (v := 3) X dX10_rule_101 (by decide) ?_
      exact re_iret X dX10_rule_102
  · refine re_iconst (v := 0) X dX10_rule_92 (by decide) ?_
    exact re_iret X dX10_rule_93

set_option maxRecDepth 100000 in
theorem lb_X10_rule_82 {p : Program} {l : Launch} {e : Env} {s : State} {m : MethodId} {args : Array Value} {below : List Frame} {meth : Method} {c : Code} {w : zWD} {u1 : Int32} (X : zCx p s m args meth c w (zFree w) RX10 cX10_rule 5 (some .int)) (ho : zKd w 74 = (10, 61)) : ∀ (x2 : Int32) (x3 : Int32) (y0 : Int32) (y1 : Int32) (M : zMem), zRm p l e rm_X10_rule s m args below meth c w 1 82 [some (.ref (zA w 74)), some (.int u1), some (.int x2), some (.int x3), none] [.int y0, .int y1] M (f_X10_rule_B82 u1 x2 x3 y0 y1 M) := by
  intro x2 x3 y0 y1 M
  unfold f_X10_rule_B82
  refine re_icmp_ne (tgt := 87) X dX10_rule_82 (by decide) (fun _ => ?_) (fun _ => ?_)
  · refine re_iconst (v := 2) X dX10_rule_85 (by decide) ?_
    exact re_iret X dX10_rule_86
  · exact lb_X10_rule_87 X ho x2 x3 M

set_option maxRecDepth 100000 in
theorem lb_X10_rule_51 {p : Program} {l : Launch} {e : Env} {s : State} {m : MethodId} {args : Array Value} {below : List Frame} {meth : Method} {c : Code} {w : zWD} {u1 : Int32} (X : zCx p s m args meth c w (zFree w) RX10 cX10_rule 5 (some .int)) (ho : zKd w 74 = (10, 61)) : ∀ (x2 : Int32) (x3 : Int32) (x4 : Int32) (M : zMem), zRm p l e rm_X10_rule s m args below meth c w 1 51 [some (.ref (zA w 74)), some (.int u1), some (.int x2), some (.int x3), some (.int x4)] [] M (f_X10_rule_B51 u1 x2 x3 x4 M) := by
  intro x2 x3 x4 M
  unfold f_X10_rule_B51
  refine re_aload_n X dX10_rule_51 rfl rfl ?_
  refine re_iload_n X dX10_rule_52 rfl rfl ?_
  refine re_iload_n X dX10_rule_53 rfl rfl ?_
  refine re_callVz X (lk_X10_isWrong l w u1 x2 ho) (ca_X10_isWrong (by decide) (by decide)) ml_RX10_309 im_X10_isWrong se_X10_isWrong cl_10 ho rfl rfl rfl (zle rfl) zRo dX10_rule_54 (fun r3 M4 hr3 => ?_)
  refine re_if_eq (tgt := 62) X dX10_rule_57 (by decide) (fun _ => ?_) (fun _ => ?_)
  · refine re_iload X dX10_rule_62 rfl ?_
    refine re_if_eq (tgt := 87) X dX10_rule_64 (by decide) (fun _ => ?_) (fun _ => ?_)
    · exact re_sub (lb_X10_rule_87 X ho x2 x3 M4) ⟨rfl, ⟨rfl, ⟨rfl, ⟨rfl, trivial⟩⟩⟩⟩
    · refine re_aload_n X dX10_rule_67 rfl rfl ?_
      refine re_getR X cl_10 (by decide) fl_RX10_77 ho rfl (zR_10_28 ho) dX10_rule_68 ?_
      refine re_iload_n X dX10_rule_71 rfl rfl ?_
      refine re_ck (fun hi9 => ?_)
      refine re_zald X (zQ_10_28 X.clo ho) hi9 (j := zIx x3) rfl dX10_rule_72 ?_
      refine re_iload_n X dX10_rule_73 rfl rfl ?_
      refine re_if_ne (tgt := 81) X dX10_rule_74 (by decide) (fun _ => ?_) (fun _ => ?_)
      · refine re_iconst (v := 1) X dX10_rule_77 (by decide) ?_
        refine re_goto (tgt := 82) X dX10_rule_78 (by decide) ?_
        exact re_sub (lb_X10_rule_82 X ho x2 x3 1 (M4 108 (zIx x3)) M4) ⟨rfl, ⟨rfl, ⟨rfl, ⟨rfl, trivial⟩⟩⟩⟩
      · refine re_iconst (v := 0) X dX10_rule_81 (by decide) ?_
        exact re_sub (lb_X10_rule_82 X ho x2 x3 0 (M4 108 (zIx x3)) M4) ⟨rfl, ⟨rfl, ⟨rfl, ⟨rfl, trivial⟩⟩⟩⟩
  · refine re_iconst (v := 1) X dX10_rule_60 (by decide) ?_
    exact re_iret X dX10_rule_61

set_option maxRecDepth 100000 in
theorem lb_X10_rule_34 {p : Program} {l : Launch} {e : Env} {s : State} {m : MethodId} {args : Array Value} {below : List Frame} {meth : Method} {c : Code} {w : zWD} {u1 : Int32} (X : zCx p s m args meth c w (zFree w) RX10 cX10_rule 5 (some .int)) (ho : zKd w 74 = (10, 61)) : ∀ (x2 : Int32) (x3 : Int32) (y0 : Int32) (M : zMem), zRm p l e rm_X10_rule s m args below meth c w 1 34 [some (.ref (zA w 74)), some (.int u1), some (.int x2), some (.int x3), none] [.int y0] M (f_X10_rule_B34 u1 x2 x3 y0 M) := by
  intro x2 x3 y0 M
  unfold f_X10_rule_B34
  refine re_istore (lv' := [some (.ref (zA w 74)), some (.int u1), some (.int x2), some (.int x3), some (.int y0)]) X dX10_rule_34 (zlt rfl) rfl ?_
  refine re_iload X dX10_rule_36 rfl ?_
  refine re_if_eq (tgt := 51) X dX10_rule_38 (by decide) (fun _ => ?_) (fun _ => ?_)
  · exact lb_X10_rule_51 X ho x2 x3 y0 M
  · refine re_iload_n X dX10_rule_41 rfl rfl ?_
    refine re_iconst (v := 0) X dX10_rule_42 (by decide) ?_
    refine re_bipush (v := 23) X dX10_rule_43 (by decide) ?_
    refine re_callSz X (lk_X10_in l w x3 0 23) (ca_X10_in (by decide) (by decide)) ml_RX10_184 sm_X10_in rfl rfl rfl (zle rfl) zRo dX10_rule_45 (fun r10 M11 hr10 => ?_)
    refine re_if_eq (tgt := 60) X dX10_rule_48 (by decide) (fun _ => ?_) (fun _ => ?_)
    · refine re_iconst (v := 1) X dX10_rule_60 (by decide) ?_
      exact re_iret X dX10_rule_61
    · exact lb_X10_rule_51 X ho x2 x3 y0 M11

set_option maxRecDepth 100000 in
theorem lb_X10_rule_29 {p : Program} {l : Launch} {e : Env} {s : State} {m : MethodId} {args : Array Value} {below : List Frame} {meth : Method} {c : Code} {w : zWD} {u1 : Int32} (X : zCx p s m args meth c w (zFree w) RX10 cX10_rule 5 (some .int)) (ho : zKd w 74 = (10, 61)) : ∀ (x2 : Int32) (x3 : Int32) (M : zMem), zRm p l e rm_X10_rule s m args below meth c w 1 29 [some (.ref (zA w 74)), some (.int u1), some (.int x2), some (.int x3), none] [] M (f_X10_rule_B29 u1 x2 x3 M) := by
  intro x2 x3 M
  unfold f_X10_rule_B29
  refine re_iconst (v := 1) X dX10_rule_29 (by decide) ?_
  refine re_goto (tgt := 34) X dX10_rule_30 (by decide) ?_
  exact lb_X10_rule_34 X ho x2 x3 1 M

set_option maxRecDepth 100000 in
theorem lk_X10_rule (l : Launch) (w : zWD) (u1 : Int32) (ho : zKd w 74 = (10, 61)) : zMt l w yX10_rule cX10_rule 5 (some .int) rm_X10_rule 1 [.ref (zA w 74), .int u1] (fun M => f_X10_rule u1 M) := by
  refine zMt.of (by decide) [some (.ref (zA w 74)), some (.int u1), none, none, none] rfl (zle rfl) (by intro v hv; simp only [List.mem_cons, List.not_mem_nil, or_false] at hv; rcases hv with rfl | rfl <;> rfl) ?_
  intro p e s m args below meth c X M
  unfold f_X10_rule
  refine re_aload_n X dX10_rule_0 rfl rfl ?_
  refine re_getR X cl_10 (by decide) fl_RX10_49 ho rfl (zR_10_17 ho) dX10_rule_1 ?_
  refine re_iload_n X dX10_rule_4 rfl rfl ?_
  refine re_ck (fun hi1 => ?_)
  refine re_iald X (zQ_10_17 X.clo ho) hi1 (j := zIx u1) rfl dX10_rule_5 ?_
  refine re_istore_n (lv' := [some (.ref (zA w 74)), some (.int u1), some (.int (M 94 (zIx u1))), none, none]) X dX10_rule_6 rfl (zlt rfl) rfl ?_
  refine re_aload_n X dX10_rule_7 rfl rfl ?_
  refine re_getR X cl_10 (by decide) fl_RX10_52 ho rfl (zR_10_18 ho) dX10_rule_8 ?_
  refine re_iload_n X dX10_rule_11 rfl rfl ?_
  refine re_ck (fun hi2 => ?_)
  refine re_iald X (zQ_10_18 X.clo ho) hi2 (j := zIx u1) rfl dX10_rule_12 ?_
  refine re_istore_n (lv' := [some (.ref (zA w 74)), some (.int u1), some (.int (M 94 (zIx u1))), some (.int (M 95 (zIx u1))), none]) X dX10_rule_13 rfl (zlt rfl) rfl ?_
  refine re_iload_n X dX10_rule_14 rfl rfl ?_
  refine re_iconst (v := 3) X dX10_rule_15 (by decide) ?_
  refine re_icmp_lt (tgt := 29) X dX10_rule_16 (by decide) (fun _ => ?_) (fun _ => ?_)
  · exact lb_X10_rule_29 X ho (M 94 (zIx u1)) (M 95 (zIx u1)) M
  · refine re_iload_n X dX10_rule_19 rfl rfl ?_
    refine re_iconst (v := 5) X dX10_rule_20 (by decide) ?_
    refine re_bipush (v := 7) X dX10_rule_21 (by decide) ?_
    refine re_callSz X (lk_X10_in l w (M 94 (zIx u1)) 5 7) (ca_X10_in (by decide) (by decide)) ml_RX10_184 sm_X10_in rfl rfl rfl (zle rfl) zRo dX10_rule_23 (fun r12 M13 hr12 => ?_)
    refine re_if_eq (tgt := 33) X dX10_rule_26 (by decide) (fun _ => ?_) (fun _ => ?_)
    · refine re_iconst (v := 0) X dX10_rule_33 (by decide) ?_
      exact lb_X10_rule_34 X ho (M 94 (zIx u1)) (M 95 (zIx u1)) 0 M13
    · exact lb_X10_rule_29 X ho (M 94 (zIx u1)) (M 95 (zIx u1)) M13
theorem ca_X10_rule {R : Room} (h1 : rm_X10_rule.frames + 1 ≤ R.frames) (h2 : 8 + (5 + 11) + rm_X10_rule.locals ≤ R.locals) : zCa yX10_rule cX10_rule 5 (some .int) rm_X10_rule R 1 := ⟨cd_X10_rule, iz_RX10, ⟨by decide, by decide, by decide⟩, rfl, rfl, h1, h2⟩
/-! DebateHouseModel.moves -/
abbrev rm_X10_moves : Room := { frames := 1, cells := 0, slots := 0, locals := 22 }
def f_X10_moves_B132 (u1 : Int32)  (y0 : Int32) (y1 : Int32) (M : zMem) : zTr := zCk (zIn y1 12) (zLt (zUp M 115 (zIx y1) y0) (fun M26 => zLt (zUp M26 74 39 ((M26 74 39) + 1)) (fun M28 => some (0, M28))))
def f_X10_moves_B106 (u1 : Int32)  (x2 : Int32) (y0 : Int32) (y1 : Int32) (M : zMem) : zTr := zCk (zIn y1 12) (zCk (y0 = 0 ∨ y0 = 1) (zLt (zUp M 117 (zIx y1) y0) (fun M20 => zCk (zIn u1 300) (if (M20 96 (zIx u1)) = 7 then zBd (f_X10_refused u1 M20) (fun r24 M25 => f_X10_moves_B132 u1 r24 x2 M25) else f_X10_moves_B132 u1 (-1) x2 M20))))
def f_X10_moves_B79 (u1 : Int32)  (x2 : Int32) (y0 : Int32) (y1 : Int32) (M : zMem) : zTr := zCk (zIn y1 12) (zCk (y0 = 0 ∨ y0 = 1) (zLt (zUp M 116 (zIx y1) y0) (fun M15 => zCk (zIn u1 300) (zCk (zIn (M15 96 (zIx u1)) 8) (if (M15 87 (zIx (M15 96 (zIx u1)))) = 0 then f_X10_moves_B106 u1 x2 1 x2 M15 else f_X10_moves_B106 u1 x2 0 x2 M15)))))
def f_X10_moves (u1 : Int32) (M : zMem) : zTr := zCk (zIn u1 300) (zCk (zIn (M 74 39) 12) (zLt (zUp M 111 (zIx (M 74 39)) (M 96 (zIx u1))) (fun M2 => zCk (zIn u1 300) (zCk (zIn (M 74 39) 12) (zLt (zUp M2 112 (zIx (M 74 39)) (M2 95 (zIx u1))) (fun M5 => zCk (zIn u1 300) (zCk (zIn (M 74 39) 12) (zLt (zUp M5 113 (zIx (M 74 39)) (M5 97 (zIx u1))) (fun M8 => zCk (zIn u1 300) (zCk (zIn (M 74 39) 12) (zLt (zUp M8 114 (zIx (M 74 39)) (M8 98 (zIx u1))) (fun M11 => zCk (zIn u1 300) (zCk (zIn (M11 96 (zIx u1)) 8) (if (M11 84 (zIx (M11 96 (zIx u1)))) = 0 then f_X10_moves_B79 u1 (M 74 39) 1 (M 74 39) M11 else f_X10_moves_B79 u1 (M 74 39) 0 (M 74 39) M11))))))))))))))
set_option maxRecDepth 100000 in
theorem lb_X10_moves_132 {p : Program} {l : Launch} {e : Env} {s : State} {m : MethodId} {args : Array Value} {below : List Frame} {meth : Method} {c : Code} {w : zWD} {u1 : Int32} (X : zCx p s m args meth c w (zFree w) RX10 cX10_moves 3 none) (ho : zKd w 74 = (10, 61)) : ∀ (y0 : Int32) (y1 : Int32) (M : zMem), zRm p l e rm_X10_moves s m args below meth c w 0 132 [some (.ref (zA w 74)), none, none] [.int y0, .int y1, .ref (zA w 115)] M (f_X10_moves_B132 u1 y0 y1 M) := by
  intro y0 y1 M
  unfold f_X10_moves_B132
  refine re_ck (fun hi27 => ?_)
  refine re_iast X (zQ_10_44 X.clo ho) hi27 (j := zIx y1) rfl dX10_moves_132 (fun M26 => ?_)
  refine re_aload_n X dX10_moves_133 rfl rfl ?_
  refine re_dup X dX10_moves_134 rfl ?_
  refine re_getI X cl_10 (by decide) fl_RX10_293 ho rfl dX10_moves_135 ?_
  refine re_iconst (v := 1) X dX10_moves_138 (by decide) ?_
  refine re_iadd X dX10_moves_139 ?_
  refine re_putI X cl_10 (by decide) fl_RX10_293 ho rfl rfl rfl dX10_moves_140 (fun M28 => ?_)
  exact re_vret X dX10_moves_143

set_option maxRecDepth 100000 in
theorem lb_X10_moves_106 {p : Program} {l : Launch} {e : Env} {s : State} {m : MethodId} {args : Array Value} {below : List Frame} {meth : Method} {c : Code} {w : zWD} {u1 : Int32} (X : zCx p s m args meth c w (zFree w) RX10 cX10_moves 3 none) (ho : zKd w 74 = (10, 61)) : ∀ (x2 : Int32) (y0 : Int32) (y1 : Int32) (M : zMem), zRm p l e rm_X10_moves s m args below meth c w 0 106 [some (.ref (zA w 74)), some (.int u1), some (.int x2)] [.int y0, .int y1, .ref (zA w 117)] M (f_X10_moves_B106 u1 x2 y0 y1 M) := by
  intro x2 y0 y1 M
  unfold f_X10_moves_B106
  refine re_ck (fun hi21 => ?_)
  refine re_ck (fun hz22 => ?_)
  refine re_zast X (zQ_10_46 X.clo ho) hi21 (j := zIx y1) rfl (zNar_b hz22) dX10_moves_106 (fun M20 => ?_)
  refine re_aload_n X dX10_moves_107 rfl rfl ?_
  refine re_getR X cl_10 (by decide) fl_RX10_98 ho rfl (zR_10_44 ho) dX10_moves_108 ?_
  refine re_iload_n X dX10_moves_111 rfl rfl ?_
  refine re_aload_n X dX10_moves_112 rfl rfl ?_
  refine re_getR X cl_10 (by decide) fl_RX10_55 ho rfl (zR_10_19 ho) dX10_moves_113 ?_
  refine re_iload_n X dX10_moves_116 rfl rfl ?_
  refine re_ck (fun hi23 => ?_)
  refine re_iald X (zQ_10_19 X.clo ho) hi23 (j := zIx u1) rfl dX10_moves_117 ?_
  refine re_bipush (v := 7) X dX10_moves_118 (by decide) ?_
  refine re_icmp_ne (tgt := 131) X dX10_moves_120 (by decide) (fun _ => ?_) (fun _ => ?_)
  · refine re_aload_n X dX10_moves_123 rfl rfl ?_
    refine re_iload_n X dX10_moves_124 rfl rfl ?_
    refine re_callVi X (lk_X10_refused l w u1 ho) (ca_X10_refused (by decide) (by decide)) ml_RX10_326 im_X10_refused se_X10_refused cl_10 ho rfl rfl rfl (zle rfl) zRo dX10_moves_125 (fun r24 M25 hr24 => ?_)
    refine re_goto (tgt := 132) X dX10_moves_128 (by decide) ?_
    exact re_sub (lb_X10_moves_132 X ho r24 x2 M25) ⟨rfl, trivial⟩
  · refine re_iconst (v := -1) X dX10_moves_131 (by decide) ?_
    exact re_sub (lb_X10_moves_132 X ho (-1) x2 M20) ⟨rfl, trivial⟩

set_option maxRecDepth 100000 in
theorem lb_X10_moves_79 {p : Program} {l : Launch} {e : Env} {s : State} {m : MethodId} {args : Array Value} {below : List Frame} {meth : Method} {c : Code} {w : zWD} {u1 : Int32} (X : zCx p s m args meth c w (zFree w) RX10 cX10_moves 3 none) (ho : zKd w 74 = (10, 61)) : ∀ (x2 : Int32) (y0 : Int32) (y1 : Int32) (M : zMem), zRm p l e rm_X10_moves s m args below meth c w 0 79 [some (.ref (zA w 74)), some (.int u1), some (.int x2)] [.int y0, .int y1, .ref (zA w 116)] M (f_X10_moves_B79 u1 x2 y0 y1 M) := by
  intro x2 y0 y1 M
  unfold f_X10_moves_B79
  refine re_ck (fun hi16 => ?_)
  refine re_ck (fun hz17 => ?_)
  refine re_zast X (zQ_10_45 X.clo ho) hi16 (j := zIx y1) rfl (zNar_b hz17) dX10_moves_79 (fun M15 => ?_)
  refine re_aload_n X dX10_moves_80 rfl rfl ?_
  refine re_getR X cl_10 (by decide) fl_RX10_104 ho rfl (zR_10_46 ho) dX10_moves_81 ?_
  refine re_iload_n X dX10_moves_84 rfl rfl ?_
  refine re_aload_n X dX10_moves_85 rfl rfl ?_
  refine re_getR X cl_10 (by decide) fl_RX10_30 ho rfl (zR_10_10 ho) dX10_moves_86 ?_
  refine re_iconst (v := 0) X dX10_moves_89 (by decide) ?_
  refine re_aald X (zQ_10_10 X.clo ho) (by decide) (by decide) rfl (rw_86 (by decide)) dX10_moves_90 ?_
  refine re_aload_n X dX10_moves_91 rfl rfl ?_
  refine re_getR X cl_10 (by decide) fl_RX10_55 ho rfl (zR_10_19 ho) dX10_moves_92 ?_
  refine re_iload_n X dX10_moves_95 rfl rfl ?_
  refine re_ck (fun hi18 => ?_)
  refine re_iald X (zQ_10_19 X.clo ho) hi18 (j := zIx u1) rfl dX10_moves_96 ?_
  refine re_ck (fun hi19 => ?_)
  refine re_zald X (rk_86 X.clo (zQ_10_10 X.clo ho) (i := 0) (by decide)) hi19 (j := zIx (M15 96 (zIx u1))) rfl dX10_moves_97 ?_
  refine re_if_ne (tgt := 105) X dX10_moves_98 (by decide) (fun _ => ?_) (fun _ => ?_)
  · refine re_iconst (v := 1) X dX10_moves_101 (by decide) ?_
    refine re_goto (tgt := 106) X dX10_moves_102 (by decide) ?_
    exact lb_X10_moves_106 X ho x2 1 x2 M15
  · refine re_iconst (v := 0) X dX10_moves_105 (by decide) ?_
    exact lb_X10_moves_106 X ho x2 0 x2 M15

set_option maxRecDepth 100000 in
theorem lk_X10_moves (l : Launch) (w : zWD) (u1 : Int32) (ho : zKd w 74 = (10, 61)) : zMt l w yX10_moves cX10_moves 3 none rm_X10_moves 0 [.ref (zA w 74), .int u1] (fun M => f_X10_moves u1 M) := by
  refine zMt.of (by decide) [some (.ref (zA w 74)), some (.int u1), none] rfl (zle rfl) (by intro v hv; simp only [List.mem_cons, List.not_mem_nil, or_false] at hv; rcases hv with rfl | rfl <;> rfl) ?_
  intro p e s m args below meth c X M
  unfold f_X10_moves
  refine re_aload_n X dX10_moves_0 rfl rfl ?_
  refine re_getI X cl_10 (by decide) fl_RX10_293 ho rfl dX10_moves_1 ?_
  refine re_istore_n (lv' := [some (.ref (zA w 74)), some (.int u1), some (.int (M 74 39))]) X dX10_moves_4 rfl (zlt rfl) rfl ?_
  refine re_aload_n X dX10_moves_5 rfl rfl ?_
  refine re_getR X cl_10 (by decide) fl_RX10_86 ho rfl (zR_10_40 ho) dX10_moves_6 ?_
  refine re_iload_n X dX10_moves_9 rfl rfl ?_
  refine re_aload_n X dX10_moves_10 rfl rfl ?_
  refine re_getR X cl_10 (by decide) fl_RX10_55 ho rfl (zR_10_19 ho) dX10_moves_11 ?_
  refine re_iload_n X dX10_moves_14 rfl rfl ?_
  refine re_ck (fun hi1 => ?_)
  refine re_iald X (zQ_10_19 X.clo ho) hi1 (j := zIx u1) rfl dX10_moves_15 ?_
  refine re_ck (fun hi3 => ?_)
  refine re_iast X (zQ_10_40 X.clo ho) hi3 (j := zIx (M 74 39)) rfl dX10_moves_16 (fun M2 => ?_)
  refine re_aload_n X dX10_moves_17 rfl rfl ?_
  refine re_getR X cl_10 (by decide) fl_RX10_89 ho rfl (zR_10_41 ho) dX10_moves_18 ?_
  refine re_iload_n X dX10_moves_21 rfl rfl ?_
  refine re_aload_n X dX10_moves_22 rfl rfl ?_
  refine re_getR X cl_10 (by decide) fl_RX10_52 ho rfl (zR_10_18 ho) dX10_moves_23 ?_
  refine re_iload_n X dX10_moves_26 rfl rfl ?_
  refine re_ck (fun hi4 => ?_)
  refine re_iald X (zQ_10_18 X.clo ho) hi4 (j := zIx u1) rfl dX10_moves_27 ?_
  refine re_ck (fun hi6 => ?_)
  refine re_iast X (zQ_10_41 X.clo ho) hi6 (j := zIx (M 74 39)) rfl dX10_moves_28 (fun M5 => ?_)
  refine re_aload_n X dX10_moves_29 rfl rfl ?_
  refine re_getR X cl_10 (by decide) fl_RX10_92 ho rfl (zR_10_42 ho) dX10_moves_30 ?_
  refine re_iload_n X dX10_moves_33 rfl rfl ?_
  refine re_aload_n X dX10_moves_34 rfl rfl ?_
  refine re_getR X cl_10 (by decide) fl_RX10_58 ho rfl (zR_10_20 ho) dX10_moves_35 ?_
  refine re_iload_n X dX10_moves_38 rfl rfl ?_
  refine re_ck (fun hi7 => ?_)
  refine re_iald X (zQ_10_20 X.clo ho) hi7 (j := zIx u1) rfl dX10_moves_39 ?_
  refine re_ck (fun hi9 => ?_)
  refine re_iast X (zQ_10_42 X.clo ho) hi9 (j := zIx (M 74 39)) rfl dX10_moves_40 (fun M8 => ?_)
  refine re_aload_n X dX10_moves_41 rfl rfl ?_
  refine re_getR X cl_10 (by decide) fl_RX10_95 ho rfl (zR_10_43 ho) dX10_moves_42 ?_
  refine re_iload_n X dX10_moves_45 rfl rfl ?_
  refine re_aload_n X dX10_moves_46 rfl rfl ?_
  refine re_getR X cl_10 (by decide) fl_RX10_61 ho rfl (zR_10_21 ho) dX10_moves_47 ?_
  refine re_iload_n X dX10_moves_50 rfl rfl ?_
  refine re_ck (fun hi10 => ?_)
  refine re_iald X (zQ_10_21 X.clo ho) hi10 (j := zIx u1) rfl dX10_moves_51 ?_
  refine re_ck (fun hi12 => ?_)
  refine re_iast X (zQ_10_43 X.clo ho) hi12 (j := zIx (M 74 39)) rfl dX10_moves_52 (fun M11 => ?_)
  refine re_aload_n X dX10_moves_53 rfl rfl ?_
  refine re_getR X cl_10 (by decide) fl_RX10_101 ho rfl (zR_10_45 ho) dX10_moves_54 ?_
  refine re_iload_n X dX10_moves_57 rfl rfl ?_
  refine re_aload_n X dX10_moves_58 rfl rfl ?_
  refine re_getR X cl_10 (by decide) fl_RX10_27 ho rfl (zR_10_9 ho) dX10_moves_59 ?_
  refine re_iconst (v := 0) X dX10_moves_62 (by decide) ?_
  refine re_aald X (zQ_10_9 X.clo ho) (by decide) (by decide) rfl (rw_83 (by decide)) dX10_moves_63 ?_
  refine re_aload_n X dX10_moves_64 rfl rfl ?_
  refine re_getR X cl_10 (by decide) fl_RX10_55 ho rfl (zR_10_19 ho) dX10_moves_65 ?_
  refine re_iload_n X dX10_moves_68 rfl rfl ?_
  refine re_ck (fun hi13 => ?_)
  refine re_iald X (zQ_10_19 X.clo ho) hi13 (j := zIx u1) rfl dX10_moves_69 ?_
  refine re_ck (fun hi14 => ?_)
  refine re_zald X (rk_83 X.clo (zQ_10_9 X.clo ho) (i := 0) (by decide)) hi14 (j := zIx (M11 96 (zIx u1))) rfl dX10_moves_70 ?_
  refine re_if_ne (tgt := 78) X dX10_moves_71 (by decide) (fun _ => ?_) (fun _ => ?_)
  · refine re_iconst (v := 1) X dX10_moves_74 (by decide) ?_
    refine re_goto (tgt := 79) X dX10_moves_75 (by decide) ?_
    exact lb_X10_moves_79 X ho (M 74 39) 1 (M 74 39) M11
  · refine re_iconst (v := 0) X dX10_moves_78 (by decide) ?_
    exact lb_X10_moves_79 X ho (M 74 39) 0 (M 74 39) M11
theorem ca_X10_moves {R : Room} (h1 : rm_X10_moves.frames + 1 ≤ R.frames) (h2 : 8 + (3 + 11) + rm_X10_moves.locals ≤ R.locals) : zCa yX10_moves cX10_moves 3 none rm_X10_moves R 1 := ⟨cd_X10_moves, iz_RX10, ⟨by decide, by decide, by decide⟩, rfl, rfl, h1, h2⟩
/-! DebateHouseModel.many -/
abbrev rm_X10_many : Room := { frames := 0, cells := 0, slots := 0, locals := 0 }
def f_X10_many_L4 (u1 : Int32)  : Nat → Int32 → Int32 → zMem → zTr
  | 0, _, _, _ => none
  | n + 1, x1, x2, M => if 24 ≤ x2 then some (x1, M) else f_X10_many_L4 u1 n (x1 + ((u1 >>> (x2 &&& 31)) &&& 1)) (x2 + 1) M
def f_X10_many (u1 : Int32) (M : zMem) : zTr := f_X10_many_L4 u1 zFu 0 0 M
set_option maxRecDepth 100000 in
theorem lb_X10_many_4 {p : Program} {l : Launch} {e : Env} {s : State} {m : MethodId} {args : Array Value} {below : List Frame} {meth : Method} {c : Code} {w : zWD} {u1 : Int32} (X : zCx p s m args meth c w (zFree w) RX10 cX10_many 3 (some .int))  : ∀ (n : Nat) (x1 : Int32) (x2 : Int32) (M : zMem), zRm p l e rm_X10_many s m args below meth c w 1 4 [some (.int u1), some (.int x1), some (.int x2)] [] M (f_X10_many_L4 u1 n x1 x2 M) := by
  intro n
  induction n with
  | zero => intro x1 x2 M; exact re_none
  | succ n ih =>
    intro x1 x2 M
    rw [f_X10_many_L4]
    refine re_iload_n X dX10_many_4 rfl rfl ?_
    refine re_bipush (v := 24) X dX10_many_5 (by decide) ?_
    refine re_icmp_ge (tgt := 24) X dX10_many_7 (by decide) (fun _ => ?_) (fun _ => ?_)
    · refine re_iload_n X dX10_many_24 rfl rfl ?_
      exact re_iret X dX10_many_25
    · refine re_iload_n X dX10_many_10 rfl rfl ?_
      refine re_iload_n X dX10_many_11 rfl rfl ?_
      refine re_iload_n X dX10_many_12 rfl rfl ?_
      refine re_ishr X dX10_many_13 ?_
      refine re_iconst (v := 1) X dX10_many_14 (by decide) ?_
      refine re_iand X dX10_many_15 ?_
      refine re_iadd X dX10_many_16 ?_
      refine re_istore_n (lv' := [some (.int u1), some (.int (x1 + ((u1 >>> (x2 &&& 31)) &&& 1))), some (.int x2)]) X dX10_many_17 rfl (zlt rfl) rfl ?_
      refine re_iinc (v := 1) (lv' := [some (.int u1), some (.int (x1 + ((u1 >>> (x2 &&& 31)) &&& 1))), some (.int (x2 + 1))]) X dX10_many_18 rfl (by decide) rfl ?_
      refine re_goto (tgt := 4) X dX10_many_21 (by decide) ?_
      exact ih (x1 + ((u1 >>> (x2 &&& 31)) &&& 1)) (x2 + 1) M

set_option maxRecDepth 100000 in
theorem lk_X10_many (l : Launch) (w : zWD) (u1 : Int32)  : zMt l w yX10_many cX10_many 3 (some .int) rm_X10_many 1 [.int u1] (fun M => f_X10_many u1 M) := by
  refine zMt.of (by decide) [some (.int u1), none, none] rfl (zle rfl) (by intro v hv; simp only [List.mem_cons, List.not_mem_nil, or_false] at hv; rcases hv with rfl <;> rfl) ?_
  intro p e s m args below meth c X M
  unfold f_X10_many
  refine re_iconst (v := 0) X dX10_many_0 (by decide) ?_
  refine re_istore_n (lv' := [some (.int u1), some (.int 0), none]) X dX10_many_1 rfl (zlt rfl) rfl ?_
  refine re_iconst (v := 0) X dX10_many_2 (by decide) ?_
  refine re_istore_n (lv' := [some (.int u1), some (.int 0), some (.int 0)]) X dX10_many_3 rfl (zlt rfl) rfl ?_
  exact lb_X10_many_4 X zFu 0 0 M
theorem ca_X10_many {R : Room} (h1 : rm_X10_many.frames + 1 ≤ R.frames) (h2 : 8 + (3 + 11) + rm_X10_many.locals ≤ R.locals) : zCa yX10_many cX10_many 3 (some .int) rm_X10_many R 1 := ⟨cd_X10_many, iz_RX10, ⟨by decide, by decide, by decide⟩, rfl, rfl, h1, h2⟩
/-! DebateHouseModel.isPassing -/
abbrev rm_X10_isPassing : Room := { frames := 1, cells := 0, slots := 0, locals := 22 }
def f_X10_isPassing (u1 : Int32) (u2 : Int32) (M : zMem) : zTr := zBd (f_X10_many u1 M) (fun r1 M2 => zBd (f_X10_many u2 M2) (fun r3 M4 => zCk (zIn ((M4 74 39) - 1) 12) (zCk (zIn (M4 111 (zIx ((M4 74 39) - 1))) 8) (if (M4 81 (zIx (M4 111 (zIx ((M4 74 39) - 1))))) = 0 then (if (2 * r1) ≤ (r1 + r3) then some (0, M4) else some (1, M4)) else if (M4 81 (zIx (M4 111 (zIx ((M4 74 39) - 1))))) = 1 then (if r1 ≤ 0 then some (0, M4) else if (3 * r1) < (2 * (r1 + r3)) then some (0, M4) else some (1, M4)) else if (4 * r1) ≤ (r1 + r3) then some (0, M4) else some (1, M4)))))
set_option maxRecDepth 100000 in
theorem lk_X10_isPassing (l : Launch) (w : zWD) (u1 : Int32) (u2 : Int32) (ho : zKd w 74 = (10, 61)) : zMt l w yX10_isPassing cX10_isPassing 6 (some .boolean) rm_X10_isPassing 2 [.ref (zA w 74), .int u1, .int u2] (fun M => f_X10_isPassing u1 u2 M) := by
  refine zMt.of (by decide) [some (.ref (zA w 74)), some (.int u1), some (.int u2), none, none, none] rfl (zle rfl) (by intro v hv; simp only [List.mem_cons, List.not_mem_nil, or_false] at hv; rcases hv with rfl | rfl | rfl <;> rfl) ?_
  intro p e s m args below meth c X M
  unfold f_X10_isPassing
  refine re_iload_n X dX10_isPassing_0 rfl rfl ?_
  refine re_callSi X (lk_X10_many l w u1) (ca_X10_many (by decide) (by decide)) ml_RX10_356 sm_X10_many rfl rfl rfl (zle rfl) zRo dX10_isPassing_1 (fun r1 M2 hr1 => ?_)
  refine re_istore_n (lv' := [some (.ref (zA w 74)), some (.int u1), some (.int u2), some (.int r1), none, none]) X dX10_isPassing_4 rfl (zlt rfl) rfl ?_
  refine re_iload_n X dX10_isPassing_5 rfl rfl ?_
  refine re_iload_n X dX10_isPassing_6 rfl rfl ?_
  refine re_callSi X (lk_X10_many l w u2) (ca_X10_many (by decide) (by decide)) ml_RX10_356 sm_X10_many rfl rfl rfl (zle rfl) zRo dX10_isPassing_7 (fun r3 M4 hr3 => ?_)
  refine re_iadd X dX10_isPassing_10 ?_
  refine re_istore (lv' := [some (.ref (zA w 74)), some (.int u1), some (.int u2), some (.int r1), some (.int (r1 + r3)), none]) X dX10_isPassing_11 (zlt rfl) rfl ?_
  refine re_aload_n X dX10_isPassing_13 rfl rfl ?_
  refine re_getR X cl_10 (by decide) fl_RX10_22 ho rfl (zR_10_8 ho) dX10_isPassing_14 ?_
  refine re_iconst (v := 0) X dX10_isPassing_17 (by decide) ?_
  refine re_aald X (zQ_10_8 X.clo ho) (by decide) (by decide) rfl (rw_80 (by decide)) dX10_isPassing_18 ?_
  refine re_aload_n X dX10_isPassing_19 rfl rfl ?_
  refine re_getR X cl_10 (by decide) fl_RX10_86 ho rfl (zR_10_40 ho) dX10_isPassing_20 ?_
  refine re_aload_n X dX10_isPassing_23 rfl rfl ?_
  refine re_getI X cl_10 (by decide) fl_RX10_293 ho rfl dX10_isPassing_24 ?_
  refine re_iconst (v := 1) X dX10_isPassing_27 (by decide) ?_
  refine re_isub X dX10_isPassing_28 ?_
  refine re_ck (fun hi5 => ?_)
  refine re_iald X (zQ_10_40 X.clo ho) hi5 (j := zIx ((M4 74 39) - 1)) rfl dX10_isPassing_29 ?_
  refine re_ck (fun hi6 => ?_)
  refine re_iald X (rk_80 X.clo (zQ_10_8 X.clo ho) (i := 0) (by decide)) hi6 (j := zIx (M4 111 (zIx ((M4 74 39) - 1)))) rfl dX10_isPassing_30 ?_
  refine re_istore (lv' := [some (.ref (zA w 74)), some (.int u1), some (.int u2), some (.int r1), some (.int (r1 + r3)), some (.int (M4 81 (zIx (M4 111 (zIx ((M4 74 39) - 1))))))]) X dX10_isPassing_31 (zlt rfl) rfl ?_
  refine re_iload X dX10_isPassing_33 rfl ?_
  refine re_if_ne (tgt := 54) X dX10_isPassing_35 (by decide) (fun _ => ?_) (fun _ => ?_)
  · refine re_iconst (v := 2) X dX10_isPassing_38 (by decide) ?_
    refine re_iload_n X dX10_isPassing_39 rfl rfl ?_
    refine re_imul X dX10_isPassing_40 ?_
    refine re_iload X dX10_isPassing_41 rfl ?_
    refine re_icmp_le (tgt := 50) X dX10_isPassing_43 (by decide) (fun _ => ?_) (fun _ => ?_)
    · refine re_iconst (v := 0) X dX10_isPassing_50 (by decide) ?_
      refine re_goto (tgt := 95) X dX10_isPassing_51 (by decide) ?_
      exact re_zret X (Or.inl rfl) dX10_isPassing_95
    · refine re_iconst (v := 1) X dX10_isPassing_46 (by decide) ?_
      refine re_goto (tgt := 95) X dX10_isPassing_47 (by decide) ?_
      exact re_zret X (Or.inr rfl) dX10_isPassing_95
  · refine re_iload X dX10_isPassing_54 rfl ?_
    refine re_iconst (v := 1) X dX10_isPassing_56 (by decide) ?_
    refine re_icmp_ne (tgt := 82) X dX10_isPassing_57 (by decide) (fun _ => ?_) (fun _ => ?_)
    · refine re_iload_n X dX10_isPassing_60 rfl rfl ?_
      refine re_if_le (tgt := 78) X dX10_isPassing_61 (by decide) (fun _ => ?_) (fun _ => ?_)
      · refine re_iconst (v := 0) X dX10_isPassing_78 (by decide) ?_
        refine re_goto (tgt := 95) X dX10_isPassing_79 (by decide) ?_
        exact re_zret X (Or.inl rfl) dX10_isPassing_95
      · refine re_iconst (v := 3) X dX10_isPassing_64 (by decide) ?_
        refine re_iload_n X dX10_isPassing_65 rfl rfl ?_
        refine re_imul X dX10_isPassing_66 ?_
        refine re_iconst (v := 2) X dX10_isPassing_67 (by decide) ?_
        refine re_iload X dX10_isPassing_68 rfl ?_
        refine re_imul X dX10_isPassing_70 ?_
        refine re_icmp_lt (tgt := 78) X dX10_isPassing_71 (by decide) (fun _ => ?_) (fun _ => ?_)
        · refine re_iconst (v := 0) X dX10_isPassing_78 (by decide) ?_
          refine re_goto (tgt := 95) X dX10_isPassing_79 (by decide) ?_
          exact re_zret X (Or.inl rfl) dX10_isPassing_95
        · refine re_iconst (v := 1) X dX10_isPassing_74 (by decide) ?_
          refine re_goto (tgt := 95) X dX10_isPassing_75 (by decide) ?_
          exact re_zret X (Or.inr rfl) dX10_isPassing_95
    · refine re_iconst (v := 4) X dX10_isPassing_82 (by decide) ?_
      refine re_iload_n X dX10_isPassing_83 rfl rfl ?_
      refine re_imul X dX10_isPassing_84 ?_
      refine re_iload X dX10_isPassing_85 rfl ?_
      refine re_icmp_le (tgt := 94) X dX10_isPassing_87 (by decide) (fun _ => ?_) (fun _ => ?_)
      · refine re_iconst (v := 0) X dX10_isPassing_94 (by decide) ?_
        exact re_zret X (Or.inl rfl) dX10_isPassing_95
      · refine re_iconst (v := 1) X dX10_isPassing_90 (by decide) ?_
        refine re_goto (tgt := 95) X dX10_isPassing_91 (by decide) ?_
        exact re_zret X (Or.inr rfl) dX10_isPassing_95
theorem ca_X10_isPassing {R : Room} (h1 : rm_X10_isPassing.frames + 1 ≤ R.frames) (h2 : 8 + (6 + 11) + rm_X10_isPassing.locals ≤ R.locals) : zCa yX10_isPassing cX10_isPassing 6 (some .boolean) rm_X10_isPassing R 2 := ⟨cd_X10_isPassing, iz_RX10, ⟨by decide, by decide, by decide⟩, rfl, rfl, h1, h2⟩
/-! DebateHouseModel.papers -/
abbrev rm_X10_papers : Room := { frames := 0, cells := 0, slots := 0, locals := 0 }
def f_X10_papers_L20 (u1 : Int32) (u2 : Int32)  : Nat → Int32 → zMem → zTr
  | 0, _, _ => none
  | n + 1, x3, M => if (M 74 49) ≤ x3 then some (0, M) else zCk (zIn x3 60) (zLt (zUp M 119 (zIx x3) x3) (fun M4 => zCk (zIn x3 60) (zLt (zUp M4 120 (zIx x3) (u2 + x3)) (fun M6 => f_X10_papers_L20 u1 u2 n (x3 + 1) M6))))
def f_X10_papers (u1 : Int32) (u2 : Int32) (M : zMem) : zTr := zLt (zUp M 74 48 1) (fun M1 => zLt (zUp M1 74 49 u1) (fun M2 => zLt (zUp M2 74 50 (M2 74 49)) (fun M3 => f_X10_papers_L20 u1 u2 zFu 0 M3)))
set_option maxRecDepth 100000 in
theorem lb_X10_papers_20 {p : Program} {l : Launch} {e : Env} {s : State} {m : MethodId} {args : Array Value} {below : List Frame} {meth : Method} {c : Code} {w : zWD} {u1 : Int32} {u2 : Int32} (X : zCx p s m args meth c w (zFree w) RX10 cX10_papers 4 none) (ho : zKd w 74 = (10, 61)) : ∀ (n : Nat) (x3 : Int32) (M : zMem), zRm p l e rm_X10_papers s m args below meth c w 0 20 [some (.ref (zA w 74)), none, some (.int u2), some (.int x3)] [] M (f_X10_papers_L20 u1 u2 n x3 M) := by
  intro n
  induction n with
  | zero => intro x3 M; exact re_none
  | succ n ih =>
    intro x3 M
    rw [f_X10_papers_L20]
    refine re_iload_n X dX10_papers_20 rfl rfl ?_
    refine re_aload_n X dX10_papers_21 rfl rfl ?_
    refine re_getI X cl_10 (by decide) fl_RX10_299 ho rfl dX10_papers_22 ?_
    refine re_icmp_ge (tgt := 50) X dX10_papers_25 (by decide) (fun _ => ?_) (fun _ => ?_)
    · exact re_vret X dX10_papers_50
    · refine re_aload_n X dX10_papers_28 rfl rfl ?_
      refine re_getR X cl_10 (by decide) fl_RX10_110 ho rfl (zR_10_51 ho) dX10_papers_29 ?_
      refine re_iload_n X dX10_papers_32 rfl rfl ?_
      refine re_iload_n X dX10_papers_33 rfl rfl ?_
      refine re_ck (fun hi5 => ?_)
      refine re_iast X (zQ_10_51 X.clo ho) hi5 (j := zIx x3) rfl dX10_papers_34 (fun M4 => ?_)
      refine re_aload_n X dX10_papers_35 rfl rfl ?_
      refine re_getR X cl_10 (by decide) fl_RX10_113 ho rfl (zR_10_52 ho) dX10_papers_36 ?_
      refine re_iload_n X dX10_papers_39 rfl rfl ?_
      refine re_iload_n X dX10_papers_40 rfl rfl ?_
      refine re_iload_n X dX10_papers_41 rfl rfl ?_
      refine re_iadd X dX10_papers_42 ?_
      refine re_ck (fun hi7 => ?_)
      refine re_iast X (zQ_10_52 X.clo ho) hi7 (j := zIx x3) rfl dX10_papers_43 (fun M6 => ?_)
      refine re_iinc (v := 1) (lv' := [some (.ref (zA w 74)), none, some (.int u2), some (.int (x3 + 1))]) X dX10_papers_44 rfl (by decide) rfl ?_
      refine re_goto (tgt := 20) X dX10_papers_47 (by decide) ?_
      exact ih (x3 + 1) M6

set_option maxRecDepth 100000 in
theorem lk_X10_papers (l : Launch) (w : zWD) (u1 : Int32) (u2 : Int32) (ho : zKd w 74 = (10, 61)) : zMt l w yX10_papers cX10_papers 4 none rm_X10_papers 0 [.ref (zA w 74), .int u1, .int u2] (fun M => f_X10_papers u1 u2 M) := by
  refine zMt.of (by decide) [some (.ref (zA w 74)), some (.int u1), some (.int u2), none] rfl (zle rfl) (by intro v hv; simp only [List.mem_cons, List.not_mem_nil, or_false] at hv; rcases hv with rfl | rfl | rfl <;> rfl) ?_
  intro p e s m args below meth c X M
  unfold f_X10_papers
  refine re_aload_n X dX10_papers_0 rfl rfl ?_
  refine re_iconst (v := 1) X dX10_papers_1 (by decide) ?_
  refine re_putZ X cl_10 (by decide) fl_RX10_296 ho rfl rfl rfl (Or.inr rfl) dX10_papers_2 (fun M1 => ?_)
  refine re_aload_n X dX10_papers_5 rfl rfl ?_
  refine re_iload_n X dX10_papers_6 rfl rfl ?_
  refine re_putI X cl_10 (by decide) fl_RX10_299 ho rfl rfl rfl dX10_papers_7 (fun M2 => ?_)
  refine re_aload_n X dX10_papers_10 rfl rfl ?_
  refine re_aload_n X dX10_papers_11 rfl rfl ?_
  refine re_getI X cl_10 (by decide) fl_RX10_299 ho rfl dX10_papers_12 ?_
  refine re_putI X cl_10 (by decide) fl_RX10_302 ho rfl rfl rfl dX10_papers_15 (fun M3 => ?_)
  refine re_iconst (v := 0) X dX10_papers_18 (by decide) ?_
  refine re_istore_n (lv' := [some (.ref (zA w 74)), some (.int u1), some (.int u2), some (.int 0)]) X dX10_papers_19 rfl (zlt rfl) rfl ?_
  exact re_sub (lb_X10_papers_20 X ho zFu 0 M3) ⟨rfl, ⟨rfl, ⟨rfl, trivial⟩⟩⟩
theorem ca_X10_papers {R : Room} (h1 : rm_X10_papers.frames + 1 ≤ R.frames) (h2 : 8 + (4 + 11) + rm_X10_papers.locals ≤ R.locals) : zCa yX10_papers cX10_papers 4 none rm_X10_papers R 2 := ⟨cd_X10_papers, iz_RX10, ⟨by decide, by decide, by decide⟩, rfl, rfl, h1, h2⟩
/-! DebateHouseModel.behindGone -/
abbrev rm_X10_behindGone : Room := { frames := 1, cells := 0, slots := 0, locals := 22 }
def f_X10_behindGone_L9 (u1 : Int32)  : Nat → Int32 → zMem → zTr
  | 0, _, _ => none
  | n + 1, x2, M => if x2 < 0 then some (0, M) else zCk (zIn u1 400) (zCk (zIn x2 60) (zBd (f_X10_placeOf (M (141 + zIx u1) (zIx x2)) M) (fun r4 M5 => if r4 = (-1) then f_X10_behindGone_L9 u1 n (x2 + (-1)) M5 else some (r4 + 1, M5))))
def f_X10_behindGone (u1 : Int32) (M : zMem) : zTr := zCk (zIn u1 400) (f_X10_behindGone_L9 u1 zFu ((M 121 (zIx u1)) - 1) M)
set_option maxRecDepth 100000 in
theorem lb_X10_behindGone_9 {p : Program} {l : Launch} {e : Env} {s : State} {m : MethodId} {args : Array Value} {below : List Frame} {meth : Method} {c : Code} {w : zWD} {u1 : Int32} (X : zCx p s m args meth c w (zFree w) RX10 cX10_behindGone 4 (some .int)) (ho : zKd w 74 = (10, 61)) : ∀ (n : Nat) (x2 : Int32) (M : zMem), zRm p l e rm_X10_behindGone s m args below meth c w 1 9 [some (.ref (zA w 74)), some (.int u1), some (.int x2), none] [] M (f_X10_behindGone_L9 u1 n x2 M) := by
  intro n
  induction n with
  | zero => intro x2 M; exact re_none
  | succ n ih =>
    intro x2 M
    rw [f_X10_behindGone_L9]
    refine re_iload_n X dX10_behindGone_9 rfl rfl ?_
    refine re_if_lt (tgt := 41) X dX10_behindGone_10 (by decide) (fun _ => ?_) (fun _ => ?_)
    · refine re_iconst (v := 0) X dX10_behindGone_41 (by decide) ?_
      exact re_iret X dX10_behindGone_42
    · refine re_aload_n X dX10_behindGone_13 rfl rfl ?_
      refine re_aload_n X dX10_behindGone_14 rfl rfl ?_
      refine re_getR X cl_10 (by decide) fl_RX10_119 ho rfl (zR_10_54 ho) dX10_behindGone_15 ?_
      refine re_iload_n X dX10_behindGone_18 rfl rfl ?_
      refine re_ck (fun hi2 => ?_)
      refine re_aald X (zQ_10_54 X.clo ho) (by decide) hi2 rfl (rw_140 (zIx_lt hi2)) dX10_behindGone_19 ?_
      refine re_iload_n X dX10_behindGone_20 rfl rfl ?_
      refine re_ck (fun hi3 => ?_)
      refine re_iald X (rk_140 X.clo (zQ_10_54 X.clo ho) (zIx_lt hi2)) hi3 (j := zIx x2) rfl dX10_behindGone_21 ?_
      refine re_callVi X (lk_X10_placeOf l w (M (141 + zIx u1) (zIx x2)) ho) (ca_X10_placeOf (by decide) (by decide)) ml_RX10_333 im_X10_placeOf se_X10_placeOf cl_10 ho rfl rfl rfl (zle rfl) zRo dX10_behindGone_22 (fun r4 M5 hr4 => ?_)
      refine re_istore_n (lv' := [some (.ref (zA w 74)), some (.int u1), some (.int x2), some (.int r4)]) X dX10_behindGone_25 rfl (zlt rfl) rfl ?_
      refine re_iload_n X dX10_behindGone_26 rfl rfl ?_
      refine re_iconst (v := -1) X dX10_behindGone_27 (by decide) ?_
      refine re_icmp_eq (tgt := 35) X dX10_behindGone_28 (by decide) (fun _ => ?_) (fun _ => ?_)
      · refine re_iinc (v := -1) (lv' := [some (.ref (zA w 74)), some (.int u1), some (.int (x2 + (-1))), some (.int r4)]) X dX10_behindGone_35 rfl (by decide) rfl ?_
        refine re_goto (tgt := 9) X dX10_behindGone_38 (by decide) ?_
        exact re_sub (ih (x2 + (-1)) M5) ⟨rfl, ⟨rfl, ⟨rfl, trivial⟩⟩⟩
      · refine re_iload_n X dX10_behindGone_31 rfl rfl ?_
        refine re_iconst (v := 1) X dX10_behindGone_32 (by decide) ?_
        refine re_iadd X dX10_behindGone_33 ?_
        exact re_iret X dX10_behindGone_34

set_option maxRecDepth 100000 in
theorem lk_X10_behindGone (l : Launch) (w : zWD) (u1 : Int32) (ho : zKd w 74 = (10, 61)) : zMt l w yX10_behindGone cX10_behindGone 4 (some .int) rm_X10_behindGone 1 [.ref (zA w 74), .int u1] (fun M => f_X10_behindGone u1 M) := by
  refine zMt.of (by decide) [some (.ref (zA w 74)), some (.int u1), none, none] rfl (zle rfl) (by intro v hv; simp only [List.mem_cons, List.not_mem_nil, or_false] at hv; rcases hv with rfl | rfl <;> rfl) ?_
  intro p e s m args below meth c X M
  unfold f_X10_behindGone
  refine re_aload_n X dX10_behindGone_0 rfl rfl ?_
  refine re_getR X cl_10 (by decide) fl_RX10_116 ho rfl (zR_10_53 ho) dX10_behindGone_1 ?_
  refine re_iload_n X dX10_behindGone_4 rfl rfl ?_
  refine re_ck (fun hi1 => ?_)
  refine re_iald X (zQ_10_53 X.clo ho) hi1 (j := zIx u1) rfl dX10_behindGone_5 ?_
  refine re_iconst (v := 1) X dX10_behindGone_6 (by decide) ?_
  refine re_isub X dX10_behindGone_7 ?_
  refine re_istore_n (lv' := [some (.ref (zA w 74)), some (.int u1), some (.int ((M 121 (zIx u1)) - 1)), none]) X dX10_behindGone_8 rfl (zlt rfl) rfl ?_
  exact lb_X10_behindGone_9 X ho zFu ((M 121 (zIx u1)) - 1) M
theorem ca_X10_behindGone {R : Room} (h1 : rm_X10_behindGone.frames + 1 ≤ R.frames) (h2 : 8 + (4 + 11) + rm_X10_behindGone.locals ≤ R.locals) : zCa yX10_behindGone cX10_behindGone 4 (some .int) rm_X10_behindGone R 1 := ⟨cd_X10_behindGone, iz_RX10, ⟨by decide, by decide, by decide⟩, rfl, rfl, h1, h2⟩
/-! DebateHouseModel.adds -/
abbrev rm_X10_adds : Room := { frames := 0, cells := 0, slots := 0, locals := 0 }
def f_X10_adds_B44 (u1 : Int32) (u2 : Int32)  (M : zMem) : zTr := zCk (zIn u1 60) (zLt (zUp M 119 (zIx u1) (M 74 50)) (fun M1 => zCk (zIn u1 60) (zLt (zUp M1 120 (zIx u1) u2) (fun M3 => zLt (zUp M3 74 50 ((M3 74 50) + 1)) (fun M5 => zLt (zUp M5 74 49 ((M5 74 49) + 1)) (fun M6 => some (0, M6)))))))
def f_X10_adds_L5 (u1 : Int32) (u2 : Int32)  : Nat → Int32 → zMem → zTr
  | 0, _, _ => none
  | n + 1, x3, M => if x3 ≤ u1 then f_X10_adds_B44 u1 u2 M else zCk (zIn (x3 - 1) 60) (zCk (zIn x3 60) (zLt (zUp M 119 (zIx x3) (M 119 (zIx (x3 - 1)))) (fun M8 => zCk (zIn (x3 - 1) 60) (zCk (zIn x3 60) (zLt (zUp M8 120 (zIx x3) (M8 120 (zIx (x3 - 1)))) (fun M11 => f_X10_adds_L5 u1 u2 n (x3 + (-1)) M11))))))
def f_X10_adds (u1 : Int32) (u2 : Int32) (M : zMem) : zTr := f_X10_adds_L5 u1 u2 zFu (M 74 49) M
set_option maxRecDepth 100000 in
theorem lb_X10_adds_44 {p : Program} {l : Launch} {e : Env} {s : State} {m : MethodId} {args : Array Value} {below : List Frame} {meth : Method} {c : Code} {w : zWD} {u1 : Int32} {u2 : Int32} (X : zCx p s m args meth c w (zFree w) RX10 cX10_adds 4 none) (ho : zKd w 74 = (10, 61)) : ∀ (M : zMem), zRm p l e rm_X10_adds s m args below meth c w 0 44 [some (.ref (zA w 74)), some (.int u1), some (.int u2), none] [] M (f_X10_adds_B44 u1 u2 M) := by
  intro M
  unfold f_X10_adds_B44
  refine re_aload_n X dX10_adds_44 rfl rfl ?_
  refine re_getR X cl_10 (by decide) fl_RX10_110 ho rfl (zR_10_51 ho) dX10_adds_45 ?_
  refine re_iload_n X dX10_adds_48 rfl rfl ?_
  refine re_aload_n X dX10_adds_49 rfl rfl ?_
  refine re_getI X cl_10 (by decide) fl_RX10_302 ho rfl dX10_adds_50 ?_
  refine re_ck (fun hi2 => ?_)
  refine re_iast X (zQ_10_51 X.clo ho) hi2 (j := zIx u1) rfl dX10_adds_53 (fun M1 => ?_)
  refine re_aload_n X dX10_adds_54 rfl rfl ?_
  refine re_getR X cl_10 (by decide) fl_RX10_113 ho rfl (zR_10_52 ho) dX10_adds_55 ?_
  refine re_iload_n X dX10_adds_58 rfl rfl ?_
  refine re_iload_n X dX10_adds_59 rfl rfl ?_
  refine re_ck (fun hi4 => ?_)
  refine re_iast X (zQ_10_52 X.clo ho) hi4 (j := zIx u1) rfl dX10_adds_60 (fun M3 => ?_)
  refine re_aload_n X dX10_adds_61 rfl rfl ?_
  refine re_dup X dX10_adds_62 rfl ?_
  refine re_getI X cl_10 (by decide) fl_RX10_302 ho rfl dX10_adds_63 ?_
  refine re_iconst (v := 1) X dX10_adds_66 (by decide) ?_
  refine re_iadd X dX10_adds_67 ?_
  refine re_putI X cl_10 (by decide) fl_RX10_302 ho rfl rfl rfl dX10_adds_68 (fun M5 => ?_)
  refine re_aload_n X dX10_adds_71 rfl rfl ?_
  refine re_dup X dX10_adds_72 rfl ?_
  refine re_getI X cl_10 (by decide) fl_RX10_299 ho rfl dX10_adds_73 ?_
  refine re_iconst (v := 1) X dX10_adds_76 (by decide) ?_
  refine re_iadd X dX10_adds_77 ?_
  refine re_putI X cl_10 (by decide) fl_RX10_299 ho rfl rfl rfl dX10_adds_78 (fun M6 => ?_)
  exact re_vret X dX10_adds_81

set_option maxRecDepth 100000 in
theorem lb_X10_adds_5 {p : Program} {l : Launch} {e : Env} {s : State} {m : MethodId} {args : Array Value} {below : List Frame} {meth : Method} {c : Code} {w : zWD} {u1 : Int32} {u2 : Int32} (X : zCx p s m args meth c w (zFree w) RX10 cX10_adds 4 none) (ho : zKd w 74 = (10, 61)) : ∀ (n : Nat) (x3 : Int32) (M : zMem), zRm p l e rm_X10_adds s m args below meth c w 0 5 [some (.ref (zA w 74)), some (.int u1), some (.int u2), some (.int x3)] [] M (f_X10_adds_L5 u1 u2 n x3 M) := by
  intro n
  induction n with
  | zero => intro x3 M; exact re_none
  | succ n ih =>
    intro x3 M
    rw [f_X10_adds_L5]
    refine re_iload_n X dX10_adds_5 rfl rfl ?_
    refine re_iload_n X dX10_adds_6 rfl rfl ?_
    refine re_icmp_le (tgt := 44) X dX10_adds_7 (by decide) (fun _ => ?_) (fun _ => ?_)
    · exact re_sub (lb_X10_adds_44 X ho M) ⟨rfl, ⟨rfl, ⟨rfl, trivial⟩⟩⟩
    · refine re_aload_n X dX10_adds_10 rfl rfl ?_
      refine re_getR X cl_10 (by decide) fl_RX10_110 ho rfl (zR_10_51 ho) dX10_adds_11 ?_
      refine re_iload_n X dX10_adds_14 rfl rfl ?_
      refine re_aload_n X dX10_adds_15 rfl rfl ?_
      refine re_getR X cl_10 (by decide) fl_RX10_110 ho rfl (zR_10_51 ho) dX10_adds_16 ?_
      refine re_iload_n X dX10_adds_19 rfl rfl ?_
      refine re_iconst (v := 1) X dX10_adds_20 (by decide) ?_
      refine re_isub X dX10_adds_21 ?_
      refine re_ck (fun hi7 => ?_)
      refine re_iald X (zQ_10_51 X.clo ho) hi7 (j := zIx (x3 - 1)) rfl dX10_adds_22 ?_
      refine re_ck (fun hi9 => ?_)
      refine re_iast X (zQ_10_51 X.clo ho) hi9 (j := zIx x3) rfl dX10_adds_23 (fun M8 => ?_)
      refine re_aload_n X dX10_adds_24 rfl rfl ?_
      refine re_getR X cl_10 (by decide) fl_RX10_113 ho rfl (zR_10_52 ho) dX10_adds_25 ?_
      refine re_iload_n X dX10_adds_28 rfl rfl ?_
      refine re_aload_n X dX10_adds_29 rfl rfl ?_
      refine re_getR X cl_10 (by decide) fl_RX10_113 ho rfl (zR_10_52 ho) dX10_adds_30 ?_
      refine re_iload_n X dX10_adds_33 rfl rfl ?_
      refine re_iconst (v := 1) X dX10_adds_34 (by decide) ?_
      refine re_isub X dX10_adds_35 ?_
      refine re_ck (fun hi10 => ?_)
      refine re_iald X (zQ_10_52 X.clo ho) hi10 (j := zIx (x3 - 1)) rfl dX10_adds_36 ?_
      refine re_ck (fun hi12 => ?_)
      refine re_iast X (zQ_10_52 X.clo ho) hi12 (j := zIx x3) rfl dX10_adds_37 (fun M11 => ?_)
      refine re_iinc (v := -1) (lv' := [some (.ref (zA w 74)), some (.int u1), some (.int u2), some (.int (x3 + (-1)))]) X dX10_adds_38 rfl (by decide) rfl ?_
      refine re_goto (tgt := 5) X dX10_adds_41 (by decide) ?_
      exact ih (x3 + (-1)) M11

set_option maxRecDepth 100000 in
theorem lk_X10_adds (l : Launch) (w : zWD) (u1 : Int32) (u2 : Int32) (ho : zKd w 74 = (10, 61)) : zMt l w yX10_adds cX10_adds 4 none rm_X10_adds 0 [.ref (zA w 74), .int u1, .int u2] (fun M => f_X10_adds u1 u2 M) := by
  refine zMt.of (by decide) [some (.ref (zA w 74)), some (.int u1), some (.int u2), none] rfl (zle rfl) (by intro v hv; simp only [List.mem_cons, List.not_mem_nil, or_false] at hv; rcases hv with rfl | rfl | rfl <;> rfl) ?_
  intro p e s m args below meth c X M
  unfold f_X10_adds
  refine re_aload_n X dX10_adds_0 rfl rfl ?_
  refine re_getI X cl_10 (by decide) fl_RX10_299 ho rfl dX10_adds_1 ?_
  refine re_istore_n (lv' := [some (.ref (zA w 74)), some (.int u1), some (.int u2), some (.int (M 74 49))]) X dX10_adds_4 rfl (zlt rfl) rfl ?_
  exact lb_X10_adds_5 X ho zFu (M 74 49) M
theorem ca_X10_adds {R : Room} (h1 : rm_X10_adds.frames + 1 ≤ R.frames) (h2 : 8 + (4 + 11) + rm_X10_adds.locals ≤ R.locals) : zCa yX10_adds cX10_adds 4 none rm_X10_adds R 2 := ⟨cd_X10_adds, iz_RX10, ⟨by decide, by decide, by decide⟩, rfl, rfl, h1, h2⟩
/-! DebateHouseModel.goes -/
abbrev rm_X10_goes : Room := { frames := 0, cells := 0, slots := 0, locals := 0 }
def f_X10_goes_L53 (u1 : Int32)  : Nat → Int32 → zMem → zTr
  | 0, _, _ => none
  | n + 1, x3, M => if (M 74 49) ≤ x3 then some (0, M) else zCk (zIn (x3 + 1) 60) (zCk (zIn x3 60) (zLt (zUp M 119 (zIx x3) (M 119 (zIx (x3 + 1)))) (fun M6 => zCk (zIn (x3 + 1) 60) (zCk (zIn x3 60) (zLt (zUp M6 120 (zIx x3) (M6 120 (zIx (x3 + 1)))) (fun M9 => f_X10_goes_L53 u1 n (x3 + 1) M9))))))
def f_X10_goes_B41 (u1 : Int32)  (M : zMem) : zTr := zLt (zUp M 74 49 ((M 74 49) - 1)) (fun M4 => f_X10_goes_L53 u1 zFu u1 M4)
def f_X10_goes_L16 (u1 : Int32)  : Nat → Int32 → Int32 → zMem → zTr
  | 0, _, _, _ => none
  | n + 1, x2, x3, M => if u1 ≤ x3 then f_X10_goes_B41 u1 M else zCk (zIn x2 400) (zCk (zIn x3 60) (zCk (zIn x3 60) (zLt (zUp M (141 + zIx x2) (zIx x3) (M 119 (zIx x3))) (fun M13 => f_X10_goes_L16 u1 n x2 (x3 + 1) M13))))
def f_X10_goes (u1 : Int32) (M : zMem) : zTr := zCk (zIn u1 60) (zCk (zIn (M 119 (zIx u1)) 400) (zLt (zUp M 121 (zIx (M 119 (zIx u1))) u1) (fun M2 => f_X10_goes_L16 u1 zFu (M 119 (zIx u1)) 0 M2)))
set_option maxRecDepth 100000 in
theorem lb_X10_goes_53 {p : Program} {l : Launch} {e : Env} {s : State} {m : MethodId} {args : Array Value} {below : List Frame} {meth : Method} {c : Code} {w : zWD} {u1 : Int32} (X : zCx p s m args meth c w (zFree w) RX10 cX10_goes 4 none) (ho : zKd w 74 = (10, 61)) : ∀ (n : Nat) (x3 : Int32) (M : zMem), zRm p l e rm_X10_goes s m args below meth c w 0 53 [some (.ref (zA w 74)), none, none, some (.int x3)] [] M (f_X10_goes_L53 u1 n x3 M) := by
  intro n
  induction n with
  | zero => intro x3 M; exact re_none
  | succ n ih =>
    intro x3 M
    rw [f_X10_goes_L53]
    refine re_iload_n X dX10_goes_53 rfl rfl ?_
    refine re_aload_n X dX10_goes_54 rfl rfl ?_
    refine re_getI X cl_10 (by decide) fl_RX10_299 ho rfl dX10_goes_55 ?_
    refine re_icmp_ge (tgt := 95) X dX10_goes_58 (by decide) (fun _ => ?_) (fun _ => ?_)
    · exact re_vret X dX10_goes_95
    · refine re_aload_n X dX10_goes_61 rfl rfl ?_
      refine re_getR X cl_10 (by decide) fl_RX10_110 ho rfl (zR_10_51 ho) dX10_goes_62 ?_
      refine re_iload_n X dX10_goes_65 rfl rfl ?_
      refine re_aload_n X dX10_goes_66 rfl rfl ?_
      refine re_getR X cl_10 (by decide) fl_RX10_110 ho rfl (zR_10_51 ho) dX10_goes_67 ?_
      refine re_iload_n X dX10_goes_70 rfl rfl ?_
      refine re_iconst (v := 1) X dX10_goes_71 (by decide) ?_
      refine re_iadd X dX10_goes_72 ?_
      refine re_ck (fun hi5 => ?_)
      refine re_iald X (zQ_10_51 X.clo ho) hi5 (j := zIx (x3 + 1)) rfl dX10_goes_73 ?_
      refine re_ck (fun hi7 => ?_)
      refine re_iast X (zQ_10_51 X.clo ho) hi7 (j := zIx x3) rfl dX10_goes_74 (fun M6 => ?_)
      refine re_aload_n X dX10_goes_75 rfl rfl ?_
      refine re_getR X cl_10 (by decide) fl_RX10_113 ho rfl (zR_10_52 ho) dX10_goes_76 ?_
      refine re_iload_n X dX10_goes_79 rfl rfl ?_
      refine re_aload_n X dX10_goes_80 rfl rfl ?_
      refine re_getR X cl_10 (by decide) fl_RX10_113 ho rfl (zR_10_52 ho) dX10_goes_81 ?_
      refine re_iload_n X dX10_goes_84 rfl rfl ?_
      refine re_iconst (v := 1) X dX10_goes_85 (by decide) ?_
      refine re_iadd X dX10_goes_86 ?_
      refine re_ck (fun hi8 => ?_)
      refine re_iald X (zQ_10_52 X.clo ho) hi8 (j := zIx (x3 + 1)) rfl dX10_goes_87 ?_
      refine re_ck (fun hi10 => ?_)
      refine re_iast X (zQ_10_52 X.clo ho) hi10 (j := zIx x3) rfl dX10_goes_88 (fun M9 => ?_)
      refine re_iinc (v := 1) (lv' := [some (.ref (zA w 74)), none, none, some (.int (x3 + 1))]) X dX10_goes_89 rfl (by decide) rfl ?_
      refine re_goto (tgt := 53) X dX10_goes_92 (by decide) ?_
      exact ih (x3 + 1) M9

set_option maxRecDepth 100000 in
theorem lb_X10_goes_41 {p : Program} {l : Launch} {e : Env} {s : State} {m : MethodId} {args : Array Value} {below : List Frame} {meth : Method} {c : Code} {w : zWD} {u1 : Int32} (X : zCx p s m args meth c w (zFree w) RX10 cX10_goes 4 none) (ho : zKd w 74 = (10, 61)) : ∀ (M : zMem), zRm p l e rm_X10_goes s m args below meth c w 0 41 [some (.ref (zA w 74)), some (.int u1), none, none] [] M (f_X10_goes_B41 u1 M) := by
  intro M
  unfold f_X10_goes_B41
  refine re_aload_n X dX10_goes_41 rfl rfl ?_
  refine re_dup X dX10_goes_42 rfl ?_
  refine re_getI X cl_10 (by decide) fl_RX10_299 ho rfl dX10_goes_43 ?_
  refine re_iconst (v := 1) X dX10_goes_46 (by decide) ?_
  refine re_isub X dX10_goes_47 ?_
  refine re_putI X cl_10 (by decide) fl_RX10_299 ho rfl rfl rfl dX10_goes_48 (fun M4 => ?_)
  refine re_iload_n X dX10_goes_51 rfl rfl ?_
  refine re_istore_n (lv' := [some (.ref (zA w 74)), some (.int u1), none, some (.int u1)]) X dX10_goes_52 rfl (zlt rfl) rfl ?_
  exact re_sub (lb_X10_goes_53 X ho zFu u1 M4) ⟨rfl, ⟨rfl, trivial⟩⟩

set_option maxRecDepth 100000 in
theorem lb_X10_goes_16 {p : Program} {l : Launch} {e : Env} {s : State} {m : MethodId} {args : Array Value} {below : List Frame} {meth : Method} {c : Code} {w : zWD} {u1 : Int32} (X : zCx p s m args meth c w (zFree w) RX10 cX10_goes 4 none) (ho : zKd w 74 = (10, 61)) : ∀ (n : Nat) (x2 : Int32) (x3 : Int32) (M : zMem), zRm p l e rm_X10_goes s m args below meth c w 0 16 [some (.ref (zA w 74)), some (.int u1), some (.int x2), some (.int x3)] [] M (f_X10_goes_L16 u1 n x2 x3 M) := by
  intro n
  induction n with
  | zero => intro x2 x3 M; exact re_none
  | succ n ih =>
    intro x2 x3 M
    rw [f_X10_goes_L16]
    refine re_iload_n X dX10_goes_16 rfl rfl ?_
    refine re_iload_n X dX10_goes_17 rfl rfl ?_
    refine re_icmp_ge (tgt := 41) X dX10_goes_18 (by decide) (fun _ => ?_) (fun _ => ?_)
    · exact re_sub (lb_X10_goes_41 X ho M) ⟨rfl, ⟨rfl, trivial⟩⟩
    · refine re_aload_n X dX10_goes_21 rfl rfl ?_
      refine re_getR X cl_10 (by decide) fl_RX10_119 ho rfl (zR_10_54 ho) dX10_goes_22 ?_
      refine re_iload_n X dX10_goes_25 rfl rfl ?_
      refine re_ck (fun hi11 => ?_)
      refine re_aald X (zQ_10_54 X.clo ho) (by decide) hi11 rfl (rw_140 (zIx_lt hi11)) dX10_goes_26 ?_
      refine re_iload_n X dX10_goes_27 rfl rfl ?_
      refine re_aload_n X dX10_goes_28 rfl rfl ?_
      refine re_getR X cl_10 (by decide) fl_RX10_110 ho rfl (zR_10_51 ho) dX10_goes_29 ?_
      refine re_iload_n X dX10_goes_32 rfl rfl ?_
      refine re_ck (fun hi12 => ?_)
      refine re_iald X (zQ_10_51 X.clo ho) hi12 (j := zIx x3) rfl dX10_goes_33 ?_
      refine re_ck (fun hi14 => ?_)
      refine re_iast X (rk_140 X.clo (zQ_10_54 X.clo ho) (zIx_lt hi11)) hi14 (j := zIx x3) rfl dX10_goes_34 (fun M13 => ?_)
      refine re_iinc (v := 1) (lv' := [some (.ref (zA w 74)), some (.int u1), some (.int x2), some (.int (x3 + 1))]) X dX10_goes_35 rfl (by decide) rfl ?_
      refine re_goto (tgt := 16) X dX10_goes_38 (by decide) ?_
      exact ih x2 (x3 + 1) M13

set_option maxRecDepth 100000 in
theorem lk_X10_goes (l : Launch) (w : zWD) (u1 : Int32) (ho : zKd w 74 = (10, 61)) : zMt l w yX10_goes cX10_goes 4 none rm_X10_goes 0 [.ref (zA w 74), .int u1] (fun M => f_X10_goes u1 M) := by
  refine zMt.of (by decide) [some (.ref (zA w 74)), some (.int u1), none, none] rfl (zle rfl) (by intro v hv; simp only [List.mem_cons, List.not_mem_nil, or_false] at hv; rcases hv with rfl | rfl <;> rfl) ?_
  intro p e s m args below meth c X M
  unfold f_X10_goes
  refine re_aload_n X dX10_goes_0 rfl rfl ?_
  refine re_getR X cl_10 (by decide) fl_RX10_110 ho rfl (zR_10_51 ho) dX10_goes_1 ?_
  refine re_iload_n X dX10_goes_4 rfl rfl ?_
  refine re_ck (fun hi1 => ?_)
  refine re_iald X (zQ_10_51 X.clo ho) hi1 (j := zIx u1) rfl dX10_goes_5 ?_
  refine re_istore_n (lv' := [some (.ref (zA w 74)), some (.int u1), some (.int (M 119 (zIx u1))), none]) X dX10_goes_6 rfl (zlt rfl) rfl ?_
  refine re_aload_n X dX10_goes_7 rfl rfl ?_
  refine re_getR X cl_10 (by decide) fl_RX10_116 ho rfl (zR_10_53 ho) dX10_goes_8 ?_
  refine re_iload_n X dX10_goes_11 rfl rfl ?_
  refine re_iload_n X dX10_goes_12 rfl rfl ?_
  refine re_ck (fun hi3 => ?_)
  refine re_iast X (zQ_10_53 X.clo ho) hi3 (j := zIx (M 119 (zIx u1))) rfl dX10_goes_13 (fun M2 => ?_)
  refine re_iconst (v := 0) X dX10_goes_14 (by decide) ?_
  refine re_istore_n (lv' := [some (.ref (zA w 74)), some (.int u1), some (.int (M 119 (zIx u1))), some (.int 0)]) X dX10_goes_15 rfl (zlt rfl) rfl ?_
  exact lb_X10_goes_16 X ho zFu (M 119 (zIx u1)) 0 M2
theorem ca_X10_goes {R : Room} (h1 : rm_X10_goes.frames + 1 ≤ R.frames) (h2 : 8 + (4 + 11) + rm_X10_goes.locals ≤ R.locals) : zCa yX10_goes cX10_goes 4 none rm_X10_goes R 1 := ⟨cd_X10_goes, iz_RX10, ⟨by decide, by decide, by decide⟩, rfl, rfl, h1, h2⟩
/-! DebateHouseModel.amends -/
abbrev rm_X10_amends : Room := { frames := 2, cells := 0, slots := 0, locals := 45 }
def f_X10_amends_B61 (u1 : Int32) (u2 : Int32)  (y0 : Int32) (M : zMem) : zTr := zBd (f_X10_adds y0 u2 M) (fun _ M6 => some (0, M6))
def f_X10_amends_B162 (u1 : Int32) (u2 : Int32)  (x4 : Int32) (y0 : Int32) (y1 : Int32) (M : zMem) : zTr := zCk (zIn y1 60) (zLt (zUp M 120 (zIx y1) y0) (fun M14 => zBd (f_X10_goes (x4 + 1) M14) (fun _ M17 => some (0, M17))))
def f_X10_amends (u1 : Int32) (u2 : Int32) (M : zMem) : zTr := zBd (f_X10_placeOf (u1 / 4) M) (fun r1 M2 => if (M2 74 48) = 0 then some (0, M2) else if (u1 / 4) < (M2 74 50) then (if (u1 - u1 / 4 * 4) = 0 then (if 40 ≤ (M2 74 49) then some (0, M2) else if r1 = (-1) then zBd (f_X10_behindGone (u1 / 4) M2) (fun r3 M4 => f_X10_amends_B61 u1 u2 r3 M4) else f_X10_amends_B61 u1 u2 (r1 + 1) M2) else if r1 = (-1) then some (0, M2) else if (u1 - u1 / 4 * 4) = 1 then zBd (f_X10_goes r1 M2) (fun _ M8 => some (0, M8)) else if (u1 - u1 / 4 * 4) = 2 then zCk (zIn r1 60) (zLt (zUp M2 120 (zIx r1) u2) (fun M9 => some (0, M9))) else if (M2 74 49) ≤ (r1 + 1) then some (0, M2) else zCk (zIn r1 60) (zCk (zIn (r1 + 1) 60) (if (M2 120 (zIx r1)) ≤ (M2 120 (zIx (r1 + 1))) then zCk (zIn (r1 + 1) 60) (f_X10_amends_B162 u1 u2 r1 (M2 120 (zIx (r1 + 1))) r1 M2) else zCk (zIn r1 60) (f_X10_amends_B162 u1 u2 r1 (M2 120 (zIx r1)) r1 M2)))) else some (0, M2))
set_option maxRecDepth 100000 in
theorem lb_X10_amends_61 {p : Program} {l : Launch} {e : Env} {s : State} {m : MethodId} {args : Array Value} {below : List Frame} {meth : Method} {c : Code} {w : zWD} {u1 : Int32} {u2 : Int32} (X : zCx p s m args meth c w (zFree w) RX10 cX10_amends 5 none) (ho : zKd w 74 = (10, 61)) : ∀ (y0 : Int32) (M : zMem), zRm p l e rm_X10_amends s m args below meth c w 0 61 [none, none, some (.int u2), none, none] [.int y0, .ref (zA w 74)] M (f_X10_amends_B61 u1 u2 y0 M) := by
  intro y0 M
  unfold f_X10_amends_B61
  refine re_iload_n X dX10_amends_61 rfl rfl ?_
  refine re_callVv X (lk_X10_adds l w y0 u2 ho) (ca_X10_adds (by decide) (by decide)) ml_RX10_368 im_X10_adds se_X10_adds cl_10 ho rfl rfl rfl (zle rfl) zRo dX10_amends_62 (fun r5 M6 hr5 => ?_)
  exact re_vret X dX10_amends_65

set_option maxRecDepth 100000 in
theorem lb_X10_amends_162 {p : Program} {l : Launch} {e : Env} {s : State} {m : MethodId} {args : Array Value} {below : List Frame} {meth : Method} {c : Code} {w : zWD} {u1 : Int32} {u2 : Int32} (X : zCx p s m args meth c w (zFree w) RX10 cX10_amends 5 none) (ho : zKd w 74 = (10, 61)) : ∀ (x4 : Int32) (y0 : Int32) (y1 : Int32) (M : zMem), zRm p l e rm_X10_amends s m args below meth c w 0 162 [some (.ref (zA w 74)), none, none, none, some (.int x4)] [.int y0, .int y1, .ref (zA w 120)] M (f_X10_amends_B162 u1 u2 x4 y0 y1 M) := by
  intro x4 y0 y1 M
  unfold f_X10_amends_B162
  refine re_ck (fun hi15 => ?_)
  refine re_iast X (zQ_10_52 X.clo ho) hi15 (j := zIx y1) rfl dX10_amends_162 (fun M14 => ?_)
  refine re_aload_n X dX10_amends_163 rfl rfl ?_
  refine re_iload X dX10_amends_164 rfl ?_
  refine re_iconst (v := 1) X dX10_amends_166 (by decide) ?_
  refine re_iadd X dX10_amends_167 ?_
  refine re_callVv X (lk_X10_goes l w (x4 + 1) ho) (ca_X10_goes (by decide) (by decide)) ml_RX10_371 im_X10_goes se_X10_goes cl_10 ho rfl rfl rfl (zle rfl) zRo dX10_amends_168 (fun r16 M17 hr16 => ?_)
  exact re_vret X dX10_amends_171

set_option maxRecDepth 100000 in
theorem lk_X10_amends (l : Launch) (w : zWD) (u1 : Int32) (u2 : Int32) (ho : zKd w 74 = (10, 61)) : zMt l w yX10_amends cX10_amends 5 none rm_X10_amends 0 [.ref (zA w 74), .int u1, .int u2] (fun M => f_X10_amends u1 u2 M) := by
  refine zMt.of (by decide) [some (.ref (zA w 74)), some (.int u1), some (.int u2), none, none] rfl (zle rfl) (by intro v hv; simp only [List.mem_cons, List.not_mem_nil, or_false] at hv; rcases hv with rfl | rfl | rfl <;> rfl) ?_
  intro p e s m args below meth c X M
  unfold f_X10_amends
  refine re_iload_n X dX10_amends_0 rfl rfl ?_
  refine re_iconst (v := 4) X dX10_amends_1 (by decide) ?_
  refine re_idivK X (by decide) dX10_amends_2 ?_
  refine re_istore_n (lv' := [some (.ref (zA w 74)), some (.int u1), some (.int u2), some (.int (u1 / 4)), none]) X dX10_amends_3 rfl (zlt rfl) rfl ?_
  refine re_aload_n X dX10_amends_4 rfl rfl ?_
  refine re_iload_n X dX10_amends_5 rfl rfl ?_
  refine re_callVi X (lk_X10_placeOf l w (u1 / 4) ho) (ca_X10_placeOf (by decide) (by decide)) ml_RX10_333 im_X10_placeOf se_X10_placeOf cl_10 ho rfl rfl rfl (zle rfl) zRo dX10_amends_6 (fun r1 M2 hr1 => ?_)
  refine re_istore (lv' := [some (.ref (zA w 74)), some (.int u1), some (.int u2), some (.int (u1 / 4)), some (.int r1)]) X dX10_amends_9 (zlt rfl) rfl ?_
  refine re_aload_n X dX10_amends_11 rfl rfl ?_
  refine re_getI X cl_10 (by decide) fl_RX10_296 ho rfl dX10_amends_12 ?_
  refine re_if_eq (tgt := 26) X dX10_amends_15 (by decide) (fun _ => ?_) (fun _ => ?_)
  · exact re_vret X dX10_amends_26
  · refine re_iload_n X dX10_amends_18 rfl rfl ?_
    refine re_aload_n X dX10_amends_19 rfl rfl ?_
    refine re_getI X cl_10 (by decide) fl_RX10_302 ho rfl dX10_amends_20 ?_
    refine re_icmp_lt (tgt := 27) X dX10_amends_23 (by decide) (fun _ => ?_) (fun _ => ?_)
    · refine re_iload_n X dX10_amends_27 rfl rfl ?_
      refine re_iconst (v := 4) X dX10_amends_28 (by decide) ?_
      refine re_iremK X (by decide) dX10_amends_29 ?_
      refine re_if_ne (tgt := 66) X dX10_amends_30 (by decide) (fun _ => ?_) (fun _ => ?_)
      · refine re_aload_n X dX10_amends_33 rfl rfl ?_
        refine re_getI X cl_10 (by decide) fl_RX10_299 ho rfl dX10_amends_34 ?_
        refine re_bipush (v := 40) X dX10_amends_37 (by decide) ?_
        refine re_icmp_ge (tgt := 65) X dX10_amends_39 (by decide) (fun _ => ?_) (fun _ => ?_)
        · exact re_vret X dX10_amends_65
        · refine re_aload_n X dX10_amends_42 rfl rfl ?_
          refine re_iload X dX10_amends_43 rfl ?_
          refine re_iconst (v := -1) X dX10_amends_45 (by decide) ?_
          refine re_icmp_eq (tgt := 56) X dX10_amends_46 (by decide) (fun _ => ?_) (fun _ => ?_)
          · refine re_aload_n X dX10_amends_56 rfl rfl ?_
            refine re_iload_n X dX10_amends_57 rfl rfl ?_
            refine re_callVi X (lk_X10_behindGone l w (u1 / 4) ho) (ca_X10_behindGone (by decide) (by decide)) ml_RX10_365 im_X10_behindGone se_X10_behindGone cl_10 ho rfl rfl rfl (zle rfl) zRo dX10_amends_58 (fun r3 M4 hr3 => ?_)
            exact re_sub (lb_X10_amends_61 X ho r3 M4) ⟨rfl, trivial⟩
          · refine re_iload X dX10_amends_49 rfl ?_
            refine re_iconst (v := 1) X dX10_amends_51 (by decide) ?_
            refine re_iadd X dX10_amends_52 ?_
            refine re_goto (tgt := 61) X dX10_amends_53 (by decide) ?_
            exact re_sub (lb_X10_amends_61 X ho (r1 + 1) M2) ⟨rfl, trivial⟩
      · refine re_iload X dX10_amends_66 rfl ?_
        refine re_iconst (v := -1) X dX10_amends_68 (by decide) ?_
        refine re_icmp_ne (tgt := 73) X dX10_amends_69 (by decide) (fun _ => ?_) (fun _ => ?_)
        · exact re_vret X dX10_amends_72
        · refine re_iload_n X dX10_amends_73 rfl rfl ?_
          refine re_iconst (v := 4) X dX10_amends_74 (by decide) ?_
          refine re_iremK X (by decide) dX10_amends_75 ?_
          refine re_iconst (v := 1) X dX10_amends_76 (by decide) ?_
          refine re_icmp_ne (tgt := 89) X dX10_amends_77 (by decide) (fun _ => ?_) (fun _ => ?_)
          · refine re_aload_n X dX10_amends_80 rfl rfl ?_
            refine re_iload X dX10_amends_81 rfl ?_
            refine re_callVv X (lk_X10_goes l w r1 ho) (ca_X10_goes (by decide) (by decide)) ml_RX10_371 im_X10_goes se_X10_goes cl_10 ho rfl rfl rfl (zle rfl) zRo dX10_amends_83 (fun r7 M8 hr7 => ?_)
            refine re_goto (tgt := 171) X dX10_amends_86 (by decide) ?_
            exact re_vret X dX10_amends_171
          · refine re_iload_n X dX10_amends_89 rfl rfl ?_
            refine re_iconst (v := 4) X dX10_amends_90 (by decide) ?_
            refine re_iremK X (by decide) dX10_amends_91 ?_
            refine re_iconst (v := 2) X dX10_amends_92 (by decide) ?_
            refine re_icmp_ne (tgt := 107) X dX10_amends_93 (by decide) (fun _ => ?_) (fun _ => ?_)
            · refine re_aload_n X dX10_amends_96 rfl rfl ?_
              refine re_getR X cl_10 (by decide) fl_RX10_113 ho rfl (zR_10_52 ho) dX10_amends_97 ?_
              refine re_iload X dX10_amends_100 rfl ?_
              refine re_iload_n X dX10_amends_102 rfl rfl ?_
              refine re_ck (fun hi10 => ?_)
              refine re_iast X (zQ_10_52 X.clo ho) hi10 (j := zIx r1) rfl dX10_amends_103 (fun M9 => ?_)
              refine re_goto (tgt := 171) X dX10_amends_104 (by decide) ?_
              exact re_vret X dX10_amends_171
            · refine re_iload X dX10_amends_107 rfl ?_
              refine re_iconst (v := 1) X dX10_amends_109 (by decide) ?_
              refine re_iadd X dX10_amends_110 ?_
              refine re_aload_n X dX10_amends_111 rfl rfl ?_
              refine re_getI X cl_10 (by decide) fl_RX10_299 ho rfl dX10_amends_112 ?_
              refine re_icmp_ge (tgt := 171) X dX10_amends_115 (by decide) (fun _ => ?_) (fun _ => ?_)
              · exact re_vret X dX10_amends_171
              · refine re_aload_n X dX10_amends_118 rfl rfl ?_
                refine re_getR X cl_10 (by decide) fl_RX10_113 ho rfl (zR_10_52 ho) dX10_amends_119 ?_
                refine re_iload X dX10_amends_122 rfl ?_
                refine re_aload_n X dX10_amends_124 rfl rfl ?_
                refine re_getR X cl_10 (by decide) fl_RX10_113 ho rfl (zR_10_52 ho) dX10_amends_125 ?_
                refine re_iload X dX10_amends_128 rfl ?_
                refine re_ck (fun hi11 => ?_)
                refine re_iald X (zQ_10_52 X.clo ho) hi11 (j := zIx r1) rfl dX10_amends_130 ?_
                refine re_aload_n X dX10_amends_131 rfl rfl ?_
                refine re_getR X cl_10 (by decide) fl_RX10_113 ho rfl (zR_10_52 ho) dX10_amends_132 ?_
                refine re_iload X dX10_amends_135 rfl ?_
                refine re_iconst (v := 1) X dX10_amends_137 (by decide) ?_
                refine re_iadd X dX10_amends_138 ?_
                refine re_ck (fun hi12 => ?_)
                refine re_iald X (zQ_10_52 X.clo ho) hi12 (j := zIx (r1 + 1)) rfl dX10_amends_139 ?_
                refine re_icmp_le (tgt := 153) X dX10_amends_140 (by decide) (fun _ => ?_) (fun _ => ?_)
                · refine re_aload_n X dX10_amends_153 rfl rfl ?_
                  refine re_getR X cl_10 (by decide) fl_RX10_113 ho rfl (zR_10_52 ho) dX10_amends_154 ?_
                  refine re_iload X dX10_amends_157 rfl ?_
                  refine re_iconst (v := 1) X dX10_amends_159 (by decide) ?_
                  refine re_iadd X dX10_amends_160 ?_
                  refine re_ck (fun hi13 => ?_)
                  refine re_iald X (zQ_10_52 X.clo ho) hi13 (j := zIx (r1 + 1)) rfl dX10_amends_161 ?_
                  exact re_sub (lb_X10_amends_162 X ho r1 (M2 120 (zIx (r1 + 1))) r1 M2) ⟨rfl, ⟨rfl, trivial⟩⟩
                · refine re_aload_n X dX10_amends_143 rfl rfl ?_
                  refine re_getR X cl_10 (by decide) fl_RX10_113 ho rfl (zR_10_52 ho) dX10_amends_144 ?_
                  refine re_iload X dX10_amends_147 rfl ?_
                  refine re_ck (fun hi18 => ?_)
                  refine re_iald X (zQ_10_52 X.clo ho) hi18 (j := zIx r1) rfl dX10_amends_149 ?_
                  refine re_goto (tgt := 162) X dX10_amends_150 (by decide) ?_
                  exact re_sub (lb_X10_amends_162 X ho r1 (M2 120 (zIx r1)) r1 M2) ⟨rfl, ⟨rfl, trivial⟩⟩
    · exact re_vret X dX10_amends_26
theorem ca_X10_amends {R : Room} (h1 : rm_X10_amends.frames + 1 ≤ R.frames) (h2 : 8 + (5 + 11) + rm_X10_amends.locals ≤ R.locals) : zCa yX10_amends cX10_amends 5 none rm_X10_amends R 2 := ⟨cd_X10_amends, iz_RX10, ⟨by decide, by decide, by decide⟩, rfl, rfl, h1, h2⟩
/-! DebateHouseModel.votes -/
abbrev rm_X10_votes : Room := { frames := 3, cells := 0, slots := 0, locals := 69 }
def f_X10_votes_L176 (u1 : Int32) (u2 : Int32)  : Nat → Int32 → zMem → zTr
  | 0, _, _ => none
  | n + 1, x4, M => if (M 74 39) ≤ x4 then some (0, M) else zCk (zIn x4 12) (zLt (zUp M 117 (zIx x4) 1) (fun M22 => f_X10_votes_L176 u1 u2 n (x4 + 1) M22))
def f_X10_votes_B68 (u1 : Int32) (u2 : Int32)  (x3 : Int32) (M : zMem) : zTr := if u2 = 0 then some (0, M) else zCk (zIn x3 12) (if (M 111 (zIx x3)) = 0 then zCk (zIn x3 12) (zBd (f_X10_in (M 113 (zIx x3)) 1 20 M) (fun r10 M11 => if r10 = 0 then some (0, M11) else zCk (zIn x3 12) (zCk (zIn x3 12) (zBd (f_X10_papers (M11 113 (zIx x3)) (M11 114 (zIx x3)) M11) (fun _ M15 => some (0, M15)))))) else if (M 111 (zIx x3)) = 1 then zCk (zIn x3 12) (zCk (zIn x3 12) (zBd (f_X10_amends (M 113 (zIx x3)) (M 114 (zIx x3)) M) (fun _ M20 => some (0, M20)))) else if (M 111 (zIx x3)) = 2 then f_X10_votes_L176 u1 u2 zFu 0 M else if (M 111 (zIx x3)) = 3 then zCk (zIn x3 12) (if (M 113 (zIx x3)) ≤ 0 then zLt (zUp M 74 34 (M 74 34)) (fun M26 => some (0, M26)) else zCk (zIn x3 12) (zLt (zUp M 74 34 (M 113 (zIx x3))) (fun M28 => some (0, M28)))) else if (M 111 (zIx x3)) = 4 then zLt (zUp M 74 48 0) (fun M30 => zLt (zUp M30 74 49 0) (fun M31 => zLt (zUp M31 74 50 0) (fun M32 => zLt (zUp M32 74 39 0) (fun M33 => some (0, M33))))) else if (M 111 (zIx x3)) = 5 then zCk (zIn x3 12) (if (M 113 (zIx x3)) ≤ 0 then zLt (zUp M 74 36 (M 74 36)) (fun M36 => some (0, M36)) else zCk (zIn x3 12) (zLt (zUp M 74 36 (M 113 (zIx x3))) (fun M38 => some (0, M38)))) else if (M 111 (zIx x3)) = 6 then zLt (zUp M 74 38 1) (fun M40 => zLt (zUp M40 74 39 0) (fun M41 => some (0, M41))) else zCk (zIn x3 12) (if (M 115 (zIx x3)) = (-1) then some (0, M) else zCk (zIn (M 74 25) 2) (zCk (zIn x3 12) (zCk (zIn (M 115 (zIx x3)) 300) (zLt (zUp M (106 + zIx (M 74 25)) (zIx (M 115 (zIx x3))) 1) (fun M45 => some (0, M45)))))))
def f_X10_votes_B34 (u1 : Int32) (u2 : Int32)  (x3 : Int32) (y0 : Int32) (y1 : Int32) (q2 : Nat) (M : zMem) : zTr := zCk (zIn y1 300) (zLt (zUp M q2 (zIx y1) y0) (fun M3 => zCk (zIn x3 12) (if (M3 111 (zIx x3)) = 7 then zCk (zIn x3 12) (if (M3 115 (zIx x3)) = (-1) then f_X10_votes_B68 u1 u2 x3 M3 else zCk (zIn x3 12) (zCk (zIn (M3 115 (zIx x3)) 300) (zLt (zUp M3 118 (zIx (M3 115 (zIx x3))) 1) (fun M48 => f_X10_votes_B68 u1 u2 x3 M48)))) else f_X10_votes_B68 u1 u2 x3 M3)))
def f_X10_votes (u1 : Int32) (u2 : Int32) (M : zMem) : zTr := zLt (zUp M 74 39 ((M 74 39) - 1)) (fun M1 => zCk (zIn (M1 74 25) 2) (if u2 = 0 then f_X10_votes_B34 u1 u2 (M1 74 39) 0 u1 (103 + zIx (M1 74 25)) M1 else f_X10_votes_B34 u1 u2 (M1 74 39) 1 u1 (103 + zIx (M1 74 25)) M1))
set_option maxRecDepth 100000 in
theorem lb_X10_votes_176 {p : Program} {l : Launch} {e : Env} {s : State} {m : MethodId} {args : Array Value} {below : List Frame} {meth : Method} {c : Code} {w : zWD} {u1 : Int32} {u2 : Int32} (X : zCx p s m args meth c w (zFree w) RX10 cX10_votes 5 none) (ho : zKd w 74 = (10, 61)) : ∀ (n : Nat) (x4 : Int32) (M : zMem), zRm p l e rm_X10_votes s m args below meth c w 0 176 [some (.ref (zA w 74)), none, none, none, some (.int x4)] [] M (f_X10_votes_L176 u1 u2 n x4 M) := by
  intro n
  induction n with
  | zero => intro x4 M; exact re_none
  | succ n ih =>
    intro x4 M
    rw [f_X10_votes_L176]
    refine re_iload X dX10_votes_176 rfl ?_
    refine re_aload_n X dX10_votes_178 rfl rfl ?_
    refine re_getI X cl_10 (by decide) fl_RX10_293 ho rfl dX10_votes_179 ?_
    refine re_icmp_ge (tgt := 199) X dX10_votes_182 (by decide) (fun _ => ?_) (fun _ => ?_)
    · refine re_goto (tgt := 323) X dX10_votes_199 (by decide) ?_
      exact re_vret X dX10_votes_323
    · refine re_aload_n X dX10_votes_185 rfl rfl ?_
      refine re_getR X cl_10 (by decide) fl_RX10_104 ho rfl (zR_10_46 ho) dX10_votes_186 ?_
      refine re_iload X dX10_votes_189 rfl ?_
      refine re_iconst (v := 1) X dX10_votes_191 (by decide) ?_
      refine re_ck (fun hi23 => ?_)
      refine re_zast X (zQ_10_46 X.clo ho) hi23 (j := zIx x4) rfl (zNar_b (Or.inr rfl)) dX10_votes_192 (fun M22 => ?_)
      refine re_iinc (v := 1) (lv' := [some (.ref (zA w 74)), none, none, none, some (.int (x4 + 1))]) X dX10_votes_193 rfl (by decide) rfl ?_
      refine re_goto (tgt := 176) X dX10_votes_196 (by decide) ?_
      exact ih (x4 + 1) M22

set_option maxRecDepth 100000 in
theorem lb_X10_votes_68 {p : Program} {l : Launch} {e : Env} {s : State} {m : MethodId} {args : Array Value} {below : List Frame} {meth : Method} {c : Code} {w : zWD} {u1 : Int32} {u2 : Int32} (X : zCx p s m args meth c w (zFree w) RX10 cX10_votes 5 none) (ho : zKd w 74 = (10, 61)) : ∀ (x3 : Int32) (M : zMem), zRm p l e rm_X10_votes s m args below meth c w 0 68 [some (.ref (zA w 74)), none, some (.int u2), some (.int x3), none] [] M (f_X10_votes_B68 u1 u2 x3 M) := by
  intro x3 M
  unfold f_X10_votes_B68
  refine re_iload_n X dX10_votes_68 rfl rfl ?_
  refine re_if_ne (tgt := 73) X dX10_votes_69 (by decide) (fun _ => ?_) (fun _ => ?_)
  · exact re_vret X dX10_votes_72
  · refine re_aload_n X dX10_votes_73 rfl rfl ?_
    refine re_getR X cl_10 (by decide) fl_RX10_86 ho rfl (zR_10_40 ho) dX10_votes_74 ?_
    refine re_iload_n X dX10_votes_77 rfl rfl ?_
    refine re_ck (fun hi7 => ?_)
    refine re_iald X (zQ_10_40 X.clo ho) hi7 (j := zIx x3) rfl dX10_votes_78 ?_
    refine re_if (fun e8 => ?_) (fun e8 => ?_)
    · refine re_sw_in (v := 0) (off := 41) (tgt := 120) X dX10_votes_79 e8 (by decide) (by decide) (by decide +kernel) (by decide) ?_
      refine re_aload_n X dX10_votes_120 rfl rfl ?_
      refine re_getR X cl_10 (by decide) fl_RX10_92 ho rfl (zR_10_42 ho) dX10_votes_121 ?_
      refine re_iload_n X dX10_votes_124 rfl rfl ?_
      refine re_ck (fun hi9 => ?_)
      refine re_iald X (zQ_10_42 X.clo ho) hi9 (j := zIx x3) rfl dX10_votes_125 ?_
      refine re_iconst (v := 1) X dX10_votes_126 (by decide) ?_
      refine re_bipush (v := 20) X dX10_votes_127 (by decide) ?_
      refine re_callSz X (lk_X10_in l w (M 113 (zIx x3)) 1 20) (ca_X10_in (by decide) (by decide)) ml_RX10_184 sm_X10_in rfl rfl rfl (zle rfl) zRo dX10_votes_129 (fun r10 M11 hr10 => ?_)
      refine re_if_eq (tgt := 323) X dX10_votes_132 (by decide) (fun _ => ?_) (fun _ => ?_)
      · exact re_vret X dX10_votes_323
      · refine re_aload_n X dX10_votes_135 rfl rfl ?_
        refine re_aload_n X dX10_votes_136 rfl rfl ?_
        refine re_getR X cl_10 (by decide) fl_RX10_92 ho rfl (zR_10_42 ho) dX10_votes_137 ?_
        refine re_iload_n X dX10_votes_140 rfl rfl ?_
        refine re_ck (fun hi12 => ?_)
        refine re_iald X (zQ_10_42 X.clo ho) hi12 (j := zIx x3) rfl dX10_votes_141 ?_
        refine re_aload_n X dX10_votes_142 rfl rfl ?_
        refine re_getR X cl_10 (by decide) fl_RX10_95 ho rfl (zR_10_43 ho) dX10_votes_143 ?_
        refine re_iload_n X dX10_votes_146 rfl rfl ?_
        refine re_ck (fun hi13 => ?_)
        refine re_iald X (zQ_10_43 X.clo ho) hi13 (j := zIx x3) rfl dX10_votes_147 ?_
        refine re_callVv X (lk_X10_papers l w (M11 113 (zIx x3)) (M11 114 (zIx x3)) ho) (ca_X10_papers (by decide) (by decide)) ml_RX10_359 im_X10_papers se_X10_papers cl_10 ho rfl rfl rfl (zle rfl) zRo dX10_votes_148 (fun r14 M15 hr14 => ?_)
        refine re_goto (tgt := 323) X dX10_votes_151 (by decide) ?_
        exact re_vret X dX10_votes_323
    refine re_if (fun e16 => ?_) (fun e16 => ?_)
    · refine re_sw_in (v := 1) (off := 75) (tgt := 154) X dX10_votes_79 e16 (by decide) (by decide) (by decide +kernel) (by decide) ?_
      refine re_aload_n X dX10_votes_154 rfl rfl ?_
      refine re_aload_n X dX10_votes_155 rfl rfl ?_
      refine re_getR X cl_10 (by decide) fl_RX10_92 ho rfl (zR_10_42 ho) dX10_votes_156 ?_
      refine re_iload_n X dX10_votes_159 rfl rfl ?_
      refine re_ck (fun hi17 => ?_)
      refine re_iald X (zQ_10_42 X.clo ho) hi17 (j := zIx x3) rfl dX10_votes_160 ?_
      refine re_aload_n X dX10_votes_161 rfl rfl ?_
      refine re_getR X cl_10 (by decide) fl_RX10_95 ho rfl (zR_10_43 ho) dX10_votes_162 ?_
      refine re_iload_n X dX10_votes_165 rfl rfl ?_
      refine re_ck (fun hi18 => ?_)
      refine re_iald X (zQ_10_43 X.clo ho) hi18 (j := zIx x3) rfl dX10_votes_166 ?_
      refine re_callVv X (lk_X10_amends l w (M 113 (zIx x3)) (M 114 (zIx x3)) ho) (ca_X10_amends (by decide) (by decide)) ml_RX10_362 im_X10_amends se_X10_amends cl_10 ho rfl rfl rfl (zle rfl) zRo dX10_votes_167 (fun r19 M20 hr19 => ?_)
      refine re_goto (tgt := 323) X dX10_votes_170 (by decide) ?_
      exact re_vret X dX10_votes_323
    refine re_if (fun e21 => ?_) (fun e21 => ?_)
    · refine re_sw_in (v := 2) (off := 94) (tgt := 173) X dX10_votes_79 e21 (by decide) (by decide) (by decide +kernel) (by decide) ?_
      refine re_iconst (v := 0) X dX10_votes_173 (by decide) ?_
      refine re_istore (lv' := [some (.ref (zA w 74)), none, some (.int u2), some (.int x3), some (.int 0)]) X dX10_votes_174 (zlt rfl) rfl ?_
      exact re_sub (lb_X10_votes_176 X ho zFu 0 M) ⟨rfl, ⟨rfl, trivial⟩⟩
    refine re_if (fun e24 => ?_) (fun e24 => ?_)
    · refine re_sw_in (v := 3) (off := 123) (tgt := 202) X dX10_votes_79 e24 (by decide) (by decide) (by decide +kernel) (by decide) ?_
      refine re_aload_n X dX10_votes_202 rfl rfl ?_
      refine re_aload_n X dX10_votes_203 rfl rfl ?_
      refine re_getR X cl_10 (by decide) fl_RX10_92 ho rfl (zR_10_42 ho) dX10_votes_204 ?_
      refine re_iload_n X dX10_votes_207 rfl rfl ?_
      refine re_ck (fun hi25 => ?_)
      refine re_iald X (zQ_10_42 X.clo ho) hi25 (j := zIx x3) rfl dX10_votes_208 ?_
      refine re_if_le (tgt := 221) X dX10_votes_209 (by decide) (fun _ => ?_) (fun _ => ?_)
      · refine re_aload_n X dX10_votes_221 rfl rfl ?_
        refine re_getI X cl_10 (by decide) fl_RX10_277 ho rfl dX10_votes_222 ?_
        refine re_putI X cl_10 (by decide) fl_RX10_277 ho rfl rfl rfl dX10_votes_225 (fun M26 => ?_)
        refine re_goto (tgt := 323) X dX10_votes_228 (by decide) ?_
        exact re_vret X dX10_votes_323
      · refine re_aload_n X dX10_votes_212 rfl rfl ?_
        refine re_getR X cl_10 (by decide) fl_RX10_92 ho rfl (zR_10_42 ho) dX10_votes_213 ?_
        refine re_iload_n X dX10_votes_216 rfl rfl ?_
        refine re_ck (fun hi27 => ?_)
        refine re_iald X (zQ_10_42 X.clo ho) hi27 (j := zIx x3) rfl dX10_votes_217 ?_
        refine re_goto (tgt := 225) X dX10_votes_218 (by decide) ?_
        refine re_putI X cl_10 (by decide) fl_RX10_277 ho rfl rfl rfl dX10_votes_225 (fun M28 => ?_)
        refine re_goto (tgt := 323) X dX10_votes_228 (by decide) ?_
        exact re_vret X dX10_votes_323
    refine re_if (fun e29 => ?_) (fun e29 => ?_)
    · refine re_sw_in (v := 4) (off := 152) (tgt := 231) X dX10_votes_79 e29 (by decide) (by decide) (by decide +kernel) (by decide) ?_
      refine re_aload_n X dX10_votes_231 rfl rfl ?_
      refine re_iconst (v := 0) X dX10_votes_232 (by decide) ?_
      refine re_putZ X cl_10 (by decide) fl_RX10_296 ho rfl rfl rfl (Or.inl rfl) dX10_votes_233 (fun M30 => ?_)
      refine re_aload_n X dX10_votes_236 rfl rfl ?_
      refine re_iconst (v := 0) X dX10_votes_237 (by decide) ?_
      refine re_putI X cl_10 (by decide) fl_RX10_299 ho rfl rfl rfl dX10_votes_238 (fun M31 => ?_)
      refine re_aload_n X dX10_votes_241 rfl rfl ?_
      refine re_iconst (v := 0) X dX10_votes_242 (by decide) ?_
      refine re_putI X cl_10 (by decide) fl_RX10_302 ho rfl rfl rfl dX10_votes_243 (fun M32 => ?_)
      refine re_aload_n X dX10_votes_246 rfl rfl ?_
      refine re_iconst (v := 0) X dX10_votes_247 (by decide) ?_
      refine re_putI X cl_10 (by decide) fl_RX10_293 ho rfl rfl rfl dX10_votes_248 (fun M33 => ?_)
      refine re_goto (tgt := 323) X dX10_votes_251 (by decide) ?_
      exact re_vret X dX10_votes_323
    refine re_if (fun e34 => ?_) (fun e34 => ?_)
    · refine re_sw_in (v := 5) (off := 175) (tgt := 254) X dX10_votes_79 e34 (by decide) (by decide) (by decide +kernel) (by decide) ?_
      refine re_aload_n X dX10_votes_254 rfl rfl ?_
      refine re_aload_n X dX10_votes_255 rfl rfl ?_
      refine re_getR X cl_10 (by decide) fl_RX10_92 ho rfl (zR_10_42 ho) dX10_votes_256 ?_
      refine re_iload_n X dX10_votes_259 rfl rfl ?_
      refine re_ck (fun hi35 => ?_)
      refine re_iald X (zQ_10_42 X.clo ho) hi35 (j := zIx x3) rfl dX10_votes_260 ?_
      refine re_if_le (tgt := 273) X dX10_votes_261 (by decide) (fun _ => ?_) (fun _ => ?_)
      · refine re_aload_n X dX10_votes_273 rfl rfl ?_
        refine re_getI X cl_10 (by decide) fl_RX10_283 ho rfl dX10_votes_274 ?_
        refine re_putI X cl_10 (by decide) fl_RX10_283 ho rfl rfl rfl dX10_votes_277 (fun M36 => ?_)
        refine re_goto (tgt := 323) X dX10_votes_280 (by decide) ?_
        exact re_vret X dX10_votes_323
      · refine re_aload_n X dX10_votes_264 rfl rfl ?_
        refine re_getR X cl_10 (by decide) fl_RX10_92 ho rfl (zR_10_42 ho) dX10_votes_265 ?_
        refine re_iload_n X dX10_votes_268 rfl rfl ?_
        refine re_ck (fun hi37 => ?_)
        refine re_iald X (zQ_10_42 X.clo ho) hi37 (j := zIx x3) rfl dX10_votes_269 ?_
        refine re_goto (tgt := 277) X dX10_votes_270 (by decide) ?_
        refine re_putI X cl_10 (by decide) fl_RX10_283 ho rfl rfl rfl dX10_votes_277 (fun M38 => ?_)
        refine re_goto (tgt := 323) X dX10_votes_280 (by decide) ?_
        exact re_vret X dX10_votes_323
    refine re_if (fun e39 => ?_) (fun e39 => ?_)
    · refine re_sw_in (v := 6) (off := 204) (tgt := 283) X dX10_votes_79 e39 (by decide) (by decide) (by decide +kernel) (by decide) ?_
      refine re_aload_n X dX10_votes_283 rfl rfl ?_
      refine re_iconst (v := 1) X dX10_votes_284 (by decide) ?_
      refine re_putZ X cl_10 (by decide) fl_RX10_290 ho rfl rfl rfl (Or.inr rfl) dX10_votes_285 (fun M40 => ?_)
      refine re_aload_n X dX10_votes_288 rfl rfl ?_
      refine re_iconst (v := 0) X dX10_votes_289 (by decide) ?_
      refine re_putI X cl_10 (by decide) fl_RX10_293 ho rfl rfl rfl dX10_votes_290 (fun M41 => ?_)
      refine re_goto (tgt := 323) X dX10_votes_293 (by decide) ?_
      exact re_vret X dX10_votes_323
    refine re_sw_out (tgt := 296) X dX10_votes_79 (by
        have e8 := lv_neT (a := 0) e8 (by decide)
        have e16 := lv_neT (a := 1) e16 (by decide)
        have e21 := lv_neT (a := 2) e21 (by decide)
        have e24 := lv_neT (a := 3) e24 (by decide)
        have e29 := lv_neT (a := 4) e29 (by decide)
        have e34 := lv_neT (a := 5) e34 (by decide)
        have e39 := lv_neT (a := 6) e39 (by decide)
        omega) (by decide) ?_
    refine re_aload_n X dX10_votes_296 rfl rfl ?_
    refine re_getR X cl_10 (by decide) fl_RX10_98 ho rfl (zR_10_44 ho) dX10_votes_297 ?_
    refine re_iload_n X dX10_votes_300 rfl rfl ?_
    refine re_ck (fun hi42 => ?_)
    refine re_iald X (zQ_10_44 X.clo ho) hi42 (j := zIx x3) rfl dX10_votes_301 ?_
    refine re_iconst (v := -1) X dX10_votes_302 (by decide) ?_
    refine re_icmp_eq (tgt := 323) X dX10_votes_303 (by decide) (fun _ => ?_) (fun _ => ?_)
    · exact re_vret X dX10_votes_323
    · refine re_aload_n X dX10_votes_306 rfl rfl ?_
      refine re_getR X cl_10 (by decide) fl_RX10_70 ho rfl (zR_10_24 ho) dX10_votes_307 ?_
      refine re_aload_n X dX10_votes_310 rfl rfl ?_
      refine re_getI X cl_10 (by decide) fl_RX10_265 ho rfl dX10_votes_311 ?_
      refine re_ck (fun hi43 => ?_)
      refine re_aald X (zQ_10_24 X.clo ho) (by decide) hi43 rfl (rw_105 (zIx_lt hi43)) dX10_votes_314 ?_
      refine re_aload_n X dX10_votes_315 rfl rfl ?_
      refine re_getR X cl_10 (by decide) fl_RX10_98 ho rfl (zR_10_44 ho) dX10_votes_316 ?_
      refine re_iload_n X dX10_votes_319 rfl rfl ?_
      refine re_ck (fun hi44 => ?_)
      refine re_iald X (zQ_10_44 X.clo ho) hi44 (j := zIx x3) rfl dX10_votes_320 ?_
      refine re_iconst (v := 1) X dX10_votes_321 (by decide) ?_
      refine re_ck (fun hi46 => ?_)
      refine re_zast X (rk_105 X.clo (zQ_10_24 X.clo ho) (zIx_lt hi43)) hi46 (j := zIx (M 115 (zIx x3))) rfl (zNar_b (Or.inr rfl)) dX10_votes_322 (fun M45 => ?_)
      exact re_vret X dX10_votes_323

set_option maxRecDepth 100000 in
theorem lb_X10_votes_34 {p : Program} {l : Launch} {e : Env} {s : State} {m : MethodId} {args : Array Value} {below : List Frame} {meth : Method} {c : Code} {w : zWD} {u1 : Int32} {u2 : Int32} (X : zCx p s m args meth c w (zFree w) RX10 cX10_votes 5 none) (ho : zKd w 74 = (10, 61)) : ∀ (x3 : Int32) (y0 : Int32) (y1 : Int32) (q2 : Nat) (M : zMem), zKd w q2 = (12, 300) → zRm p l e rm_X10_votes s m args below meth c w 0 34 [some (.ref (zA w 74)), none, some (.int u2), some (.int x3), none] [.int y0, .int y1, .ref (zA w q2)] M (f_X10_votes_B34 u1 u2 x3 y0 y1 q2 M) := by
  intro x3 y0 y1 q2 M hq2
  unfold f_X10_votes_B34
  refine re_ck (fun hi4 => ?_)
  refine re_iast X hq2 hi4 (j := zIx y1) rfl dX10_votes_34 (fun M3 => ?_)
  refine re_aload_n X dX10_votes_35 rfl rfl ?_
  refine re_getR X cl_10 (by decide) fl_RX10_86 ho rfl (zR_10_40 ho) dX10_votes_36 ?_
  refine re_iload_n X dX10_votes_39 rfl rfl ?_
  refine re_ck (fun hi5 => ?_)
  refine re_iald X (zQ_10_40 X.clo ho) hi5 (j := zIx x3) rfl dX10_votes_40 ?_
  refine re_bipush (v := 7) X dX10_votes_41 (by decide) ?_
  refine re_icmp_ne (tgt := 68) X dX10_votes_43 (by decide) (fun _ => ?_) (fun _ => ?_)
  · refine re_aload_n X dX10_votes_46 rfl rfl ?_
    refine re_getR X cl_10 (by decide) fl_RX10_98 ho rfl (zR_10_44 ho) dX10_votes_47 ?_
    refine re_iload_n X dX10_votes_50 rfl rfl ?_
    refine re_ck (fun hi6 => ?_)
    refine re_iald X (zQ_10_44 X.clo ho) hi6 (j := zIx x3) rfl dX10_votes_51 ?_
    refine re_iconst (v := -1) X dX10_votes_52 (by decide) ?_
    refine re_icmp_eq (tgt := 68) X dX10_votes_53 (by decide) (fun _ => ?_) (fun _ => ?_)
    · exact lb_X10_votes_68 X ho x3 M3
    · refine re_aload_n X dX10_votes_56 rfl rfl ?_
      refine re_getR X cl_10 (by decide) fl_RX10_107 ho rfl (zR_10_47 ho) dX10_votes_57 ?_
      refine re_aload_n X dX10_votes_60 rfl rfl ?_
      refine re_getR X cl_10 (by decide) fl_RX10_98 ho rfl (zR_10_44 ho) dX10_votes_61 ?_
      refine re_iload_n X dX10_votes_64 rfl rfl ?_
      refine re_ck (fun hi47 => ?_)
      refine re_iald X (zQ_10_44 X.clo ho) hi47 (j := zIx x3) rfl dX10_votes_65 ?_
      refine re_iconst (v := 1) X dX10_votes_66 (by decide) ?_
      refine re_ck (fun hi49 => ?_)
      refine re_zast X (zQ_10_47 X.clo ho) hi49 (j := zIx (M3 115 (zIx x3))) rfl (zNar_b (Or.inr rfl)) dX10_votes_67 (fun M48 => ?_)
      exact lb_X10_votes_68 X ho x3 M48
  · exact lb_X10_votes_68 X ho x3 M3

set_option maxRecDepth 100000 in
theorem lk_X10_votes (l : Launch) (w : zWD) (u1 : Int32) (u2 : Int32) (ho : zKd w 74 = (10, 61)) : zMt l w yX10_votes cX10_votes 5 none rm_X10_votes 0 [.ref (zA w 74), .int u1, .int u2] (fun M => f_X10_votes u1 u2 M) := by
  refine zMt.of (by decide) [some (.ref (zA w 74)), some (.int u1), some (.int u2), none, none] rfl (zle rfl) (by intro v hv; simp only [List.mem_cons, List.not_mem_nil, or_false] at hv; rcases hv with rfl | rfl | rfl <;> rfl) ?_
  intro p e s m args below meth c X M
  unfold f_X10_votes
  refine re_aload_n X dX10_votes_0 rfl rfl ?_
  refine re_dup X dX10_votes_1 rfl ?_
  refine re_getI X cl_10 (by decide) fl_RX10_293 ho rfl dX10_votes_2 ?_
  refine re_iconst (v := 1) X dX10_votes_5 (by decide) ?_
  refine re_isub X dX10_votes_6 ?_
  refine re_putI X cl_10 (by decide) fl_RX10_293 ho rfl rfl rfl dX10_votes_7 (fun M1 => ?_)
  refine re_aload_n X dX10_votes_10 rfl rfl ?_
  refine re_getI X cl_10 (by decide) fl_RX10_293 ho rfl dX10_votes_11 ?_
  refine re_istore_n (lv' := [some (.ref (zA w 74)), some (.int u1), some (.int u2), some (.int (M1 74 39)), none]) X dX10_votes_14 rfl (zlt rfl) rfl ?_
  refine re_aload_n X dX10_votes_15 rfl rfl ?_
  refine re_getR X cl_10 (by decide) fl_RX10_67 ho rfl (zR_10_23 ho) dX10_votes_16 ?_
  refine re_aload_n X dX10_votes_19 rfl rfl ?_
  refine re_getI X cl_10 (by decide) fl_RX10_265 ho rfl dX10_votes_20 ?_
  refine re_ck (fun hi2 => ?_)
  refine re_aald X (zQ_10_23 X.clo ho) (by decide) hi2 rfl (rw_102 (zIx_lt hi2)) dX10_votes_23 ?_
  refine re_iload_n X dX10_votes_24 rfl rfl ?_
  refine re_iload_n X dX10_votes_25 rfl rfl ?_
  refine re_if_eq (tgt := 33) X dX10_votes_26 (by decide) (fun _ => ?_) (fun _ => ?_)
  · refine re_iconst (v := 0) X dX10_votes_33 (by decide) ?_
    exact re_sub (lb_X10_votes_34 X ho (M1 74 39) 0 u1 (103 + zIx (M1 74 25)) M1 (rk_102 X.clo (zQ_10_23 X.clo ho) (zIx_lt hi2))) ⟨rfl, ⟨rfl, ⟨rfl, trivial⟩⟩⟩
  · refine re_iconst (v := 1) X dX10_votes_29 (by decide) ?_
    refine re_goto (tgt := 34) X dX10_votes_30 (by decide) ?_
    exact re_sub (lb_X10_votes_34 X ho (M1 74 39) 1 u1 (103 + zIx (M1 74 25)) M1 (rk_102 X.clo (zQ_10_23 X.clo ho) (zIx_lt hi2))) ⟨rfl, ⟨rfl, ⟨rfl, trivial⟩⟩⟩
theorem ca_X10_votes {R : Room} (h1 : rm_X10_votes.frames + 1 ≤ R.frames) (h2 : 8 + (5 + 11) + rm_X10_votes.locals ≤ R.locals) : zCa yX10_votes cX10_votes 5 none rm_X10_votes R 2 := ⟨cd_X10_votes, iz_RX10, ⟨by decide, by decide, by decide⟩, rfl, rfl, h1, h2⟩
/-! DebateHouseModel.does -/
abbrev rm_X10_does : Room := { frames := 4, cells := 0, slots := 0, locals := 93 }
def f_X10_does_B250 (u1 : Int32)  (M : zMem) : zTr := zCk (zIn u1 300) (if (M 74 36) ≤ (M 97 (zIx u1)) then zLt (zUp M 74 36 0) (fun M35 => some (0, M35)) else zCk (zIn u1 300) (zLt (zUp M 74 36 ((M 74 36) - (M 97 (zIx u1)))) (fun M37 => some (0, M37))))
def f_X10_does_B362 (u1 : Int32)  (y0 : Int32) (y1 : Int32) (M : zMem) : zTr := zBd (f_X10_votes y1 y0 M) (fun _ M60 => some (0, M60))
def f_X10_does (u1 : Int32) (M : zMem) : zTr := zCk (zIn u1 300) (zCk (zIn u1 300) (if (M 94 (zIx u1)) = 0 then zCk (zIn (M 95 (zIx u1)) 24) (zLt (zUp M 108 (zIx (M 95 (zIx u1))) 1) (fun M4 => some (0, M4))) else if (M 94 (zIx u1)) = 1 then zCk (zIn (M 95 (zIx u1)) 24) (zLt (zUp M 108 (zIx (M 95 (zIx u1))) 0) (fun M7 => zBd (f_X10_leaves (M 95 (zIx u1)) M7) (fun _ M10 => if (M10 74 32) = (M 95 (zIx u1)) then zBd (f_X10_free M10) (fun _ M12 => some (0, M12)) else some (0, M10)))) else if (M 94 (zIx u1)) = 2 then zCk (zIn (M 74 31) 24) (zLt (zUp M 109 (zIx (M 74 31)) (M 95 (zIx u1))) (fun M14 => zLt (zUp M14 74 31 ((M14 74 31) + 1)) (fun M16 => some (0, M16)))) else if (M 94 (zIx u1)) = 3 then zBd (f_X10_next 109 (M 74 31) 110 M) (fun r18 M19 => zCk (zIn r18 24) (zBd (f_X10_leaves (M19 109 (zIx r18)) M19) (fun _ M22 => zCk (zIn (M19 109 (zIx r18)) 24) (zCk (zIn (M19 109 (zIx r18)) 24) (zLt (zUp M22 110 (zIx (M19 109 (zIx r18))) ((M22 110 (zIx (M19 109 (zIx r18)))) + 1)) (fun M24 => zLt (zUp M24 74 32 (M19 109 (zIx r18))) (fun M26 => zLt (zUp M26 74 33 (M26 74 34)) (fun M27 => zLt (zUp M27 74 37 0) (fun M28 => if (M28 74 39) ≤ 0 then some (0, M28) else zCk (zIn ((M28 74 39) - 1) 12) (zLt (zUp M28 117 (zIx ((M28 74 39) - 1)) 1) (fun M29 => some (0, M29)))))))))))) else if (M 94 (zIx u1)) = 4 then zCk (zIn u1 300) (zLt (zUp M 74 35 ((M 74 35) + (M 97 (zIx u1)))) (fun M33 => if (M33 74 32) = (-1) then f_X10_does_B250 u1 M33 else zCk (zIn u1 300) (zLt (zUp M33 74 33 ((M33 74 33) - (M33 97 (zIx u1)))) (fun M39 => if 0 < (M39 74 33) then f_X10_does_B250 u1 M39 else zBd (f_X10_free M39) (fun _ M41 => f_X10_does_B250 u1 M41))))) else if (M 94 (zIx u1)) = 5 then zLt (zUp M 74 32 (M 95 (zIx u1))) (fun M43 => zLt (zUp M43 74 37 1) (fun M44 => some (0, M44))) else if (M 94 (zIx u1)) = 6 then zBd (f_X10_moves u1 M) (fun _ M47 => some (0, M47)) else if (M 94 (zIx u1)) = 7 then zCk (zIn ((M 74 39) - 1) 12) (zLt (zUp M 116 (zIx ((M 74 39) - 1)) 1) (fun M49 => some (0, M49))) else if (M 94 (zIx u1)) = 8 then zCk (zIn u1 300) (zCk (zIn u1 300) (zBd (f_X10_isPassing (M 97 (zIx u1)) (M 98 (zIx u1)) M) (fun r54 M55 => zBd (f_X10_votes u1 r54 M55) (fun _ M57 => some (0, M57))))) else zCk (zIn u1 300) (if (M 97 (zIx u1)) = 1 then f_X10_does_B362 u1 1 u1 M else f_X10_does_B362 u1 0 u1 M)))
set_option maxRecDepth 100000 in
theorem lb_X10_does_250 {p : Program} {l : Launch} {e : Env} {s : State} {m : MethodId} {args : Array Value} {below : List Frame} {meth : Method} {c : Code} {w : zWD} {u1 : Int32} (X : zCx p s m args meth c w (zFree w) RX10 cX10_does 4 none) (ho : zKd w 74 = (10, 61)) : ∀ (M : zMem), zRm p l e rm_X10_does s m args below meth c w 0 250 [some (.ref (zA w 74)), some (.int u1), none, none] [] M (f_X10_does_B250 u1 M) := by
  intro M
  unfold f_X10_does_B250
  refine re_aload_n X dX10_does_250 rfl rfl ?_
  refine re_aload_n X dX10_does_251 rfl rfl ?_
  refine re_getI X cl_10 (by decide) fl_RX10_283 ho rfl dX10_does_252 ?_
  refine re_aload_n X dX10_does_255 rfl rfl ?_
  refine re_getR X cl_10 (by decide) fl_RX10_58 ho rfl (zR_10_20 ho) dX10_does_256 ?_
  refine re_iload_n X dX10_does_259 rfl rfl ?_
  refine re_ck (fun hi34 => ?_)
  refine re_iald X (zQ_10_20 X.clo ho) hi34 (j := zIx u1) rfl dX10_does_260 ?_
  refine re_icmp_le (tgt := 278) X dX10_does_261 (by decide) (fun _ => ?_) (fun _ => ?_)
  · refine re_iconst (v := 0) X dX10_does_278 (by decide) ?_
    refine re_putI X cl_10 (by decide) fl_RX10_283 ho rfl rfl rfl dX10_does_279 (fun M35 => ?_)
    refine re_goto (tgt := 365) X dX10_does_282 (by decide) ?_
    exact re_vret X dX10_does_365
  · refine re_aload_n X dX10_does_264 rfl rfl ?_
    refine re_getI X cl_10 (by decide) fl_RX10_283 ho rfl dX10_does_265 ?_
    refine re_aload_n X dX10_does_268 rfl rfl ?_
    refine re_getR X cl_10 (by decide) fl_RX10_58 ho rfl (zR_10_20 ho) dX10_does_269 ?_
    refine re_iload_n X dX10_does_272 rfl rfl ?_
    refine re_ck (fun hi36 => ?_)
    refine re_iald X (zQ_10_20 X.clo ho) hi36 (j := zIx u1) rfl dX10_does_273 ?_
    refine re_isub X dX10_does_274 ?_
    refine re_goto (tgt := 279) X dX10_does_275 (by decide) ?_
    refine re_putI X cl_10 (by decide) fl_RX10_283 ho rfl rfl rfl dX10_does_279 (fun M37 => ?_)
    refine re_goto (tgt := 365) X dX10_does_282 (by decide) ?_
    exact re_vret X dX10_does_365

set_option maxRecDepth 100000 in
theorem lb_X10_does_362 {p : Program} {l : Launch} {e : Env} {s : State} {m : MethodId} {args : Array Value} {below : List Frame} {meth : Method} {c : Code} {w : zWD} {u1 : Int32} (X : zCx p s m args meth c w (zFree w) RX10 cX10_does 4 none) (ho : zKd w 74 = (10, 61)) : ∀ (y0 : Int32) (y1 : Int32) (M : zMem), zRm p l e rm_X10_does s m args below meth c w 0 362 [none, none, none, none] [.int y0, .int y1, .ref (zA w 74)] M (f_X10_does_B362 u1 y0 y1 M) := by
  intro y0 y1 M
  unfold f_X10_does_B362
  refine re_callVv X (lk_X10_votes l w y1 y0 ho) (ca_X10_votes (by decide) (by decide)) ml_RX10_352 im_X10_votes se_X10_votes cl_10 ho rfl rfl rfl (zle rfl) zRo dX10_does_362 (fun r59 M60 hr59 => ?_)
  exact re_vret X dX10_does_365

set_option maxRecDepth 100000 in
theorem lk_X10_does (l : Launch) (w : zWD) (u1 : Int32) (ho : zKd w 74 = (10, 61)) : zMt l w yX10_does cX10_does 4 none rm_X10_does 0 [.ref (zA w 74), .int u1] (fun M => f_X10_does u1 M) := by
  refine zMt.of (by decide) [some (.ref (zA w 74)), some (.int u1), none, none] rfl (zle rfl) (by intro v hv; simp only [List.mem_cons, List.not_mem_nil, or_false] at hv; rcases hv with rfl | rfl <;> rfl) ?_
  intro p e s m args below meth c X M
  unfold f_X10_does
  refine re_aload_n X dX10_does_0 rfl rfl ?_
  refine re_getR X cl_10 (by decide) fl_RX10_52 ho rfl (zR_10_18 ho) dX10_does_1 ?_
  refine re_iload_n X dX10_does_4 rfl rfl ?_
  refine re_ck (fun hi1 => ?_)
  refine re_iald X (zQ_10_18 X.clo ho) hi1 (j := zIx u1) rfl dX10_does_5 ?_
  refine re_istore_n (lv' := [some (.ref (zA w 74)), some (.int u1), some (.int (M 95 (zIx u1))), none]) X dX10_does_6 rfl (zlt rfl) rfl ?_
  refine re_aload_n X dX10_does_7 rfl rfl ?_
  refine re_getR X cl_10 (by decide) fl_RX10_49 ho rfl (zR_10_17 ho) dX10_does_8 ?_
  refine re_iload_n X dX10_does_11 rfl rfl ?_
  refine re_ck (fun hi2 => ?_)
  refine re_iald X (zQ_10_17 X.clo ho) hi2 (j := zIx u1) rfl dX10_does_12 ?_
  refine re_if (fun e3 => ?_) (fun e3 => ?_)
  · refine re_sw_in (v := 0) (off := 51) (tgt := 64) X dX10_does_13 e3 (by decide) (by decide) (by decide +kernel) (by decide) ?_
    refine re_aload_n X dX10_does_64 rfl rfl ?_
    refine re_getR X cl_10 (by decide) fl_RX10_77 ho rfl (zR_10_28 ho) dX10_does_65 ?_
    refine re_iload_n X dX10_does_68 rfl rfl ?_
    refine re_iconst (v := 1) X dX10_does_69 (by decide) ?_
    refine re_ck (fun hi5 => ?_)
    refine re_zast X (zQ_10_28 X.clo ho) hi5 (j := zIx (M 95 (zIx u1))) rfl (zNar_b (Or.inr rfl)) dX10_does_70 (fun M4 => ?_)
    refine re_goto (tgt := 365) X dX10_does_71 (by decide) ?_
    exact re_vret X dX10_does_365
  refine re_if (fun e6 => ?_) (fun e6 => ?_)
  · refine re_sw_in (v := 1) (off := 61) (tgt := 74) X dX10_does_13 e6 (by decide) (by decide) (by decide +kernel) (by decide) ?_
    refine re_aload_n X dX10_does_74 rfl rfl ?_
    refine re_getR X cl_10 (by decide) fl_RX10_77 ho rfl (zR_10_28 ho) dX10_does_75 ?_
    refine re_iload_n X dX10_does_78 rfl rfl ?_
    refine re_iconst (v := 0) X dX10_does_79 (by decide) ?_
    refine re_ck (fun hi8 => ?_)
    refine re_zast X (zQ_10_28 X.clo ho) hi8 (j := zIx (M 95 (zIx u1))) rfl (zNar_b (Or.inl rfl)) dX10_does_80 (fun M7 => ?_)
    refine re_aload_n X dX10_does_81 rfl rfl ?_
    refine re_iload_n X dX10_does_82 rfl rfl ?_
    refine re_callVv X (lk_X10_leaves l w (M 95 (zIx u1)) ho) (ca_X10_leaves (by decide) (by decide)) ml_RX10_336 im_X10_leaves se_X10_leaves cl_10 ho rfl rfl rfl (zle rfl) zRo dX10_does_83 (fun r9 M10 hr9 => ?_)
    refine re_aload_n X dX10_does_86 rfl rfl ?_
    refine re_getI X cl_10 (by decide) fl_RX10_271 ho rfl dX10_does_87 ?_
    refine re_iload_n X dX10_does_90 rfl rfl ?_
    refine re_icmp_ne (tgt := 365) X dX10_does_91 (by decide) (fun _ => ?_) (fun _ => ?_)
    · refine re_aload_n X dX10_does_94 rfl rfl ?_
      refine re_callVv X (lk_X10_free l w ho) (ca_X10_free (by decide) (by decide)) ml_RX10_339 im_X10_free se_X10_free cl_10 ho rfl rfl rfl (zle rfl) zRo dX10_does_95 (fun r11 M12 hr11 => ?_)
      refine re_goto (tgt := 365) X dX10_does_98 (by decide) ?_
      exact re_vret X dX10_does_365
    · exact re_vret X dX10_does_365
  refine re_if (fun e13 => ?_) (fun e13 => ?_)
  · refine re_sw_in (v := 2) (off := 88) (tgt := 101) X dX10_does_13 e13 (by decide) (by decide) (by decide +kernel) (by decide) ?_
    refine re_aload_n X dX10_does_101 rfl rfl ?_
    refine re_getR X cl_10 (by decide) fl_RX10_80 ho rfl (zR_10_29 ho) dX10_does_102 ?_
    refine re_aload_n X dX10_does_105 rfl rfl ?_
    refine re_getI X cl_10 (by decide) fl_RX10_268 ho rfl dX10_does_106 ?_
    refine re_iload_n X dX10_does_109 rfl rfl ?_
    refine re_ck (fun hi15 => ?_)
    refine re_iast X (zQ_10_29 X.clo ho) hi15 (j := zIx (M 74 31)) rfl dX10_does_110 (fun M14 => ?_)
    refine re_aload_n X dX10_does_111 rfl rfl ?_
    refine re_dup X dX10_does_112 rfl ?_
    refine re_getI X cl_10 (by decide) fl_RX10_268 ho rfl dX10_does_113 ?_
    refine re_iconst (v := 1) X dX10_does_116 (by decide) ?_
    refine re_iadd X dX10_does_117 ?_
    refine re_putI X cl_10 (by decide) fl_RX10_268 ho rfl rfl rfl dX10_does_118 (fun M16 => ?_)
    refine re_goto (tgt := 365) X dX10_does_121 (by decide) ?_
    exact re_vret X dX10_does_365
  refine re_if (fun e17 => ?_) (fun e17 => ?_)
  · refine re_sw_in (v := 3) (off := 111) (tgt := 124) X dX10_does_13 e17 (by decide) (by decide) (by decide +kernel) (by decide) ?_
    refine re_aload_n X dX10_does_124 rfl rfl ?_
    refine re_getR X cl_10 (by decide) fl_RX10_80 ho rfl (zR_10_29 ho) dX10_does_125 ?_
    refine re_aload_n X dX10_does_128 rfl rfl ?_
    refine re_aload_n X dX10_does_129 rfl rfl ?_
    refine re_getR X cl_10 (by decide) fl_RX10_80 ho rfl (zR_10_29 ho) dX10_does_130 ?_
    refine re_aload_n X dX10_does_133 rfl rfl ?_
    refine re_getI X cl_10 (by decide) fl_RX10_268 ho rfl dX10_does_134 ?_
    refine re_aload_n X dX10_does_137 rfl rfl ?_
    refine re_getR X cl_10 (by decide) fl_RX10_83 ho rfl (zR_10_30 ho) dX10_does_138 ?_
    refine re_callVi X (lk_X10_next l w 109 (M 74 31) 110 ho (zQ_10_29 X.clo ho) (zQ_10_30 X.clo ho)) (ca_X10_next (by decide) (by decide)) ml_RX10_342 im_X10_next se_X10_next cl_10 ho rfl rfl rfl (zle rfl) zRo dX10_does_141 (fun r18 M19 hr18 => ?_)
    refine re_ck (fun hi20 => ?_)
    refine re_iald X (zQ_10_29 X.clo ho) hi20 (j := zIx r18) rfl dX10_does_144 ?_
    refine re_istore_n (lv' := [some (.ref (zA w 74)), some (.int u1), some (.int (M 95 (zIx u1))), some (.int (M19 109 (zIx r18)))]) X dX10_does_145 rfl (zlt rfl) rfl ?_
    refine re_aload_n X dX10_does_146 rfl rfl ?_
    refine re_iload_n X dX10_does_147 rfl rfl ?_
    refine re_callVv X (lk_X10_leaves l w (M19 109 (zIx r18)) ho) (ca_X10_leaves (by decide) (by decide)) ml_RX10_336 im_X10_leaves se_X10_leaves cl_10 ho rfl rfl rfl (zle rfl) zRo dX10_does_148 (fun r21 M22 hr21 => ?_)
    refine re_aload_n X dX10_does_151 rfl rfl ?_
    refine re_getR X cl_10 (by decide) fl_RX10_83 ho rfl (zR_10_30 ho) dX10_does_152 ?_
    refine re_iload_n X dX10_does_155 rfl rfl ?_
    refine re_dup2 X dX10_does_156 rfl rfl ?_
    refine re_ck (fun hi23 => ?_)
    refine re_iald X (zQ_10_30 X.clo ho) hi23 (j := zIx (M19 109 (zIx r18))) rfl dX10_does_157 ?_
    refine re_iconst (v := 1) X dX10_does_158 (by decide) ?_
    refine re_iadd X dX10_does_159 ?_
    refine re_ck (fun hi25 => ?_)
    refine re_iast X (zQ_10_30 X.clo ho) hi25 (j := zIx (M19 109 (zIx r18))) rfl dX10_does_160 (fun M24 => ?_)
    refine re_aload_n X dX10_does_161 rfl rfl ?_
    refine re_iload_n X dX10_does_162 rfl rfl ?_
    refine re_putI X cl_10 (by decide) fl_RX10_271 ho rfl rfl rfl dX10_does_163 (fun M26 => ?_)
    refine re_aload_n X dX10_does_166 rfl rfl ?_
    refine re_aload_n X dX10_does_167 rfl rfl ?_
    refine re_getI X cl_10 (by decide) fl_RX10_277 ho rfl dX10_does_168 ?_
    refine re_putI X cl_10 (by decide) fl_RX10_274 ho rfl rfl rfl dX10_does_171 (fun M27 => ?_)
    refine re_aload_n X dX10_does_174 rfl rfl ?_
    refine re_iconst (v := 0) X dX10_does_175 (by decide) ?_
    refine re_putZ X cl_10 (by decide) fl_RX10_286 ho rfl rfl rfl (Or.inl rfl) dX10_does_176 (fun M28 => ?_)
    refine re_aload_n X dX10_does_179 rfl rfl ?_
    refine re_getI X cl_10 (by decide) fl_RX10_293 ho rfl dX10_does_180 ?_
    refine re_if_le (tgt := 365) X dX10_does_183 (by decide) (fun _ => ?_) (fun _ => ?_)
    · exact re_vret X dX10_does_365
    · refine re_aload_n X dX10_does_186 rfl rfl ?_
      refine re_getR X cl_10 (by decide) fl_RX10_104 ho rfl (zR_10_46 ho) dX10_does_187 ?_
      refine re_aload_n X dX10_does_190 rfl rfl ?_
      refine re_getI X cl_10 (by decide) fl_RX10_293 ho rfl dX10_does_191 ?_
      refine re_iconst (v := 1) X dX10_does_194 (by decide) ?_
      refine re_isub X dX10_does_195 ?_
      refine re_iconst (v := 1) X dX10_does_196 (by decide) ?_
      refine re_ck (fun hi30 => ?_)
      refine re_zast X (zQ_10_46 X.clo ho) hi30 (j := zIx ((M28 74 39) - 1)) rfl (zNar_b (Or.inr rfl)) dX10_does_197 (fun M29 => ?_)
      refine re_goto (tgt := 365) X dX10_does_198 (by decide) ?_
      exact re_vret X dX10_does_365
  refine re_if (fun e31 => ?_) (fun e31 => ?_)
  · refine re_sw_in (v := 4) (off := 188) (tgt := 201) X dX10_does_13 e31 (by decide) (by decide) (by decide +kernel) (by decide) ?_
    refine re_aload_n X dX10_does_201 rfl rfl ?_
    refine re_dup X dX10_does_202 rfl ?_
    refine re_getI X cl_10 (by decide) fl_RX10_280 ho rfl dX10_does_203 ?_
    refine re_aload_n X dX10_does_206 rfl rfl ?_
    refine re_getR X cl_10 (by decide) fl_RX10_58 ho rfl (zR_10_20 ho) dX10_does_207 ?_
    refine re_iload_n X dX10_does_210 rfl rfl ?_
    refine re_ck (fun hi32 => ?_)
    refine re_iald X (zQ_10_20 X.clo ho) hi32 (j := zIx u1) rfl dX10_does_211 ?_
    refine re_iadd X dX10_does_212 ?_
    refine re_putI X cl_10 (by decide) fl_RX10_280 ho rfl rfl rfl dX10_does_213 (fun M33 => ?_)
    refine re_aload_n X dX10_does_216 rfl rfl ?_
    refine re_getI X cl_10 (by decide) fl_RX10_271 ho rfl dX10_does_217 ?_
    refine re_iconst (v := -1) X dX10_does_220 (by decide) ?_
    refine re_icmp_eq (tgt := 250) X dX10_does_221 (by decide) (fun _ => ?_) (fun _ => ?_)
    · exact re_sub (lb_X10_does_250 X ho M33) ⟨rfl, ⟨rfl, trivial⟩⟩
    · refine re_aload_n X dX10_does_224 rfl rfl ?_
      refine re_dup X dX10_does_225 rfl ?_
      refine re_getI X cl_10 (by decide) fl_RX10_274 ho rfl dX10_does_226 ?_
      refine re_aload_n X dX10_does_229 rfl rfl ?_
      refine re_getR X cl_10 (by decide) fl_RX10_58 ho rfl (zR_10_20 ho) dX10_does_230 ?_
      refine re_iload_n X dX10_does_233 rfl rfl ?_
      refine re_ck (fun hi38 => ?_)
      refine re_iald X (zQ_10_20 X.clo ho) hi38 (j := zIx u1) rfl dX10_does_234 ?_
      refine re_isub X dX10_does_235 ?_
      refine re_putI X cl_10 (by decide) fl_RX10_274 ho rfl rfl rfl dX10_does_236 (fun M39 => ?_)
      refine re_aload_n X dX10_does_239 rfl rfl ?_
      refine re_getI X cl_10 (by decide) fl_RX10_274 ho rfl dX10_does_240 ?_
      refine re_if_gt (tgt := 250) X dX10_does_243 (by decide) (fun _ => ?_) (fun _ => ?_)
      · exact re_sub (lb_X10_does_250 X ho M39) ⟨rfl, ⟨rfl, trivial⟩⟩
      · refine re_aload_n X dX10_does_246 rfl rfl ?_
        refine re_callVv X (lk_X10_free l w ho) (ca_X10_free (by decide) (by decide)) ml_RX10_339 im_X10_free se_X10_free cl_10 ho rfl rfl rfl (zle rfl) zRo dX10_does_247 (fun r40 M41 hr40 => ?_)
        exact re_sub (lb_X10_does_250 X ho M41) ⟨rfl, ⟨rfl, trivial⟩⟩
  refine re_if (fun e42 => ?_) (fun e42 => ?_)
  · refine re_sw_in (v := 5) (off := 272) (tgt := 285) X dX10_does_13 e42 (by decide) (by decide) (by decide +kernel) (by decide) ?_
    refine re_aload_n X dX10_does_285 rfl rfl ?_
    refine re_iload_n X dX10_does_286 rfl rfl ?_
    refine re_putI X cl_10 (by decide) fl_RX10_271 ho rfl rfl rfl dX10_does_287 (fun M43 => ?_)
    refine re_aload_n X dX10_does_290 rfl rfl ?_
    refine re_iconst (v := 1) X dX10_does_291 (by decide) ?_
    refine re_putZ X cl_10 (by decide) fl_RX10_286 ho rfl rfl rfl (Or.inr rfl) dX10_does_292 (fun M44 => ?_)
    refine re_goto (tgt := 365) X dX10_does_295 (by decide) ?_
    exact re_vret X dX10_does_365
  refine re_if (fun e45 => ?_) (fun e45 => ?_)
  · refine re_sw_in (v := 6) (off := 285) (tgt := 298) X dX10_does_13 e45 (by decide) (by decide) (by decide +kernel) (by decide) ?_
    refine re_aload_n X dX10_does_298 rfl rfl ?_
    refine re_iload_n X dX10_does_299 rfl rfl ?_
    refine re_callVv X (lk_X10_moves l w u1 ho) (ca_X10_moves (by decide) (by decide)) ml_RX10_346 im_X10_moves se_X10_moves cl_10 ho rfl rfl rfl (zle rfl) zRo dX10_does_300 (fun r46 M47 hr46 => ?_)
    refine re_goto (tgt := 365) X dX10_does_303 (by decide) ?_
    exact re_vret X dX10_does_365
  refine re_if (fun e48 => ?_) (fun e48 => ?_)
  · refine re_sw_in (v := 7) (off := 293) (tgt := 306) X dX10_does_13 e48 (by decide) (by decide) (by decide +kernel) (by decide) ?_
    refine re_aload_n X dX10_does_306 rfl rfl ?_
    refine re_getR X cl_10 (by decide) fl_RX10_101 ho rfl (zR_10_45 ho) dX10_does_307 ?_
    refine re_aload_n X dX10_does_310 rfl rfl ?_
    refine re_getI X cl_10 (by decide) fl_RX10_293 ho rfl dX10_does_311 ?_
    refine re_iconst (v := 1) X dX10_does_314 (by decide) ?_
    refine re_isub X dX10_does_315 ?_
    refine re_iconst (v := 1) X dX10_does_316 (by decide) ?_
    refine re_ck (fun hi50 => ?_)
    refine re_zast X (zQ_10_45 X.clo ho) hi50 (j := zIx ((M 74 39) - 1)) rfl (zNar_b (Or.inr rfl)) dX10_does_317 (fun M49 => ?_)
    refine re_goto (tgt := 365) X dX10_does_318 (by decide) ?_
    exact re_vret X dX10_does_365
  refine re_if (fun e51 => ?_) (fun e51 => ?_)
  · refine re_sw_in (v := 8) (off := 308) (tgt := 321) X dX10_does_13 e51 (by decide) (by decide) (by decide +kernel) (by decide) ?_
    refine re_aload_n X dX10_does_321 rfl rfl ?_
    refine re_iload_n X dX10_does_322 rfl rfl ?_
    refine re_aload_n X dX10_does_323 rfl rfl ?_
    refine re_aload_n X dX10_does_324 rfl rfl ?_
    refine re_getR X cl_10 (by decide) fl_RX10_58 ho rfl (zR_10_20 ho) dX10_does_325 ?_
    refine re_iload_n X dX10_does_328 rfl rfl ?_
    refine re_ck (fun hi52 => ?_)
    refine re_iald X (zQ_10_20 X.clo ho) hi52 (j := zIx u1) rfl dX10_does_329 ?_
    refine re_aload_n X dX10_does_330 rfl rfl ?_
    refine re_getR X cl_10 (by decide) fl_RX10_61 ho rfl (zR_10_21 ho) dX10_does_331 ?_
    refine re_iload_n X dX10_does_334 rfl rfl ?_
    refine re_ck (fun hi53 => ?_)
    refine re_iald X (zQ_10_21 X.clo ho) hi53 (j := zIx u1) rfl dX10_does_335 ?_
    refine re_callVz X (lk_X10_isPassing l w (M 97 (zIx u1)) (M 98 (zIx u1)) ho) (ca_X10_isPassing (by decide) (by decide)) ml_RX10_349 im_X10_isPassing se_X10_isPassing cl_10 ho rfl rfl rfl (zle rfl) zRo dX10_does_336 (fun r54 M55 hr54 => ?_)
    refine re_callVv X (lk_X10_votes l w u1 r54 ho) (ca_X10_votes (by decide) (by decide)) ml_RX10_352 im_X10_votes se_X10_votes cl_10 ho rfl rfl rfl (zle rfl) zRo dX10_does_339 (fun r56 M57 hr56 => ?_)
    refine re_goto (tgt := 365) X dX10_does_342 (by decide) ?_
    exact re_vret X dX10_does_365
  refine re_sw_out (tgt := 345) X dX10_does_13 (by
      have e3 := lv_neT (a := 0) e3 (by decide)
      have e6 := lv_neT (a := 1) e6 (by decide)
      have e13 := lv_neT (a := 2) e13 (by decide)
      have e17 := lv_neT (a := 3) e17 (by decide)
      have e31 := lv_neT (a := 4) e31 (by decide)
      have e42 := lv_neT (a := 5) e42 (by decide)
      have e45 := lv_neT (a := 6) e45 (by decide)
      have e48 := lv_neT (a := 7) e48 (by decide)
      have e51 := lv_neT (a := 8) e51 (by decide)
      omega) (by decide) ?_
  refine re_aload_n X dX10_does_345 rfl rfl ?_
  refine re_iload_n X dX10_does_346 rfl rfl ?_
  refine re_aload_n X dX10_does_347 rfl rfl ?_
  refine re_getR X cl_10 (by decide) fl_RX10_58 ho rfl (zR_10_20 ho) dX10_does_348 ?_
  refine re_iload_n X dX10_does_351 rfl rfl ?_
  refine re_ck (fun hi58 => ?_)
  refine re_iald X (zQ_10_20 X.clo ho) hi58 (j := zIx u1) rfl dX10_does_352 ?_
  refine re_iconst (v := 1) X dX10_does_353 (by decide) ?_
  refine re_icmp_ne (tgt := 361) X dX10_does_354 (by decide) (fun _ => ?_) (fun _ => ?_)
  · refine re_iconst (v := 1) X dX10_does_357 (by decide) ?_
    refine re_goto (tgt := 362) X dX10_does_358 (by decide) ?_
    exact re_sub (lb_X10_does_362 X ho 1 u1 M) trivial
  · refine re_iconst (v := 0) X dX10_does_361 (by decide) ?_
    exact re_sub (lb_X10_does_362 X ho 0 u1 M) trivial
theorem ca_X10_does {R : Room} (h1 : rm_X10_does.frames + 1 ≤ R.frames) (h2 : 8 + (4 + 11) + rm_X10_does.locals ≤ R.locals) : zCa yX10_does cX10_does 4 none rm_X10_does R 1 := ⟨cd_X10_does, iz_RX10, ⟨by decide, by decide, by decide⟩, rfl, rfl, h1, h2⟩
/-! DebateHouseModel.works -/
abbrev rm_X10_works : Room := { frames := 5, cells := 0, slots := 0, locals := 117 }
def f_X10_works_B174 (u1 : Int32)  (x2 : Int32) (M : zMem) : zTr := zCk (zIn (M 74 25) 2) (zCk (zIn u1 300) (zLt (zUp M (100 + zIx (M 74 25)) (zIx u1) x2) (fun M14 => if x2 = 0 then zBd (f_X10_does u1 M14) (fun _ M17 => some (0, M17)) else some (0, M14))))
def f_X10_works_B165 (u1 : Int32)  (x4 : Int32) (y0 : Int32) (M : zMem) : zTr := if x4 = 0 then f_X10_works_B174 u1 6 M else f_X10_works_B174 u1 y0 M
def f_X10_works_B152 (u1 : Int32)  (x2 : Int32) (x4 : Int32) (y0 : Int32) (M : zMem) : zTr := zCk (y0 = 0 ∨ y0 = 1) (zLt (zUp M 74 27 y0) (fun M11 => if x2 = 0 then f_X10_works_B165 u1 x4 6 M11 else f_X10_works_B165 u1 x4 0 M11))
def f_X10_works_B147 (u1 : Int32)  (x2 : Int32) (x4 : Int32) (M : zMem) : zTr := f_X10_works_B152 u1 x2 x4 1 M
def f_X10_works_B132 (u1 : Int32)  (x2 : Int32) (y0 : Int32) (M : zMem) : zTr := if (M 74 27) = 0 then (if y0 = 0 then f_X10_works_B147 u1 x2 y0 M else f_X10_works_B152 u1 x2 y0 0 M) else f_X10_works_B147 u1 x2 y0 M
def f_X10_works_B127 (u1 : Int32)  (x2 : Int32) (M : zMem) : zTr := f_X10_works_B132 u1 x2 1 M
def f_X10_works_B131 (u1 : Int32)  (x2 : Int32) (M : zMem) : zTr := f_X10_works_B132 u1 x2 0 M
def f_X10_works_B94 (u1 : Int32)  (x2 : Int32) (y0 : Int32) (M : zMem) : zTr := if x2 = 0 then f_X10_works_B127 u1 x2 M else if x2 = 6 then (if y0 = 0 then zCk (zIn u1 300) (if (M 94 (zIx u1)) = 5 then (if (M 74 32) = (-1) then f_X10_works_B131 u1 x2 M else f_X10_works_B127 u1 x2 M) else f_X10_works_B131 u1 x2 M) else f_X10_works_B127 u1 x2 M) else f_X10_works_B131 u1 x2 M
def f_X10_works_B93 (u1 : Int32)  (x2 : Int32) (M : zMem) : zTr := f_X10_works_B94 u1 x2 0 M
def f_X10_works_B76 (u1 : Int32)  (x2 : Int32) (y0 : Int32) (M : zMem) : zTr := zCk (zIn y0 8) (if (M 78 (zIx y0)) ≤ 0 then f_X10_works_B93 u1 x2 M else if 8 ≤ (M 74 39) then f_X10_works_B93 u1 x2 M else f_X10_works_B94 u1 x2 1 M)
def f_X10_works (u1 : Int32) (M : zMem) : zTr := zCk (zIn (M 74 25) 2) (zCk (zIn u1 300) (zLt (zUp M (103 + zIx (M 74 25)) (zIx u1) (-1)) (fun M2 => zBd (f_X10_rule u1 M2) (fun r4 M5 => if (M5 74 25) = 1 then (if u1 = (M5 74 26) then zCk (zIn u1 300) (if (M5 94 (zIx u1)) = 6 then zCk (zIn u1 300) (zBd (f_X10_in (M5 96 (zIx u1)) 0 7 M5) (fun r8 M9 => if r8 = 0 then f_X10_works_B76 u1 r4 0 M9 else zCk (zIn u1 300) (f_X10_works_B76 u1 r4 (M9 96 (zIx u1)) M9))) else f_X10_works_B93 u1 r4 M5) else f_X10_works_B174 u1 r4 M5) else f_X10_works_B174 u1 r4 M5))))
set_option maxRecDepth 100000 in
theorem lb_X10_works_174 {p : Program} {l : Launch} {e : Env} {s : State} {m : MethodId} {args : Array Value} {below : List Frame} {meth : Method} {c : Code} {w : zWD} {u1 : Int32} (X : zCx p s m args meth c w (zFree w) RX10 cX10_works 5 none) (ho : zKd w 74 = (10, 61)) : ∀ (x2 : Int32) (M : zMem), zRm p l e rm_X10_works s m args below meth c w 0 174 [some (.ref (zA w 74)), some (.int u1), some (.int x2), none, none] [] M (f_X10_works_B174 u1 x2 M) := by
  intro x2 M
  unfold f_X10_works_B174
  refine re_aload_n X dX10_works_174 rfl rfl ?_
  refine re_getR X cl_10 (by decide) fl_RX10_64 ho rfl (zR_10_22 ho) dX10_works_175 ?_
  refine re_aload_n X dX10_works_178 rfl rfl ?_
  refine re_getI X cl_10 (by decide) fl_RX10_265 ho rfl dX10_works_179 ?_
  refine re_ck (fun hi13 => ?_)
  refine re_aald X (zQ_10_22 X.clo ho) (by decide) hi13 rfl (rw_99 (zIx_lt hi13)) dX10_works_182 ?_
  refine re_iload_n X dX10_works_183 rfl rfl ?_
  refine re_iload_n X dX10_works_184 rfl rfl ?_
  refine re_ck (fun hi15 => ?_)
  refine re_iast X (rk_99 X.clo (zQ_10_22 X.clo ho) (zIx_lt hi13)) hi15 (j := zIx u1) rfl dX10_works_185 (fun M14 => ?_)
  refine re_iload_n X dX10_works_186 rfl rfl ?_
  refine re_if_ne (tgt := 195) X dX10_works_187 (by decide) (fun _ => ?_) (fun _ => ?_)
  · refine re_aload_n X dX10_works_190 rfl rfl ?_
    refine re_iload_n X dX10_works_191 rfl rfl ?_
    refine re_callVv X (lk_X10_does l w u1 ho) (ca_X10_does (by decide) (by decide)) ml_RX10_380 im_X10_does se_X10_does cl_10 ho rfl rfl rfl (zle rfl) zRo dX10_works_192 (fun r16 M17 hr16 => ?_)
    exact re_vret X dX10_works_195
  · exact re_vret X dX10_works_195

set_option maxRecDepth 100000 in
theorem lb_X10_works_165 {p : Program} {l : Launch} {e : Env} {s : State} {m : MethodId} {args : Array Value} {below : List Frame} {meth : Method} {c : Code} {w : zWD} {u1 : Int32} (X : zCx p s m args meth c w (zFree w) RX10 cX10_works 5 none) (ho : zKd w 74 = (10, 61)) : ∀ (x4 : Int32) (y0 : Int32) (M : zMem), zRm p l e rm_X10_works s m args below meth c w 0 165 [some (.ref (zA w 74)), some (.int u1), none, none, some (.int x4)] [.int y0] M (f_X10_works_B165 u1 x4 y0 M) := by
  intro x4 y0 M
  unfold f_X10_works_B165
  refine re_istore_n (lv' := [some (.ref (zA w 74)), some (.int u1), some (.int y0), none, some (.int x4)]) X dX10_works_165 rfl (zlt rfl) rfl ?_
  refine re_iload X dX10_works_166 rfl ?_
  refine re_if_ne (tgt := 174) X dX10_works_168 (by decide) (fun _ => ?_) (fun _ => ?_)
  · refine re_bipush (v := 6) X dX10_works_171 (by decide) ?_
    refine re_istore_n (lv' := [some (.ref (zA w 74)), some (.int u1), some (.int 6), none, some (.int x4)]) X dX10_works_173 rfl (zlt rfl) rfl ?_
    exact re_sub (lb_X10_works_174 X ho 6 M) ⟨rfl, ⟨rfl, ⟨rfl, trivial⟩⟩⟩
  · exact re_sub (lb_X10_works_174 X ho y0 M) ⟨rfl, ⟨rfl, ⟨rfl, trivial⟩⟩⟩

set_option maxRecDepth 100000 in
theorem lb_X10_works_152 {p : Program} {l : Launch} {e : Env} {s : State} {m : MethodId} {args : Array Value} {below : List Frame} {meth : Method} {c : Code} {w : zWD} {u1 : Int32} (X : zCx p s m args meth c w (zFree w) RX10 cX10_works 5 none) (ho : zKd w 74 = (10, 61)) : ∀ (x2 : Int32) (x4 : Int32) (y0 : Int32) (M : zMem), zRm p l e rm_X10_works s m args below meth c w 0 152 [some (.ref (zA w 74)), some (.int u1), some (.int x2), none, some (.int x4)] [.int y0, .ref (zA w 74)] M (f_X10_works_B152 u1 x2 x4 y0 M) := by
  intro x2 x4 y0 M
  unfold f_X10_works_B152
  refine re_ck (fun hz12 => ?_)
  refine re_putZ X cl_10 (by decide) fl_RX10_377 ho rfl rfl rfl hz12 dX10_works_152 (fun M11 => ?_)
  refine re_iload_n X dX10_works_155 rfl rfl ?_
  refine re_if_ne (tgt := 164) X dX10_works_156 (by decide) (fun _ => ?_) (fun _ => ?_)
  · refine re_bipush (v := 6) X dX10_works_159 (by decide) ?_
    refine re_goto (tgt := 165) X dX10_works_161 (by decide) ?_
    exact re_sub (lb_X10_works_165 X ho x4 6 M11) ⟨rfl, ⟨rfl, ⟨rfl, trivial⟩⟩⟩
  · refine re_iconst (v := 0) X dX10_works_164 (by decide) ?_
    exact re_sub (lb_X10_works_165 X ho x4 0 M11) ⟨rfl, ⟨rfl, ⟨rfl, trivial⟩⟩⟩

set_option maxRecDepth 100000 in
theorem lb_X10_works_147 {p : Program} {l : Launch} {e : Env} {s : State} {m : MethodId} {args : Array Value} {below : List Frame} {meth : Method} {c : Code} {w : zWD} {u1 : Int32} (X : zCx p s m args meth c w (zFree w) RX10 cX10_works 5 none) (ho : zKd w 74 = (10, 61)) : ∀ (x2 : Int32) (x4 : Int32) (M : zMem), zRm p l e rm_X10_works s m args below meth c w 0 147 [some (.ref (zA w 74)), some (.int u1), some (.int x2), none, some (.int x4)] [.ref (zA w 74)] M (f_X10_works_B147 u1 x2 x4 M) := by
  intro x2 x4 M
  unfold f_X10_works_B147
  refine re_iconst (v := 1) X dX10_works_147 (by decide) ?_
  refine re_goto (tgt := 152) X dX10_works_148 (by decide) ?_
  exact lb_X10_works_152 X ho x2 x4 1 M

set_option maxRecDepth 100000 in
theorem lb_X10_works_132 {p : Program} {l : Launch} {e : Env} {s : State} {m : MethodId} {args : Array Value} {below : List Frame} {meth : Method} {c : Code} {w : zWD} {u1 : Int32} (X : zCx p s m args meth c w (zFree w) RX10 cX10_works 5 none) (ho : zKd w 74 = (10, 61)) : ∀ (x2 : Int32) (y0 : Int32) (M : zMem), zRm p l e rm_X10_works s m args below meth c w 0 132 [some (.ref (zA w 74)), some (.int u1), some (.int x2), none, none] [.int y0] M (f_X10_works_B132 u1 x2 y0 M) := by
  intro x2 y0 M
  unfold f_X10_works_B132
  refine re_istore (lv' := [some (.ref (zA w 74)), some (.int u1), some (.int x2), none, some (.int y0)]) X dX10_works_132 (zlt rfl) rfl ?_
  refine re_aload_n X dX10_works_134 rfl rfl ?_
  refine re_aload_n X dX10_works_135 rfl rfl ?_
  refine re_getI X cl_10 (by decide) fl_RX10_377 ho rfl dX10_works_136 ?_
  refine re_if_ne (tgt := 147) X dX10_works_139 (by decide) (fun _ => ?_) (fun _ => ?_)
  · refine re_iload X dX10_works_142 rfl ?_
    refine re_if_ne (tgt := 151) X dX10_works_144 (by decide) (fun _ => ?_) (fun _ => ?_)
    · exact lb_X10_works_147 X ho x2 y0 M
    · refine re_iconst (v := 0) X dX10_works_151 (by decide) ?_
      exact lb_X10_works_152 X ho x2 y0 0 M
  · exact lb_X10_works_147 X ho x2 y0 M

set_option maxRecDepth 100000 in
theorem lb_X10_works_127 {p : Program} {l : Launch} {e : Env} {s : State} {m : MethodId} {args : Array Value} {below : List Frame} {meth : Method} {c : Code} {w : zWD} {u1 : Int32} (X : zCx p s m args meth c w (zFree w) RX10 cX10_works 5 none) (ho : zKd w 74 = (10, 61)) : ∀ (x2 : Int32) (M : zMem), zRm p l e rm_X10_works s m args below meth c w 0 127 [some (.ref (zA w 74)), some (.int u1), some (.int x2), none, none] [] M (f_X10_works_B127 u1 x2 M) := by
  intro x2 M
  unfold f_X10_works_B127
  refine re_iconst (v := 1) X dX10_works_127 (by decide) ?_
  refine re_goto (tgt := 132) X dX10_works_128 (by decide) ?_
  exact lb_X10_works_132 X ho x2 1 M

set_option maxRecDepth 100000 in
theorem lb_X10_works_131 {p : Program} {l : Launch} {e : Env} {s : State} {m : MethodId} {args : Array Value} {below : List Frame} {meth : Method} {c : Code} {w : zWD} {u1 : Int32} (X : zCx p s m args meth c w (zFree w) RX10 cX10_works 5 none) (ho : zKd w 74 = (10, 61)) : ∀ (x2 : Int32) (M : zMem), zRm p l e rm_X10_works s m args below meth c w 0 131 [some (.ref (zA w 74)), some (.int u1), some (.int x2), none, none] [] M (f_X10_works_B131 u1 x2 M) := by
  intro x2 M
  unfold f_X10_works_B131
  refine re_iconst (v := 0) X dX10_works_131 (by decide) ?_
  exact lb_X10_works_132 X ho x2 0 M

set_option maxRecDepth 100000 in
theorem lb_X10_works_94 {p : Program} {l : Launch} {e : Env} {s : State} {m : MethodId} {args : Array Value} {below : List Frame} {meth : Method} {c : Code} {w : zWD} {u1 : Int32} (X : zCx p s m args meth c w (zFree w) RX10 cX10_works 5 none) (ho : zKd w 74 = (10, 61)) : ∀ (x2 : Int32) (y0 : Int32) (M : zMem), zRm p l e rm_X10_works s m args below meth c w 0 94 [some (.ref (zA w 74)), some (.int u1), some (.int x2), none, none] [.int y0] M (f_X10_works_B94 u1 x2 y0 M) := by
  intro x2 y0 M
  unfold f_X10_works_B94
  refine re_istore_n (lv' := [some (.ref (zA w 74)), some (.int u1), some (.int x2), some (.int y0), none]) X dX10_works_94 rfl (zlt rfl) rfl ?_
  refine re_iload_n X dX10_works_95 rfl rfl ?_
  refine re_if_eq (tgt := 127) X dX10_works_96 (by decide) (fun _ => ?_) (fun _ => ?_)
  · exact re_sub (lb_X10_works_127 X ho x2 M) ⟨rfl, ⟨rfl, ⟨rfl, trivial⟩⟩⟩
  · refine re_iload_n X dX10_works_99 rfl rfl ?_
    refine re_bipush (v := 6) X dX10_works_100 (by decide) ?_
    refine re_icmp_ne (tgt := 131) X dX10_works_102 (by decide) (fun _ => ?_) (fun _ => ?_)
    · refine re_iload_n X dX10_works_105 rfl rfl ?_
      refine re_if_ne (tgt := 127) X dX10_works_106 (by decide) (fun _ => ?_) (fun _ => ?_)
      · refine re_aload_n X dX10_works_109 rfl rfl ?_
        refine re_getR X cl_10 (by decide) fl_RX10_49 ho rfl (zR_10_17 ho) dX10_works_110 ?_
        refine re_iload_n X dX10_works_113 rfl rfl ?_
        refine re_ck (fun hi18 => ?_)
        refine re_iald X (zQ_10_17 X.clo ho) hi18 (j := zIx u1) rfl dX10_works_114 ?_
        refine re_iconst (v := 5) X dX10_works_115 (by decide) ?_
        refine re_icmp_ne (tgt := 131) X dX10_works_116 (by decide) (fun _ => ?_) (fun _ => ?_)
        · refine re_aload_n X dX10_works_119 rfl rfl ?_
          refine re_getI X cl_10 (by decide) fl_RX10_271 ho rfl dX10_works_120 ?_
          refine re_iconst (v := -1) X dX10_works_123 (by decide) ?_
          refine re_icmp_eq (tgt := 131) X dX10_works_124 (by decide) (fun _ => ?_) (fun _ => ?_)
          · exact re_sub (lb_X10_works_131 X ho x2 M) ⟨rfl, ⟨rfl, ⟨rfl, trivial⟩⟩⟩
          · exact re_sub (lb_X10_works_127 X ho x2 M) ⟨rfl, ⟨rfl, ⟨rfl, trivial⟩⟩⟩
        · exact re_sub (lb_X10_works_131 X ho x2 M) ⟨rfl, ⟨rfl, ⟨rfl, trivial⟩⟩⟩
      · exact re_sub (lb_X10_works_127 X ho x2 M) ⟨rfl, ⟨rfl, ⟨rfl, trivial⟩⟩⟩
    · exact re_sub (lb_X10_works_131 X ho x2 M) ⟨rfl, ⟨rfl, ⟨rfl, trivial⟩⟩⟩

set_option maxRecDepth 100000 in
theorem lb_X10_works_93 {p : Program} {l : Launch} {e : Env} {s : State} {m : MethodId} {args : Array Value} {below : List Frame} {meth : Method} {c : Code} {w : zWD} {u1 : Int32} (X : zCx p s m args meth c w (zFree w) RX10 cX10_works 5 none) (ho : zKd w 74 = (10, 61)) : ∀ (x2 : Int32) (M : zMem), zRm p l e rm_X10_works s m args below meth c w 0 93 [some (.ref (zA w 74)), some (.int u1), some (.int x2), none, none] [] M (f_X10_works_B93 u1 x2 M) := by
  intro x2 M
  unfold f_X10_works_B93
  refine re_iconst (v := 0) X dX10_works_93 (by decide) ?_
  exact lb_X10_works_94 X ho x2 0 M

set_option maxRecDepth 100000 in
theorem lb_X10_works_76 {p : Program} {l : Launch} {e : Env} {s : State} {m : MethodId} {args : Array Value} {below : List Frame} {meth : Method} {c : Code} {w : zWD} {u1 : Int32} (X : zCx p s m args meth c w (zFree w) RX10 cX10_works 5 none) (ho : zKd w 74 = (10, 61)) : ∀ (x2 : Int32) (y0 : Int32) (M : zMem), zRm p l e rm_X10_works s m args below meth c w 0 76 [some (.ref (zA w 74)), some (.int u1), some (.int x2), none, none] [.int y0, .ref (zA w 78)] M (f_X10_works_B76 u1 x2 y0 M) := by
  intro x2 y0 M
  unfold f_X10_works_B76
  refine re_ck (fun hi10 => ?_)
  refine re_iald X (rk_77 X.clo (zQ_10_7 X.clo ho) (i := 0) (by decide)) hi10 (j := zIx y0) rfl dX10_works_76 ?_
  refine re_if_le (tgt := 93) X dX10_works_77 (by decide) (fun _ => ?_) (fun _ => ?_)
  · exact lb_X10_works_93 X ho x2 M
  · refine re_aload_n X dX10_works_80 rfl rfl ?_
    refine re_getI X cl_10 (by decide) fl_RX10_293 ho rfl dX10_works_81 ?_
    refine re_bipush (v := 8) X dX10_works_84 (by decide) ?_
    refine re_icmp_ge (tgt := 93) X dX10_works_86 (by decide) (fun _ => ?_) (fun _ => ?_)
    · exact lb_X10_works_93 X ho x2 M
    · refine re_iconst (v := 1) X dX10_works_89 (by decide) ?_
      refine re_goto (tgt := 94) X dX10_works_90 (by decide) ?_
      exact lb_X10_works_94 X ho x2 1 M

set_option maxRecDepth 100000 in
theorem lk_X10_works (l : Launch) (w : zWD) (u1 : Int32) (ho : zKd w 74 = (10, 61)) : zMt l w yX10_works cX10_works 5 none rm_X10_works 0 [.ref (zA w 74), .int u1] (fun M => f_X10_works u1 M) := by
  refine zMt.of (by decide) [some (.ref (zA w 74)), some (.int u1), none, none, none] rfl (zle rfl) (by intro v hv; simp only [List.mem_cons, List.not_mem_nil, or_false] at hv; rcases hv with rfl | rfl <;> rfl) ?_
  intro p e s m args below meth c X M
  unfold f_X10_works
  refine re_aload_n X dX10_works_0 rfl rfl ?_
  refine re_getR X cl_10 (by decide) fl_RX10_67 ho rfl (zR_10_23 ho) dX10_works_1 ?_
  refine re_aload_n X dX10_works_4 rfl rfl ?_
  refine re_getI X cl_10 (by decide) fl_RX10_265 ho rfl dX10_works_5 ?_
  refine re_ck (fun hi1 => ?_)
  refine re_aald X (zQ_10_23 X.clo ho) (by decide) hi1 rfl (rw_102 (zIx_lt hi1)) dX10_works_8 ?_
  refine re_iload_n X dX10_works_9 rfl rfl ?_
  refine re_iconst (v := -1) X dX10_works_10 (by decide) ?_
  refine re_ck (fun hi3 => ?_)
  refine re_iast X (rk_102 X.clo (zQ_10_23 X.clo ho) (zIx_lt hi1)) hi3 (j := zIx u1) rfl dX10_works_11 (fun M2 => ?_)
  refine re_aload_n X dX10_works_12 rfl rfl ?_
  refine re_iload_n X dX10_works_13 rfl rfl ?_
  refine re_callVi X (lk_X10_rule l w u1 ho) (ca_X10_rule (by decide) (by decide)) ml_RX10_374 im_X10_rule se_X10_rule cl_10 ho rfl rfl rfl (zle rfl) zRo dX10_works_14 (fun r4 M5 hr4 => ?_)
  refine re_istore_n (lv' := [some (.ref (zA w 74)), some (.int u1), some (.int r4), none, none]) X dX10_works_17 rfl (zlt rfl) rfl ?_
  refine re_aload_n X dX10_works_18 rfl rfl ?_
  refine re_getI X cl_10 (by decide) fl_RX10_265 ho rfl dX10_works_19 ?_
  refine re_iconst (v := 1) X dX10_works_22 (by decide) ?_
  refine re_icmp_ne (tgt := 174) X dX10_works_23 (by decide) (fun _ => ?_) (fun _ => ?_)
  · refine re_iload_n X dX10_works_26 rfl rfl ?_
    refine re_aload_n X dX10_works_27 rfl rfl ?_
    refine re_getI X cl_10 (by decide) fl_RX10_73 ho rfl dX10_works_28 ?_
    refine re_icmp_ne (tgt := 174) X dX10_works_31 (by decide) (fun _ => ?_) (fun _ => ?_)
    · refine re_aload_n X dX10_works_34 rfl rfl ?_
      refine re_getR X cl_10 (by decide) fl_RX10_49 ho rfl (zR_10_17 ho) dX10_works_35 ?_
      refine re_iload_n X dX10_works_38 rfl rfl ?_
      refine re_ck (fun hi6 => ?_)
      refine re_iald X (zQ_10_17 X.clo ho) hi6 (j := zIx u1) rfl dX10_works_39 ?_
      refine re_bipush (v := 6) X dX10_works_40 (by decide) ?_
      refine re_icmp_ne (tgt := 93) X dX10_works_42 (by decide) (fun _ => ?_) (fun _ => ?_)
      · refine re_aload_n X dX10_works_45 rfl rfl ?_
        refine re_getR X cl_10 (by decide) fl_RX10_19 ho rfl (zR_10_7 ho) dX10_works_46 ?_
        refine re_iconst (v := 0) X dX10_works_49 (by decide) ?_
        refine re_aald X (zQ_10_7 X.clo ho) (by decide) (by decide) rfl (rw_77 (by decide)) dX10_works_50 ?_
        refine re_aload_n X dX10_works_51 rfl rfl ?_
        refine re_getR X cl_10 (by decide) fl_RX10_55 ho rfl (zR_10_19 ho) dX10_works_52 ?_
        refine re_iload_n X dX10_works_55 rfl rfl ?_
        refine re_ck (fun hi7 => ?_)
        refine re_iald X (zQ_10_19 X.clo ho) hi7 (j := zIx u1) rfl dX10_works_56 ?_
        refine re_iconst (v := 0) X dX10_works_57 (by decide) ?_
        refine re_bipush (v := 7) X dX10_works_58 (by decide) ?_
        refine re_callSz X (lk_X10_in l w (M5 96 (zIx u1)) 0 7) (ca_X10_in (by decide) (by decide)) ml_RX10_184 sm_X10_in rfl rfl rfl (zle rfl) zRo dX10_works_60 (fun r8 M9 hr8 => ?_)
        refine re_if_eq (tgt := 75) X dX10_works_63 (by decide) (fun _ => ?_) (fun _ => ?_)
        · refine re_iconst (v := 0) X dX10_works_75 (by decide) ?_
          exact lb_X10_works_76 X ho r4 0 M9
        · refine re_aload_n X dX10_works_66 rfl rfl ?_
          refine re_getR X cl_10 (by decide) fl_RX10_55 ho rfl (zR_10_19 ho) dX10_works_67 ?_
          refine re_iload_n X dX10_works_70 rfl rfl ?_
          refine re_ck (fun hi19 => ?_)
          refine re_iald X (zQ_10_19 X.clo ho) hi19 (j := zIx u1) rfl dX10_works_71 ?_
          refine re_goto (tgt := 76) X dX10_works_72 (by decide) ?_
          exact lb_X10_works_76 X ho r4 (M9 96 (zIx u1)) M9
      · exact lb_X10_works_93 X ho r4 M5
    · exact lb_X10_works_174 X ho r4 M5
  · exact lb_X10_works_174 X ho r4 M5
theorem ca_X10_works {R : Room} (h1 : rm_X10_works.frames + 1 ≤ R.frames) (h2 : 8 + (5 + 11) + rm_X10_works.locals ≤ R.locals) : zCa yX10_works cX10_works 5 none rm_X10_works R 1 := ⟨cd_X10_works, iz_RX10, ⟨by decide, by decide, by decide⟩, rfl, rfl, h1, h2⟩
/-! DebateHouseModel.act -/
abbrev rm_X10_act : Room := { frames := 6, cells := 0, slots := 0, locals := 141 }
def f_X10_act (u1 : Int32) (u2 : Int32) (u3 : Int32) (u4 : Int32) (u5 : Int32) (M : zMem) : zTr := zBd (f_X10_in u1 0 9 M) (fun r1 M2 => if r1 = 0 then some (-1, M2) else if (M2 74 16) = 300 then some (-1, M2) else zCk (zIn (M2 74 16) 300) (zLt (zUp M2 94 (zIx (M2 74 16)) u1) (fun M3 => zCk (zIn (M3 74 16) 300) (zLt (zUp M3 95 (zIx (M3 74 16)) u2) (fun M5 => zCk (zIn (M5 74 16) 300) (zLt (zUp M5 96 (zIx (M5 74 16)) u3) (fun M7 => zCk (zIn (M7 74 16) 300) (zLt (zUp M7 97 (zIx (M7 74 16)) u4) (fun M9 => zCk (zIn (M9 74 16) 300) (zLt (zUp M9 98 (zIx (M9 74 16)) u5) (fun M11 => zLt (zUp M11 74 16 ((M11 74 16) + 1)) (fun M13 => zBd (f_X10_works ((M13 74 16) - 1) M13) (fun _ M15 => zCk (zIn ((M15 74 16) - 1) 300) (some (M15 100 (zIx ((M15 74 16) - 1)), M15)))))))))))))))
set_option maxRecDepth 100000 in
theorem lk_X10_act (l : Launch) (w : zWD) (u1 : Int32) (u2 : Int32) (u3 : Int32) (u4 : Int32) (u5 : Int32) (ho : zKd w 74 = (10, 61)) : zMt l w yX10_act cX10_act 6 (some .int) rm_X10_act 1 [.ref (zA w 74), .int u1, .int u2, .int u3, .int u4, .int u5] (fun M => f_X10_act u1 u2 u3 u4 u5 M) := by
  refine zMt.of (by decide) [some (.ref (zA w 74)), some (.int u1), some (.int u2), some (.int u3), some (.int u4), some (.int u5)] rfl (zle rfl) (by intro v hv; simp only [List.mem_cons, List.not_mem_nil, or_false] at hv; rcases hv with rfl | rfl | rfl | rfl | rfl | rfl <;> rfl) ?_
  intro p e s m args below meth c X M
  unfold f_X10_act
  refine re_iload_n X dX10_act_0 rfl rfl ?_
  refine re_iconst (v := 0) X dX10_act_1 (by decide) ?_
  refine re_bipush (v := 9) X dX10_act_2 (by decide) ?_
  refine re_callSz X (lk_X10_in l w u1 0 9) (ca_X10_in (by decide) (by decide)) ml_RX10_184 sm_X10_in rfl rfl rfl (zle rfl) zRo dX10_act_4 (fun r1 M2 hr1 => ?_)
  refine re_if_eq (tgt := 20) X dX10_act_7 (by decide) (fun _ => ?_) (fun _ => ?_)
  · refine re_iconst (v := -1) X dX10_act_20 (by decide) ?_
    exact re_iret X dX10_act_21
  · refine re_aload_n X dX10_act_10 rfl rfl ?_
    refine re_getI X cl_10 (by decide) fl_RX10_259 ho rfl dX10_act_11 ?_
    refine re_sipush (v := 300) X dX10_act_14 (by decide) ?_
    refine re_icmp_ne (tgt := 22) X dX10_act_17 (by decide) (fun _ => ?_) (fun _ => ?_)
    · refine re_iconst (v := -1) X dX10_act_20 (by decide) ?_
      exact re_iret X dX10_act_21
    · refine re_aload_n X dX10_act_22 rfl rfl ?_
      refine re_getR X cl_10 (by decide) fl_RX10_49 ho rfl (zR_10_17 ho) dX10_act_23 ?_
      refine re_aload_n X dX10_act_26 rfl rfl ?_
      refine re_getI X cl_10 (by decide) fl_RX10_259 ho rfl dX10_act_27 ?_
      refine re_iload_n X dX10_act_30 rfl rfl ?_
      refine re_ck (fun hi4 => ?_)
      refine re_iast X (zQ_10_17 X.clo ho) hi4 (j := zIx (M2 74 16)) rfl dX10_act_31 (fun M3 => ?_)
      refine re_aload_n X dX10_act_32 rfl rfl ?_
      refine re_getR X cl_10 (by decide) fl_RX10_52 ho rfl (zR_10_18 ho) dX10_act_33 ?_
      refine re_aload_n X dX10_act_36 rfl rfl ?_
      refine re_getI X cl_10 (by decide) fl_RX10_259 ho rfl dX10_act_37 ?_
      refine re_iload_n X dX10_act_40 rfl rfl ?_
      refine re_ck (fun hi6 => ?_)
      refine re_iast X (zQ_10_18 X.clo ho) hi6 (j := zIx (M3 74 16)) rfl dX10_act_41 (fun M5 => ?_)
      refine re_aload_n X dX10_act_42 rfl rfl ?_
      refine re_getR X cl_10 (by decide) fl_RX10_55 ho rfl (zR_10_19 ho) dX10_act_43 ?_
      refine re_aload_n X dX10_act_46 rfl rfl ?_
      refine re_getI X cl_10 (by decide) fl_RX10_259 ho rfl dX10_act_47 ?_
      refine re_iload_n X dX10_act_50 rfl rfl ?_
      refine re_ck (fun hi8 => ?_)
      refine re_iast X (zQ_10_19 X.clo ho) hi8 (j := zIx (M5 74 16)) rfl dX10_act_51 (fun M7 => ?_)
      refine re_aload_n X dX10_act_52 rfl rfl ?_
      refine re_getR X cl_10 (by decide) fl_RX10_58 ho rfl (zR_10_20 ho) dX10_act_53 ?_
      refine re_aload_n X dX10_act_56 rfl rfl ?_
      refine re_getI X cl_10 (by decide) fl_RX10_259 ho rfl dX10_act_57 ?_
      refine re_iload X dX10_act_60 rfl ?_
      refine re_ck (fun hi10 => ?_)
      refine re_iast X (zQ_10_20 X.clo ho) hi10 (j := zIx (M7 74 16)) rfl dX10_act_62 (fun M9 => ?_)
      refine re_aload_n X dX10_act_63 rfl rfl ?_
      refine re_getR X cl_10 (by decide) fl_RX10_61 ho rfl (zR_10_21 ho) dX10_act_64 ?_
      refine re_aload_n X dX10_act_67 rfl rfl ?_
      refine re_getI X cl_10 (by decide) fl_RX10_259 ho rfl dX10_act_68 ?_
      refine re_iload X dX10_act_71 rfl ?_
      refine re_ck (fun hi12 => ?_)
      refine re_iast X (zQ_10_21 X.clo ho) hi12 (j := zIx (M9 74 16)) rfl dX10_act_73 (fun M11 => ?_)
      refine re_aload_n X dX10_act_74 rfl rfl ?_
      refine re_dup X dX10_act_75 rfl ?_
      refine re_getI X cl_10 (by decide) fl_RX10_259 ho rfl dX10_act_76 ?_
      refine re_iconst (v := 1) X dX10_act_79 (by decide) ?_
      refine re_iadd X dX10_act_80 ?_
      refine re_putI X cl_10 (by decide) fl_RX10_259 ho rfl rfl rfl dX10_act_81 (fun M13 => ?_)
      refine re_aload_n X dX10_act_84 rfl rfl ?_
      refine re_aload_n X dX10_act_85 rfl rfl ?_
      refine re_getI X cl_10 (by decide) fl_RX10_259 ho rfl dX10_act_86 ?_
      refine re_iconst (v := 1) X dX10_act_89 (by decide) ?_
      refine re_isub X dX10_act_90 ?_
      refine re_callVv X (lk_X10_works l w ((M13 74 16) - 1) ho) (ca_X10_works (by decide) (by decide)) ml_RX10_383 im_X10_works se_X10_works cl_10 ho rfl rfl rfl (zle rfl) zRo dX10_act_91 (fun r14 M15 hr14 => ?_)
      refine re_aload_n X dX10_act_94 rfl rfl ?_
      refine re_getR X cl_10 (by decide) fl_RX10_64 ho rfl (zR_10_22 ho) dX10_act_95 ?_
      refine re_iconst (v := 0) X dX10_act_98 (by decide) ?_
      refine re_aald X (zQ_10_22 X.clo ho) (by decide) (by decide) rfl (rw_99 (by decide)) dX10_act_99 ?_
      refine re_aload_n X dX10_act_100 rfl rfl ?_
      refine re_getI X cl_10 (by decide) fl_RX10_259 ho rfl dX10_act_101 ?_
      refine re_iconst (v := 1) X dX10_act_104 (by decide) ?_
      refine re_isub X dX10_act_105 ?_
      refine re_ck (fun hi16 => ?_)
      refine re_iald X (rk_99 X.clo (zQ_10_22 X.clo ho) (i := 0) (by decide)) hi16 (j := zIx ((M15 74 16) - 1)) rfl dX10_act_106 ?_
      exact re_iret X dX10_act_107
theorem ca_X10_act {R : Room} (h1 : rm_X10_act.frames + 1 ≤ R.frames) (h2 : 8 + (6 + 11) + rm_X10_act.locals ≤ R.locals) : zCa yX10_act cX10_act 6 (some .int) rm_X10_act R 5 := ⟨cd_X10_act, iz_RX10, ⟨by decide, by decide, by decide⟩, rfl, rfl, h1, h2⟩
/-! DebateHouseModel.again -/
abbrev rm_X10_again : Room := { frames := 6, cells := 0, slots := 0, locals := 141 }
def f_X10_again_L21 (u1 : Int32) (u2 : Int32)  : Nat → Int32 → zMem → zTr
  | 0, _, _ => none
  | n + 1, x3, M => if (M 74 16) ≤ x3 then some (0, M) else zBd (f_X10_works x3 M) (fun _ M7 => f_X10_again_L21 u1 u2 n (x3 + 1) M7)
def f_X10_again (u1 : Int32) (u2 : Int32) (M : zMem) : zTr := zLt (zUp M 74 25 u1) (fun M1 => zLt (zUp M1 74 26 u2) (fun M2 => zLt (zUp M2 74 27 0) (fun M3 => zBd (f_X10_begin M3) (fun _ M5 => f_X10_again_L21 u1 u2 zFu 0 M5))))
set_option maxRecDepth 100000 in
theorem lb_X10_again_21 {p : Program} {l : Launch} {e : Env} {s : State} {m : MethodId} {args : Array Value} {below : List Frame} {meth : Method} {c : Code} {w : zWD} {u1 : Int32} {u2 : Int32} (X : zCx p s m args meth c w (zFree w) RX10 cX10_again 4 none) (ho : zKd w 74 = (10, 61)) : ∀ (n : Nat) (x3 : Int32) (M : zMem), zRm p l e rm_X10_again s m args below meth c w 0 21 [some (.ref (zA w 74)), none, none, some (.int x3)] [] M (f_X10_again_L21 u1 u2 n x3 M) := by
  intro n
  induction n with
  | zero => intro x3 M; exact re_none
  | succ n ih =>
    intro x3 M
    rw [f_X10_again_L21]
    refine re_iload_n X dX10_again_21 rfl rfl ?_
    refine re_aload_n X dX10_again_22 rfl rfl ?_
    refine re_getI X cl_10 (by decide) fl_RX10_259 ho rfl dX10_again_23 ?_
    refine re_icmp_ge (tgt := 40) X dX10_again_26 (by decide) (fun _ => ?_) (fun _ => ?_)
    · exact re_vret X dX10_again_40
    · refine re_aload_n X dX10_again_29 rfl rfl ?_
      refine re_iload_n X dX10_again_30 rfl rfl ?_
      refine re_callVv X (lk_X10_works l w x3 ho) (ca_X10_works (by decide) (by decide)) ml_RX10_383 im_X10_works se_X10_works cl_10 ho rfl rfl rfl (zle rfl) zRo dX10_again_31 (fun r6 M7 hr6 => ?_)
      refine re_iinc (v := 1) (lv' := [some (.ref (zA w 74)), none, none, some (.int (x3 + 1))]) X dX10_again_34 rfl (by decide) rfl ?_
      refine re_goto (tgt := 21) X dX10_again_37 (by decide) ?_
      exact ih (x3 + 1) M7

set_option maxRecDepth 100000 in
theorem lk_X10_again (l : Launch) (w : zWD) (u1 : Int32) (u2 : Int32) (ho : zKd w 74 = (10, 61)) : zMt l w yX10_again cX10_again 4 none rm_X10_again 0 [.ref (zA w 74), .int u1, .int u2] (fun M => f_X10_again u1 u2 M) := by
  refine zMt.of (by decide) [some (.ref (zA w 74)), some (.int u1), some (.int u2), none] rfl (zle rfl) (by intro v hv; simp only [List.mem_cons, List.not_mem_nil, or_false] at hv; rcases hv with rfl | rfl | rfl <;> rfl) ?_
  intro p e s m args below meth c X M
  unfold f_X10_again
  refine re_aload_n X dX10_again_0 rfl rfl ?_
  refine re_iload_n X dX10_again_1 rfl rfl ?_
  refine re_putI X cl_10 (by decide) fl_RX10_265 ho rfl rfl rfl dX10_again_2 (fun M1 => ?_)
  refine re_aload_n X dX10_again_5 rfl rfl ?_
  refine re_iload_n X dX10_again_6 rfl rfl ?_
  refine re_putI X cl_10 (by decide) fl_RX10_73 ho rfl rfl rfl dX10_again_7 (fun M2 => ?_)
  refine re_aload_n X dX10_again_10 rfl rfl ?_
  refine re_iconst (v := 0) X dX10_again_11 (by decide) ?_
  refine re_putZ X cl_10 (by decide) fl_RX10_377 ho rfl rfl rfl (Or.inl rfl) dX10_again_12 (fun M3 => ?_)
  refine re_aload_n X dX10_again_15 rfl rfl ?_
  refine re_callVv X (lk_X10_begin l w ho) (ca_X10_begin (by decide) (by decide)) ml_RX10_140 im_X10_begin se_X10_begin cl_10 ho rfl rfl rfl (zle rfl) zRo dX10_again_16 (fun r4 M5 hr4 => ?_)
  refine re_iconst (v := 0) X dX10_again_19 (by decide) ?_
  refine re_istore_n (lv' := [some (.ref (zA w 74)), some (.int u1), some (.int u2), some (.int 0)]) X dX10_again_20 rfl (zlt rfl) rfl ?_
  exact re_sub (lb_X10_again_21 X ho zFu 0 M5) ⟨rfl, ⟨rfl, trivial⟩⟩
theorem ca_X10_again {R : Room} (h1 : rm_X10_again.frames + 1 ≤ R.frames) (h2 : 8 + (4 + 11) + rm_X10_again.locals ≤ R.locals) : zCa yX10_again cX10_again 4 none rm_X10_again R 2 := ⟨cd_X10_again, iz_RX10, ⟨by decide, by decide, by decide⟩, rfl, rfl, h1, h2⟩
/-! DebateHouseModel.state -/
abbrev rm_X10_state : Room := { frames := 1, cells := 0, slots := 0, locals := 22 }
def f_X10_state (u1 : Int32) (M : zMem) : zTr := if u1 = 0 then zBd (f_X10_there M) (fun r2 M3 => some (r2, M3)) else if u1 = 1 then some (M 74 31, M) else if u1 = 2 then some (M 74 32, M) else if u1 = 3 then some (M 74 33, M) else if u1 = 4 then some (M 74 34, M) else if u1 = 5 then some (M 74 39, M) else if u1 = 6 then some (M 74 36, M) else if u1 = 7 then (if (M 74 38) = 0 then some (0, M) else some (1, M)) else if u1 = 8 then (if (M 74 48) = 0 then some (-1, M) else some (M 74 49, M)) else if u1 = 9 then some (M 74 35, M) else if u1 = 10 then some (M 74 16, M) else some (-1, M)
set_option maxRecDepth 100000 in
theorem lk_X10_state (l : Launch) (w : zWD) (u1 : Int32) (ho : zKd w 74 = (10, 61)) : zMt l w yX10_state cX10_state 2 (some .int) rm_X10_state 1 [.ref (zA w 74), .int u1] (fun M => f_X10_state u1 M) := by
  refine zMt.of (by decide) [some (.ref (zA w 74)), some (.int u1)] rfl (zle rfl) (by intro v hv; simp only [List.mem_cons, List.not_mem_nil, or_false] at hv; rcases hv with rfl | rfl <;> rfl) ?_
  intro p e s m args below meth c X M
  unfold f_X10_state
  refine re_iload_n X dX10_state_0 rfl rfl ?_
  refine re_if (fun e1 => ?_) (fun e1 => ?_)
  · refine re_sw_in (v := 0) (off := 59) (tgt := 60) X dX10_state_1 e1 (by decide) (by decide) (by decide +kernel) (by decide) ?_
    refine re_aload_n X dX10_state_60 rfl rfl ?_
    refine re_callVi X (lk_X10_there l w ho) (ca_X10_there (by decide) (by decide)) ml_RX10_313 im_X10_there se_X10_there cl_10 ho rfl rfl rfl (zle rfl) zRo dX10_state_61 (fun r2 M3 hr2 => ?_)
    exact re_iret X dX10_state_64
  refine re_if (fun e4 => ?_) (fun e4 => ?_)
  · refine re_sw_in (v := 1) (off := 64) (tgt := 65) X dX10_state_1 e4 (by decide) (by decide) (by decide +kernel) (by decide) ?_
    refine re_aload_n X dX10_state_65 rfl rfl ?_
    refine re_getI X cl_10 (by decide) fl_RX10_268 ho rfl dX10_state_66 ?_
    exact re_iret X dX10_state_69
  refine re_if (fun e5 => ?_) (fun e5 => ?_)
  · refine re_sw_in (v := 2) (off := 69) (tgt := 70) X dX10_state_1 e5 (by decide) (by decide) (by decide +kernel) (by decide) ?_
    refine re_aload_n X dX10_state_70 rfl rfl ?_
    refine re_getI X cl_10 (by decide) fl_RX10_271 ho rfl dX10_state_71 ?_
    exact re_iret X dX10_state_74
  refine re_if (fun e6 => ?_) (fun e6 => ?_)
  · refine re_sw_in (v := 3) (off := 74) (tgt := 75) X dX10_state_1 e6 (by decide) (by decide) (by decide +kernel) (by decide) ?_
    refine re_aload_n X dX10_state_75 rfl rfl ?_
    refine re_getI X cl_10 (by decide) fl_RX10_274 ho rfl dX10_state_76 ?_
    exact re_iret X dX10_state_79
  refine re_if (fun e7 => ?_) (fun e7 => ?_)
  · refine re_sw_in (v := 4) (off := 79) (tgt := 80) X dX10_state_1 e7 (by decide) (by decide) (by decide +kernel) (by decide) ?_
    refine re_aload_n X dX10_state_80 rfl rfl ?_
    refine re_getI X cl_10 (by decide) fl_RX10_277 ho rfl dX10_state_81 ?_
    exact re_iret X dX10_state_84
  refine re_if (fun e8 => ?_) (fun e8 => ?_)
  · refine re_sw_in (v := 5) (off := 84) (tgt := 85) X dX10_state_1 e8 (by decide) (by decide) (by decide +kernel) (by decide) ?_
    refine re_aload_n X dX10_state_85 rfl rfl ?_
    refine re_getI X cl_10 (by decide) fl_RX10_293 ho rfl dX10_state_86 ?_
    exact re_iret X dX10_state_89
  refine re_if (fun e9 => ?_) (fun e9 => ?_)
  · refine re_sw_in (v := 6) (off := 89) (tgt := 90) X dX10_state_1 e9 (by decide) (by decide) (by decide +kernel) (by decide) ?_
    refine re_aload_n X dX10_state_90 rfl rfl ?_
    refine re_getI X cl_10 (by decide) fl_RX10_283 ho rfl dX10_state_91 ?_
    exact re_iret X dX10_state_94
  refine re_if (fun e10 => ?_) (fun e10 => ?_)
  · refine re_sw_in (v := 7) (off := 94) (tgt := 95) X dX10_state_1 e10 (by decide) (by decide) (by decide +kernel) (by decide) ?_
    refine re_aload_n X dX10_state_95 rfl rfl ?_
    refine re_getI X cl_10 (by decide) fl_RX10_290 ho rfl dX10_state_96 ?_
    refine re_if_eq (tgt := 106) X dX10_state_99 (by decide) (fun _ => ?_) (fun _ => ?_)
    · refine re_iconst (v := 0) X dX10_state_106 (by decide) ?_
      exact re_iret X dX10_state_107
    · refine re_iconst (v := 1) X dX10_state_102 (by decide) ?_
      refine re_goto (tgt := 107) X dX10_state_103 (by decide) ?_
      exact re_iret X dX10_state_107
  refine re_if (fun e11 => ?_) (fun e11 => ?_)
  · refine re_sw_in (v := 8) (off := 107) (tgt := 108) X dX10_state_1 e11 (by decide) (by decide) (by decide +kernel) (by decide) ?_
    refine re_aload_n X dX10_state_108 rfl rfl ?_
    refine re_getI X cl_10 (by decide) fl_RX10_296 ho rfl dX10_state_109 ?_
    refine re_if_eq (tgt := 122) X dX10_state_112 (by decide) (fun _ => ?_) (fun _ => ?_)
    · refine re_iconst (v := -1) X dX10_state_122 (by decide) ?_
      exact re_iret X dX10_state_123
    · refine re_aload_n X dX10_state_115 rfl rfl ?_
      refine re_getI X cl_10 (by decide) fl_RX10_299 ho rfl dX10_state_116 ?_
      refine re_goto (tgt := 123) X dX10_state_119 (by decide) ?_
      exact re_iret X dX10_state_123
  refine re_if (fun e12 => ?_) (fun e12 => ?_)
  · refine re_sw_in (v := 9) (off := 123) (tgt := 124) X dX10_state_1 e12 (by decide) (by decide) (by decide +kernel) (by decide) ?_
    refine re_aload_n X dX10_state_124 rfl rfl ?_
    refine re_getI X cl_10 (by decide) fl_RX10_280 ho rfl dX10_state_125 ?_
    exact re_iret X dX10_state_128
  refine re_if (fun e13 => ?_) (fun e13 => ?_)
  · refine re_sw_in (v := 10) (off := 128) (tgt := 129) X dX10_state_1 e13 (by decide) (by decide) (by decide +kernel) (by decide) ?_
    refine re_aload_n X dX10_state_129 rfl rfl ?_
    refine re_getI X cl_10 (by decide) fl_RX10_259 ho rfl dX10_state_130 ?_
    exact re_iret X dX10_state_133
  refine re_sw_out (tgt := 134) X dX10_state_1 (by
      have e1 := lv_neT (a := 0) e1 (by decide)
      have e4 := lv_neT (a := 1) e4 (by decide)
      have e5 := lv_neT (a := 2) e5 (by decide)
      have e6 := lv_neT (a := 3) e6 (by decide)
      have e7 := lv_neT (a := 4) e7 (by decide)
      have e8 := lv_neT (a := 5) e8 (by decide)
      have e9 := lv_neT (a := 6) e9 (by decide)
      have e10 := lv_neT (a := 7) e10 (by decide)
      have e11 := lv_neT (a := 8) e11 (by decide)
      have e12 := lv_neT (a := 9) e12 (by decide)
      have e13 := lv_neT (a := 10) e13 (by decide)
      omega) (by decide) ?_
  refine re_iconst (v := -1) X dX10_state_134 (by decide) ?_
  exact re_iret X dX10_state_135
theorem ca_X10_state {R : Room} (h1 : rm_X10_state.frames + 1 ≤ R.frames) (h2 : 8 + (2 + 11) + rm_X10_state.locals ≤ R.locals) : zCa yX10_state cX10_state 2 (some .int) rm_X10_state R 1 := ⟨cd_X10_state, iz_RX10, ⟨by decide, by decide, by decide⟩, rfl, rfl, h1, h2⟩
/-! DebateHouseModel.beside -/
abbrev rm_X10_beside : Room := { frames := 7, cells := 0, slots := 0, locals := 164 }
def f_X10_beside_B113 (u1 : Int32) (u2 : Int32)  (y0 : Int32) (M : zMem) : zTr := zBd (f_X10_again 0 (-1) M) (fun _ M12 => some (y0, M12))
def f_X10_beside (u1 : Int32) (u2 : Int32) (M : zMem) : zTr := zBd (f_X10_in u1 0 ((M 74 16) - 1) M) (fun r1 M2 => if r1 = 0 then some (-1, M2) else zBd (f_X10_again 1 u1 M2) (fun _ M4 => if (M4 74 27) = 0 then zBd (f_X10_in u2 0 10 M4) (fun r5 M6 => if r5 = 0 then zBd (f_X10_in u2 11 (10 + (M6 74 16)) M6) (fun r7 M8 => if r7 = 0 then zBd (f_X10_in u2 400 (399 + (M8 74 49)) M8) (fun r9 M10 => if r9 = 0 then f_X10_beside_B113 u1 u2 (-1) M10 else zCk (zIn (u2 - 400) 60) (f_X10_beside_B113 u1 u2 (M10 120 (zIx (u2 - 400))) M10)) else zCk (zIn (u2 - 11) 300) (f_X10_beside_B113 u1 u2 (M8 101 (zIx (u2 - 11))) M8)) else zBd (f_X10_state u2 M6) (fun r15 M16 => f_X10_beside_B113 u1 u2 r15 M16)) else f_X10_beside_B113 u1 u2 (-1) M4))
set_option maxRecDepth 100000 in
theorem lb_X10_beside_113 {p : Program} {l : Launch} {e : Env} {s : State} {m : MethodId} {args : Array Value} {below : List Frame} {meth : Method} {c : Code} {w : zWD} {u1 : Int32} {u2 : Int32} (X : zCx p s m args meth c w (zFree w) RX10 cX10_beside 4 (some .int)) (ho : zKd w 74 = (10, 61)) : ∀ (y0 : Int32) (M : zMem), zRm p l e rm_X10_beside s m args below meth c w 1 113 [some (.ref (zA w 74)), none, none, none] [.int y0] M (f_X10_beside_B113 u1 u2 y0 M) := by
  intro y0 M
  unfold f_X10_beside_B113
  refine re_istore_n (lv' := [some (.ref (zA w 74)), none, none, some (.int y0)]) X dX10_beside_113 rfl (zlt rfl) rfl ?_
  refine re_aload_n X dX10_beside_114 rfl rfl ?_
  refine re_iconst (v := 0) X dX10_beside_115 (by decide) ?_
  refine re_iconst (v := -1) X dX10_beside_116 (by decide) ?_
  refine re_callVv X (lk_X10_again l w 0 (-1) ho) (ca_X10_again (by decide) (by decide)) ml_RX10_386 im_X10_again se_X10_again cl_10 ho rfl rfl rfl (zle rfl) zRo dX10_beside_117 (fun r11 M12 hr11 => ?_)
  refine re_iload_n X dX10_beside_120 rfl rfl ?_
  exact re_iret X dX10_beside_121

set_option maxRecDepth 100000 in
theorem lk_X10_beside (l : Launch) (w : zWD) (u1 : Int32) (u2 : Int32) (ho : zKd w 74 = (10, 61)) : zMt l w yX10_beside cX10_beside 4 (some .int) rm_X10_beside 1 [.ref (zA w 74), .int u1, .int u2] (fun M => f_X10_beside u1 u2 M) := by
  refine zMt.of (by decide) [some (.ref (zA w 74)), some (.int u1), some (.int u2), none] rfl (zle rfl) (by intro v hv; simp only [List.mem_cons, List.not_mem_nil, or_false] at hv; rcases hv with rfl | rfl | rfl <;> rfl) ?_
  intro p e s m args below meth c X M
  unfold f_X10_beside
  refine re_iload_n X dX10_beside_0 rfl rfl ?_
  refine re_iconst (v := 0) X dX10_beside_1 (by decide) ?_
  refine re_aload_n X dX10_beside_2 rfl rfl ?_
  refine re_getI X cl_10 (by decide) fl_RX10_259 ho rfl dX10_beside_3 ?_
  refine re_iconst (v := 1) X dX10_beside_6 (by decide) ?_
  refine re_isub X dX10_beside_7 ?_
  refine re_callSz X (lk_X10_in l w u1 0 ((M 74 16) - 1)) (ca_X10_in (by decide) (by decide)) ml_RX10_184 sm_X10_in rfl rfl rfl (zle rfl) zRo dX10_beside_8 (fun r1 M2 hr1 => ?_)
  refine re_if_ne (tgt := 16) X dX10_beside_11 (by decide) (fun _ => ?_) (fun _ => ?_)
  · refine re_iconst (v := -1) X dX10_beside_14 (by decide) ?_
    exact re_iret X dX10_beside_15
  · refine re_aload_n X dX10_beside_16 rfl rfl ?_
    refine re_iconst (v := 1) X dX10_beside_17 (by decide) ?_
    refine re_iload_n X dX10_beside_18 rfl rfl ?_
    refine re_callVv X (lk_X10_again l w 1 u1 ho) (ca_X10_again (by decide) (by decide)) ml_RX10_386 im_X10_again se_X10_again cl_10 ho rfl rfl rfl (zle rfl) zRo dX10_beside_19 (fun r3 M4 hr3 => ?_)
    refine re_aload_n X dX10_beside_22 rfl rfl ?_
    refine re_getI X cl_10 (by decide) fl_RX10_377 ho rfl dX10_beside_23 ?_
    refine re_if_eq (tgt := 33) X dX10_beside_26 (by decide) (fun _ => ?_) (fun _ => ?_)
    · refine re_iload_n X dX10_beside_33 rfl rfl ?_
      refine re_iconst (v := 0) X dX10_beside_34 (by decide) ?_
      refine re_bipush (v := 10) X dX10_beside_35 (by decide) ?_
      refine re_callSz X (lk_X10_in l w u2 0 10) (ca_X10_in (by decide) (by decide)) ml_RX10_184 sm_X10_in rfl rfl rfl (zle rfl) zRo dX10_beside_37 (fun r5 M6 hr5 => ?_)
      refine re_if_eq (tgt := 51) X dX10_beside_40 (by decide) (fun _ => ?_) (fun _ => ?_)
      · refine re_iload_n X dX10_beside_51 rfl rfl ?_
        refine re_bipush (v := 11) X dX10_beside_52 (by decide) ?_
        refine re_bipush (v := 10) X dX10_beside_54 (by decide) ?_
        refine re_aload_n X dX10_beside_56 rfl rfl ?_
        refine re_getI X cl_10 (by decide) fl_RX10_259 ho rfl dX10_beside_57 ?_
        refine re_iadd X dX10_beside_60 ?_
        refine re_callSz X (lk_X10_in l w u2 11 (10 + (M6 74 16))) (ca_X10_in (by decide) (by decide)) ml_RX10_184 sm_X10_in rfl rfl rfl (zle rfl) zRo dX10_beside_61 (fun r7 M8 hr7 => ?_)
        refine re_if_eq (tgt := 81) X dX10_beside_64 (by decide) (fun _ => ?_) (fun _ => ?_)
        · refine re_iload_n X dX10_beside_81 rfl rfl ?_
          refine re_sipush (v := 400) X dX10_beside_82 (by decide) ?_
          refine re_sipush (v := 399) X dX10_beside_85 (by decide) ?_
          refine re_aload_n X dX10_beside_88 rfl rfl ?_
          refine re_getI X cl_10 (by decide) fl_RX10_299 ho rfl dX10_beside_89 ?_
          refine re_iadd X dX10_beside_92 ?_
          refine re_callSz X (lk_X10_in l w u2 400 (399 + (M8 74 49))) (ca_X10_in (by decide) (by decide)) ml_RX10_184 sm_X10_in rfl rfl rfl (zle rfl) zRo dX10_beside_93 (fun r9 M10 hr9 => ?_)
          refine re_if_eq (tgt := 112) X dX10_beside_96 (by decide) (fun _ => ?_) (fun _ => ?_)
          · refine re_iconst (v := -1) X dX10_beside_112 (by decide) ?_
            exact re_sub (lb_X10_beside_113 X ho (-1) M10) ⟨rfl, trivial⟩
          · refine re_aload_n X dX10_beside_99 rfl rfl ?_
            refine re_getR X cl_10 (by decide) fl_RX10_113 ho rfl (zR_10_52 ho) dX10_beside_100 ?_
            refine re_iload_n X dX10_beside_103 rfl rfl ?_
            refine re_sipush (v := 400) X dX10_beside_104 (by decide) ?_
            refine re_isub X dX10_beside_107 ?_
            refine re_ck (fun hi13 => ?_)
            refine re_iald X (zQ_10_52 X.clo ho) hi13 (j := zIx (u2 - 400)) rfl dX10_beside_108 ?_
            refine re_goto (tgt := 113) X dX10_beside_109 (by decide) ?_
            exact re_sub (lb_X10_beside_113 X ho (M10 120 (zIx (u2 - 400))) M10) ⟨rfl, trivial⟩
        · refine re_aload_n X dX10_beside_67 rfl rfl ?_
          refine re_getR X cl_10 (by decide) fl_RX10_64 ho rfl (zR_10_22 ho) dX10_beside_68 ?_
          refine re_iconst (v := 1) X dX10_beside_71 (by decide) ?_
          refine re_aald X (zQ_10_22 X.clo ho) (by decide) (by decide) rfl (rw_99 (by decide)) dX10_beside_72 ?_
          refine re_iload_n X dX10_beside_73 rfl rfl ?_
          refine re_bipush (v := 11) X dX10_beside_74 (by decide) ?_
          refine re_isub X dX10_beside_76 ?_
          refine re_ck (fun hi14 => ?_)
          refine re_iald X (rk_99 X.clo (zQ_10_22 X.clo ho) (i := 1) (by decide)) hi14 (j := zIx (u2 - 11)) rfl dX10_beside_77 ?_
          refine re_goto (tgt := 113) X dX10_beside_78 (by decide) ?_
          exact re_sub (lb_X10_beside_113 X ho (M8 101 (zIx (u2 - 11))) M8) ⟨rfl, trivial⟩
      · refine re_aload_n X dX10_beside_43 rfl rfl ?_
        refine re_iload_n X dX10_beside_44 rfl rfl ?_
        refine re_callVi X (lk_X10_state l w u2 ho) (ca_X10_state (by decide) (by decide)) ml_RX10_389 im_X10_state se_X10_state cl_10 ho rfl rfl rfl (zle rfl) zRo dX10_beside_45 (fun r15 M16 hr15 => ?_)
        refine re_goto (tgt := 113) X dX10_beside_48 (by decide) ?_
        exact re_sub (lb_X10_beside_113 X ho r15 M16) ⟨rfl, trivial⟩
    · refine re_iconst (v := -1) X dX10_beside_29 (by decide) ?_
      refine re_goto (tgt := 113) X dX10_beside_30 (by decide) ?_
      exact re_sub (lb_X10_beside_113 X ho (-1) M4) ⟨rfl, trivial⟩
theorem ca_X10_beside {R : Room} (h1 : rm_X10_beside.frames + 1 ≤ R.frames) (h2 : 8 + (4 + 11) + rm_X10_beside.locals ≤ R.locals) : zCa yX10_beside cX10_beside 4 (some .int) rm_X10_beside R 2 := ⟨cd_X10_beside, iz_RX10, ⟨by decide, by decide, by decide⟩, rfl, rfl, h1, h2⟩
/-! DebateHouseModel.ruling -/
abbrev rm_X10_ruling : Room := { frames := 1, cells := 0, slots := 0, locals := 22 }
def f_X10_ruling (u1 : Int32) (M : zMem) : zTr := zBd (f_X10_in u1 0 ((M 74 16) - 1) M) (fun r1 M2 => if r1 = 0 then some (-1, M2) else zCk (zIn u1 300) (some (M2 100 (zIx u1), M2)))
set_option maxRecDepth 100000 in
theorem lk_X10_ruling (l : Launch) (w : zWD) (u1 : Int32) (ho : zKd w 74 = (10, 61)) : zMt l w yX10_ruling cX10_ruling 2 (some .int) rm_X10_ruling 1 [.ref (zA w 74), .int u1] (fun M => f_X10_ruling u1 M) := by
  refine zMt.of (by decide) [some (.ref (zA w 74)), some (.int u1)] rfl (zle rfl) (by intro v hv; simp only [List.mem_cons, List.not_mem_nil, or_false] at hv; rcases hv with rfl | rfl <;> rfl) ?_
  intro p e s m args below meth c X M
  unfold f_X10_ruling
  refine re_iload_n X dX10_ruling_0 rfl rfl ?_
  refine re_iconst (v := 0) X dX10_ruling_1 (by decide) ?_
  refine re_aload_n X dX10_ruling_2 rfl rfl ?_
  refine re_getI X cl_10 (by decide) fl_RX10_259 ho rfl dX10_ruling_3 ?_
  refine re_iconst (v := 1) X dX10_ruling_6 (by decide) ?_
  refine re_isub X dX10_ruling_7 ?_
  refine re_callSz X (lk_X10_in l w u1 0 ((M 74 16) - 1)) (ca_X10_in (by decide) (by decide)) ml_RX10_184 sm_X10_in rfl rfl rfl (zle rfl) zRo dX10_ruling_8 (fun r1 M2 hr1 => ?_)
  refine re_if_eq (tgt := 25) X dX10_ruling_11 (by decide) (fun _ => ?_) (fun _ => ?_)
  · refine re_iconst (v := -1) X dX10_ruling_25 (by decide) ?_
    exact re_iret X dX10_ruling_26
  · refine re_aload_n X dX10_ruling_14 rfl rfl ?_
    refine re_getR X cl_10 (by decide) fl_RX10_64 ho rfl (zR_10_22 ho) dX10_ruling_15 ?_
    refine re_iconst (v := 0) X dX10_ruling_18 (by decide) ?_
    refine re_aald X (zQ_10_22 X.clo ho) (by decide) (by decide) rfl (rw_99 (by decide)) dX10_ruling_19 ?_
    refine re_iload_n X dX10_ruling_20 rfl rfl ?_
    refine re_ck (fun hi3 => ?_)
    refine re_iald X (rk_99 X.clo (zQ_10_22 X.clo ho) (i := 0) (by decide)) hi3 (j := zIx u1) rfl dX10_ruling_21 ?_
    refine re_goto (tgt := 26) X dX10_ruling_22 (by decide) ?_
    exact re_iret X dX10_ruling_26
theorem ca_X10_ruling {R : Room} (h1 : rm_X10_ruling.frames + 1 ≤ R.frames) (h2 : 8 + (2 + 11) + rm_X10_ruling.locals ≤ R.locals) : zCa yX10_ruling cX10_ruling 2 (some .int) rm_X10_ruling R 1 := ⟨cd_X10_ruling, iz_RX10, ⟨by decide, by decide, by decide⟩, rfl, rfl, h1, h2⟩
/-! DebateHouseModel.passed -/
abbrev rm_X10_passed : Room := { frames := 1, cells := 0, slots := 0, locals := 22 }
def f_X10_passed (u1 : Int32) (M : zMem) : zTr := zBd (f_X10_in u1 0 ((M 74 16) - 1) M) (fun r1 M2 => if r1 = 0 then some (-1, M2) else zCk (zIn u1 300) (some (M2 103 (zIx u1), M2)))
set_option maxRecDepth 100000 in
theorem lk_X10_passed (l : Launch) (w : zWD) (u1 : Int32) (ho : zKd w 74 = (10, 61)) : zMt l w yX10_passed cX10_passed 2 (some .int) rm_X10_passed 1 [.ref (zA w 74), .int u1] (fun M => f_X10_passed u1 M) := by
  refine zMt.of (by decide) [some (.ref (zA w 74)), some (.int u1)] rfl (zle rfl) (by intro v hv; simp only [List.mem_cons, List.not_mem_nil, or_false] at hv; rcases hv with rfl | rfl <;> rfl) ?_
  intro p e s m args below meth c X M
  unfold f_X10_passed
  refine re_iload_n X dX10_passed_0 rfl rfl ?_
  refine re_iconst (v := 0) X dX10_passed_1 (by decide) ?_
  refine re_aload_n X dX10_passed_2 rfl rfl ?_
  refine re_getI X cl_10 (by decide) fl_RX10_259 ho rfl dX10_passed_3 ?_
  refine re_iconst (v := 1) X dX10_passed_6 (by decide) ?_
  refine re_isub X dX10_passed_7 ?_
  refine re_callSz X (lk_X10_in l w u1 0 ((M 74 16) - 1)) (ca_X10_in (by decide) (by decide)) ml_RX10_184 sm_X10_in rfl rfl rfl (zle rfl) zRo dX10_passed_8 (fun r1 M2 hr1 => ?_)
  refine re_if_eq (tgt := 25) X dX10_passed_11 (by decide) (fun _ => ?_) (fun _ => ?_)
  · refine re_iconst (v := -1) X dX10_passed_25 (by decide) ?_
    exact re_iret X dX10_passed_26
  · refine re_aload_n X dX10_passed_14 rfl rfl ?_
    refine re_getR X cl_10 (by decide) fl_RX10_67 ho rfl (zR_10_23 ho) dX10_passed_15 ?_
    refine re_iconst (v := 0) X dX10_passed_18 (by decide) ?_
    refine re_aald X (zQ_10_23 X.clo ho) (by decide) (by decide) rfl (rw_102 (by decide)) dX10_passed_19 ?_
    refine re_iload_n X dX10_passed_20 rfl rfl ?_
    refine re_ck (fun hi3 => ?_)
    refine re_iald X (rk_102 X.clo (zQ_10_23 X.clo ho) (i := 0) (by decide)) hi3 (j := zIx u1) rfl dX10_passed_21 ?_
    refine re_goto (tgt := 26) X dX10_passed_22 (by decide) ?_
    exact re_iret X dX10_passed_26
theorem ca_X10_passed {R : Room} (h1 : rm_X10_passed.frames + 1 ≤ R.frames) (h2 : 8 + (2 + 11) + rm_X10_passed.locals ≤ R.locals) : zCa yX10_passed cX10_passed 2 (some .int) rm_X10_passed R 1 := ⟨cd_X10_passed, iz_RX10, ⟨by decide, by decide, by decide⟩, rfl, rfl, h1, h2⟩
/-! DebateHouseModel.pending -/
abbrev rm_X10_pending : Room := { frames := 1, cells := 0, slots := 0, locals := 22 }
def f_X10_pending (u1 : Int32) (u2 : Int32) (M : zMem) : zTr := zBd (f_X10_in u1 0 ((M 74 39) - 1) M) (fun r1 M2 => if r1 = 0 then some (-1, M2) else if u2 = 0 then zCk (zIn u1 12) (some (M2 111 (zIx u1), M2)) else if u2 = 1 then zCk (zIn u1 12) (some (M2 112 (zIx u1), M2)) else if u2 = 2 then zCk (zIn u1 12) (some (M2 113 (zIx u1), M2)) else if u2 = 3 then zCk (zIn u1 12) (some (M2 114 (zIx u1), M2)) else if u2 = 4 then zCk (zIn u1 12) (if (M2 116 (zIx u1)) = 0 then some (0, M2) else some (1, M2)) else if u2 = 5 then zCk (zIn u1 12) (if (M2 117 (zIx u1)) = 0 then some (0, M2) else some (1, M2)) else some (-1, M2))
set_option maxRecDepth 100000 in
theorem lk_X10_pending (l : Launch) (w : zWD) (u1 : Int32) (u2 : Int32) (ho : zKd w 74 = (10, 61)) : zMt l w yX10_pending cX10_pending 3 (some .int) rm_X10_pending 1 [.ref (zA w 74), .int u1, .int u2] (fun M => f_X10_pending u1 u2 M) := by
  refine zMt.of (by decide) [some (.ref (zA w 74)), some (.int u1), some (.int u2)] rfl (zle rfl) (by intro v hv; simp only [List.mem_cons, List.not_mem_nil, or_false] at hv; rcases hv with rfl | rfl | rfl <;> rfl) ?_
  intro p e s m args below meth c X M
  unfold f_X10_pending
  refine re_iload_n X dX10_pending_0 rfl rfl ?_
  refine re_iconst (v := 0) X dX10_pending_1 (by decide) ?_
  refine re_aload_n X dX10_pending_2 rfl rfl ?_
  refine re_getI X cl_10 (by decide) fl_RX10_293 ho rfl dX10_pending_3 ?_
  refine re_iconst (v := 1) X dX10_pending_6 (by decide) ?_
  refine re_isub X dX10_pending_7 ?_
  refine re_callSz X (lk_X10_in l w u1 0 ((M 74 39) - 1)) (ca_X10_in (by decide) (by decide)) ml_RX10_184 sm_X10_in rfl rfl rfl (zle rfl) zRo dX10_pending_8 (fun r1 M2 hr1 => ?_)
  refine re_if_ne (tgt := 16) X dX10_pending_11 (by decide) (fun _ => ?_) (fun _ => ?_)
  · refine re_iconst (v := -1) X dX10_pending_14 (by decide) ?_
    exact re_iret X dX10_pending_15
  · refine re_iload_n X dX10_pending_16 rfl rfl ?_
    refine re_if (fun e3 => ?_) (fun e3 => ?_)
    · refine re_sw_in (v := 0) (off := 39) (tgt := 56) X dX10_pending_17 e3 (by decide) (by decide) (by decide +kernel) (by decide) ?_
      refine re_aload_n X dX10_pending_56 rfl rfl ?_
      refine re_getR X cl_10 (by decide) fl_RX10_86 ho rfl (zR_10_40 ho) dX10_pending_57 ?_
      refine re_iload_n X dX10_pending_60 rfl rfl ?_
      refine re_ck (fun hi4 => ?_)
      refine re_iald X (zQ_10_40 X.clo ho) hi4 (j := zIx u1) rfl dX10_pending_61 ?_
      exact re_iret X dX10_pending_62
    refine re_if (fun e5 => ?_) (fun e5 => ?_)
    · refine re_sw_in (v := 1) (off := 46) (tgt := 63) X dX10_pending_17 e5 (by decide) (by decide) (by decide +kernel) (by decide) ?_
      refine re_aload_n X dX10_pending_63 rfl rfl ?_
      refine re_getR X cl_10 (by decide) fl_RX10_89 ho rfl (zR_10_41 ho) dX10_pending_64 ?_
      refine re_iload_n X dX10_pending_67 rfl rfl ?_
      refine re_ck (fun hi6 => ?_)
      refine re_iald X (zQ_10_41 X.clo ho) hi6 (j := zIx u1) rfl dX10_pending_68 ?_
      exact re_iret X dX10_pending_69
    refine re_if (fun e7 => ?_) (fun e7 => ?_)
    · refine re_sw_in (v := 2) (off := 53) (tgt := 70) X dX10_pending_17 e7 (by decide) (by decide) (by decide +kernel) (by decide) ?_
      refine re_aload_n X dX10_pending_70 rfl rfl ?_
      refine re_getR X cl_10 (by decide) fl_RX10_92 ho rfl (zR_10_42 ho) dX10_pending_71 ?_
      refine re_iload_n X dX10_pending_74 rfl rfl ?_
      refine re_ck (fun hi8 => ?_)
      refine re_iald X (zQ_10_42 X.clo ho) hi8 (j := zIx u1) rfl dX10_pending_75 ?_
      exact re_iret X dX10_pending_76
    refine re_if (fun e9 => ?_) (fun e9 => ?_)
    · refine re_sw_in (v := 3) (off := 60) (tgt := 77) X dX10_pending_17 e9 (by decide) (by decide) (by decide +kernel) (by decide) ?_
      refine re_aload_n X dX10_pending_77 rfl rfl ?_
      refine re_getR X cl_10 (by decide) fl_RX10_95 ho rfl (zR_10_43 ho) dX10_pending_78 ?_
      refine re_iload_n X dX10_pending_81 rfl rfl ?_
      refine re_ck (fun hi10 => ?_)
      refine re_iald X (zQ_10_43 X.clo ho) hi10 (j := zIx u1) rfl dX10_pending_82 ?_
      exact re_iret X dX10_pending_83
    refine re_if (fun e11 => ?_) (fun e11 => ?_)
    · refine re_sw_in (v := 4) (off := 67) (tgt := 84) X dX10_pending_17 e11 (by decide) (by decide) (by decide +kernel) (by decide) ?_
      refine re_aload_n X dX10_pending_84 rfl rfl ?_
      refine re_getR X cl_10 (by decide) fl_RX10_101 ho rfl (zR_10_45 ho) dX10_pending_85 ?_
      refine re_iload_n X dX10_pending_88 rfl rfl ?_
      refine re_ck (fun hi12 => ?_)
      refine re_zald X (zQ_10_45 X.clo ho) hi12 (j := zIx u1) rfl dX10_pending_89 ?_
      refine re_if_eq (tgt := 97) X dX10_pending_90 (by decide) (fun _ => ?_) (fun _ => ?_)
      · refine re_iconst (v := 0) X dX10_pending_97 (by decide) ?_
        exact re_iret X dX10_pending_98
      · refine re_iconst (v := 1) X dX10_pending_93 (by decide) ?_
        refine re_goto (tgt := 98) X dX10_pending_94 (by decide) ?_
        exact re_iret X dX10_pending_98
    refine re_if (fun e13 => ?_) (fun e13 => ?_)
    · refine re_sw_in (v := 5) (off := 82) (tgt := 99) X dX10_pending_17 e13 (by decide) (by decide) (by decide +kernel) (by decide) ?_
      refine re_aload_n X dX10_pending_99 rfl rfl ?_
      refine re_getR X cl_10 (by decide) fl_RX10_104 ho rfl (zR_10_46 ho) dX10_pending_100 ?_
      refine re_iload_n X dX10_pending_103 rfl rfl ?_
      refine re_ck (fun hi14 => ?_)
      refine re_zald X (zQ_10_46 X.clo ho) hi14 (j := zIx u1) rfl dX10_pending_104 ?_
      refine re_if_eq (tgt := 112) X dX10_pending_105 (by decide) (fun _ => ?_) (fun _ => ?_)
      · refine re_iconst (v := 0) X dX10_pending_112 (by decide) ?_
        exact re_iret X dX10_pending_113
      · refine re_iconst (v := 1) X dX10_pending_108 (by decide) ?_
        refine re_goto (tgt := 113) X dX10_pending_109 (by decide) ?_
        exact re_iret X dX10_pending_113
    refine re_sw_out (tgt := 114) X dX10_pending_17 (by
        have e3 := lv_neT (a := 0) e3 (by decide)
        have e5 := lv_neT (a := 1) e5 (by decide)
        have e7 := lv_neT (a := 2) e7 (by decide)
        have e9 := lv_neT (a := 3) e9 (by decide)
        have e11 := lv_neT (a := 4) e11 (by decide)
        have e13 := lv_neT (a := 5) e13 (by decide)
        omega) (by decide) ?_
    refine re_iconst (v := -1) X dX10_pending_114 (by decide) ?_
    exact re_iret X dX10_pending_115
theorem ca_X10_pending {R : Room} (h1 : rm_X10_pending.frames + 1 ≤ R.frames) (h2 : 8 + (3 + 11) + rm_X10_pending.locals ≤ R.locals) : zCa yX10_pending cX10_pending 3 (some .int) rm_X10_pending R 2 := ⟨cd_X10_pending, iz_RX10, ⟨by decide, by decide, by decide⟩, rfl, rfl, h1, h2⟩
/-! DebateHouseModel.clause -/
abbrev rm_X10_clause_ : Room := { frames := 1, cells := 0, slots := 0, locals := 22 }
def f_X10_clause_ (u1 : Int32) (u2 : Int32) (M : zMem) : zTr := if (M 74 48) = 0 then some (-1, M) else zBd (f_X10_in u1 0 ((M 74 49) - 1) M) (fun r1 M2 => if r1 = 0 then some (-1, M2) else if u2 = 0 then zCk (zIn u1 60) (some (M2 119 (zIx u1), M2)) else if u2 = 1 then zCk (zIn u1 60) (some (M2 120 (zIx u1), M2)) else some (-1, M2))
set_option maxRecDepth 100000 in
theorem lk_X10_clause_ (l : Launch) (w : zWD) (u1 : Int32) (u2 : Int32) (ho : zKd w 74 = (10, 61)) : zMt l w yX10_clause_ cX10_clause_ 3 (some .int) rm_X10_clause_ 1 [.ref (zA w 74), .int u1, .int u2] (fun M => f_X10_clause_ u1 u2 M) := by
  refine zMt.of (by decide) [some (.ref (zA w 74)), some (.int u1), some (.int u2)] rfl (zle rfl) (by intro v hv; simp only [List.mem_cons, List.not_mem_nil, or_false] at hv; rcases hv with rfl | rfl | rfl <;> rfl) ?_
  intro p e s m args below meth c X M
  unfold f_X10_clause_
  refine re_aload_n X dX10_clause__0 rfl rfl ?_
  refine re_getI X cl_10 (by decide) fl_RX10_296 ho rfl dX10_clause__1 ?_
  refine re_if_eq (tgt := 21) X dX10_clause__4 (by decide) (fun _ => ?_) (fun _ => ?_)
  · refine re_iconst (v := -1) X dX10_clause__21 (by decide) ?_
    refine re_goto (tgt := 53) X dX10_clause__22 (by decide) ?_
    exact re_iret X dX10_clause__53
  · refine re_iload_n X dX10_clause__7 rfl rfl ?_
    refine re_iconst (v := 0) X dX10_clause__8 (by decide) ?_
    refine re_aload_n X dX10_clause__9 rfl rfl ?_
    refine re_getI X cl_10 (by decide) fl_RX10_299 ho rfl dX10_clause__10 ?_
    refine re_iconst (v := 1) X dX10_clause__13 (by decide) ?_
    refine re_isub X dX10_clause__14 ?_
    refine re_callSz X (lk_X10_in l w u1 0 ((M 74 49) - 1)) (ca_X10_in (by decide) (by decide)) ml_RX10_184 sm_X10_in rfl rfl rfl (zle rfl) zRo dX10_clause__15 (fun r1 M2 hr1 => ?_)
    refine re_if_ne (tgt := 25) X dX10_clause__18 (by decide) (fun _ => ?_) (fun _ => ?_)
    · refine re_iconst (v := -1) X dX10_clause__21 (by decide) ?_
      refine re_goto (tgt := 53) X dX10_clause__22 (by decide) ?_
      exact re_iret X dX10_clause__53
    · refine re_iload_n X dX10_clause__25 rfl rfl ?_
      refine re_if_ne (tgt := 38) X dX10_clause__26 (by decide) (fun _ => ?_) (fun _ => ?_)
      · refine re_aload_n X dX10_clause__29 rfl rfl ?_
        refine re_getR X cl_10 (by decide) fl_RX10_110 ho rfl (zR_10_51 ho) dX10_clause__30 ?_
        refine re_iload_n X dX10_clause__33 rfl rfl ?_
        refine re_ck (fun hi3 => ?_)
        refine re_iald X (zQ_10_51 X.clo ho) hi3 (j := zIx u1) rfl dX10_clause__34 ?_
        refine re_goto (tgt := 53) X dX10_clause__35 (by decide) ?_
        exact re_iret X dX10_clause__53
      · refine re_iload_n X dX10_clause__38 rfl rfl ?_
        refine re_iconst (v := 1) X dX10_clause__39 (by decide) ?_
        refine re_icmp_ne (tgt := 52) X dX10_clause__40 (by decide) (fun _ => ?_) (fun _ => ?_)
        · refine re_aload_n X dX10_clause__43 rfl rfl ?_
          refine re_getR X cl_10 (by decide) fl_RX10_113 ho rfl (zR_10_52 ho) dX10_clause__44 ?_
          refine re_iload_n X dX10_clause__47 rfl rfl ?_
          refine re_ck (fun hi4 => ?_)
          refine re_iald X (zQ_10_52 X.clo ho) hi4 (j := zIx u1) rfl dX10_clause__48 ?_
          refine re_goto (tgt := 53) X dX10_clause__49 (by decide) ?_
          exact re_iret X dX10_clause__53
        · refine re_iconst (v := -1) X dX10_clause__52 (by decide) ?_
          exact re_iret X dX10_clause__53
theorem ca_X10_clause_ {R : Room} (h1 : rm_X10_clause_.frames + 1 ≤ R.frames) (h2 : 8 + (3 + 11) + rm_X10_clause_.locals ≤ R.locals) : zCa yX10_clause_ cX10_clause_ 3 (some .int) rm_X10_clause_ R 2 := ⟨cd_X10_clause_, iz_RX10, ⟨by decide, by decide, by decide⟩, rfl, rfl, h1, h2⟩
/-! DebateHouseModel.place -/
abbrev rm_X10_place : Room := { frames := 1, cells := 0, slots := 0, locals := 22 }
def f_X10_place (u1 : Int32) (M : zMem) : zTr := zBd (f_X10_placeOf u1 M) (fun r1 M2 => some (r1, M2))
set_option maxRecDepth 100000 in
theorem lk_X10_place (l : Launch) (w : zWD) (u1 : Int32) (ho : zKd w 74 = (10, 61)) : zMt l w yX10_place cX10_place 2 (some .int) rm_X10_place 1 [.ref (zA w 74), .int u1] (fun M => f_X10_place u1 M) := by
  refine zMt.of (by decide) [some (.ref (zA w 74)), some (.int u1)] rfl (zle rfl) (by intro v hv; simp only [List.mem_cons, List.not_mem_nil, or_false] at hv; rcases hv with rfl | rfl <;> rfl) ?_
  intro p e s m args below meth c X M
  unfold f_X10_place
  refine re_aload_n X dX10_place_0 rfl rfl ?_
  refine re_iload_n X dX10_place_1 rfl rfl ?_
  refine re_callVi X (lk_X10_placeOf l w u1 ho) (ca_X10_placeOf (by decide) (by decide)) ml_RX10_333 im_X10_placeOf se_X10_placeOf cl_10 ho rfl rfl rfl (zle rfl) zRo dX10_place_2 (fun r1 M2 hr1 => ?_)
  exact re_iret X dX10_place_5
theorem ca_X10_place {R : Room} (h1 : rm_X10_place.frames + 1 ≤ R.frames) (h2 : 8 + (2 + 11) + rm_X10_place.locals ≤ R.locals) : zCa yX10_place cX10_place 2 (some .int) rm_X10_place R 1 := ⟨cd_X10_place, iz_RX10, ⟨by decide, by decide, by decide⟩, rfl, rfl, h1, h2⟩
/-! DebateHouseModel.speeches -/
abbrev rm_X10_speeches : Room := { frames := 1, cells := 0, slots := 0, locals := 22 }
def f_X10_speeches (u1 : Int32) (M : zMem) : zTr := zBd (f_X10_in u1 0 23 M) (fun r1 M2 => if r1 = 0 then some (-1, M2) else zCk (zIn u1 24) (some (M2 110 (zIx u1), M2)))
set_option maxRecDepth 100000 in
theorem lk_X10_speeches (l : Launch) (w : zWD) (u1 : Int32) (ho : zKd w 74 = (10, 61)) : zMt l w yX10_speeches cX10_speeches 2 (some .int) rm_X10_speeches 1 [.ref (zA w 74), .int u1] (fun M => f_X10_speeches u1 M) := by
  refine zMt.of (by decide) [some (.ref (zA w 74)), some (.int u1)] rfl (zle rfl) (by intro v hv; simp only [List.mem_cons, List.not_mem_nil, or_false] at hv; rcases hv with rfl | rfl <;> rfl) ?_
  intro p e s m args below meth c X M
  unfold f_X10_speeches
  refine re_iload_n X dX10_speeches_0 rfl rfl ?_
  refine re_iconst (v := 0) X dX10_speeches_1 (by decide) ?_
  refine re_bipush (v := 23) X dX10_speeches_2 (by decide) ?_
  refine re_callSz X (lk_X10_in l w u1 0 23) (ca_X10_in (by decide) (by decide)) ml_RX10_184 sm_X10_in rfl rfl rfl (zle rfl) zRo dX10_speeches_4 (fun r1 M2 hr1 => ?_)
  refine re_if_eq (tgt := 19) X dX10_speeches_7 (by decide) (fun _ => ?_) (fun _ => ?_)
  · refine re_iconst (v := -1) X dX10_speeches_19 (by decide) ?_
    exact re_iret X dX10_speeches_20
  · refine re_aload_n X dX10_speeches_10 rfl rfl ?_
    refine re_getR X cl_10 (by decide) fl_RX10_83 ho rfl (zR_10_30 ho) dX10_speeches_11 ?_
    refine re_iload_n X dX10_speeches_14 rfl rfl ?_
    refine re_ck (fun hi3 => ?_)
    refine re_iald X (zQ_10_30 X.clo ho) hi3 (j := zIx u1) rfl dX10_speeches_15 ?_
    refine re_goto (tgt := 20) X dX10_speeches_16 (by decide) ?_
    exact re_iret X dX10_speeches_20
theorem ca_X10_speeches {R : Room} (h1 : rm_X10_speeches.frames + 1 ≤ R.frames) (h2 : 8 + (2 + 11) + rm_X10_speeches.locals ≤ R.locals) : zCa yX10_speeches cX10_speeches 2 (some .int) rm_X10_speeches R 1 := ⟨cd_X10_speeches, iz_RX10, ⟨by decide, by decide, by decide⟩, rfl, rfl, h1, h2⟩
/-! DebateHouseModel.waits -/
abbrev rm_X10_waits : Room := { frames := 2, cells := 0, slots := 0, locals := 49 }
def f_X10_waits_L122 (u1 : Int32) (k76 : Int32 → Int32 → Int32 → zMem → zTr) : Nat → Int32 → Int32 → Int32 → Int32 → zMem → zTr
  | 0, _, _, _, _, _ => none
  | n + 1, x2, x3, x4, x6, M => if x2 ≤ x6 then k76 x2 x3 (x4 + 1) M else zCk (zIn (x6 + 1) 24) (zCk (zIn x6 24) (zLt (zUp M 122 (zIx x6) (M 122 (zIx (x6 + 1)))) (fun M10 => f_X10_waits_L122 u1 k76 n x2 x3 x4 (x6 + 1) M10)))
def f_X10_waits_L76 (u1 : Int32)  : Nat → Int32 → Int32 → Int32 → zMem → zTr
  | 0, _, _, _, _ => none
  | n + 1, x2, x3, x4, M => if u1 < x4 then some (x3, M) else zBd (f_X10_next 122 x2 123 M) (fun r3 M4 => zCk (zIn r3 24) (zCk (zIn (M4 122 (zIx r3)) 24) (zCk (zIn (M4 122 (zIx r3)) 24) (zLt (zUp M4 123 (zIx (M4 122 (zIx r3))) ((M4 123 (zIx (M4 122 (zIx r3)))) + 1)) (fun M7 => f_X10_waits_L122 u1 (fun x2 x3 x4 M => f_X10_waits_L76 u1 n x2 x3 x4 M) zFu (x2 + (-1)) (M4 122 (zIx r3)) x4 r3 M7)))))
def f_X10_waits_B66 (u1 : Int32)  (M : zMem) : zTr := f_X10_waits_L76 u1 zFu (M 74 31) (-1) 0 M
def f_X10_waits_L18 (u1 : Int32)  : Nat → Int32 → zMem → zTr
  | 0, _, _ => none
  | n + 1, x2, M => if 24 ≤ x2 then f_X10_waits_B66 u1 M else zCk (zIn x2 24) (zCk (zIn x2 24) (zLt (zUp M 123 (zIx x2) (M 110 (zIx x2))) (fun M13 => if (M13 74 31) ≤ x2 then zCk (zIn x2 24) (zLt (zUp M13 122 (zIx x2) (-1)) (fun M15 => f_X10_waits_L18 u1 n (x2 + 1) M15)) else zCk (zIn x2 24) (zCk (zIn x2 24) (zLt (zUp M13 122 (zIx x2) (M13 109 (zIx x2))) (fun M18 => f_X10_waits_L18 u1 n (x2 + 1) M18))))))
def f_X10_waits (u1 : Int32) (M : zMem) : zTr := zBd (f_X10_in u1 0 ((M 74 31) - 1) M) (fun r1 M2 => if r1 = 0 then some (-1, M2) else f_X10_waits_L18 u1 zFu 0 M2)
set_option maxRecDepth 100000 in
theorem lb_X10_waits_122 {p : Program} {l : Launch} {e : Env} {s : State} {m : MethodId} {args : Array Value} {below : List Frame} {meth : Method} {c : Code} {w : zWD} {u1 : Int32} (X : zCx p s m args meth c w (zFree w) RX10 cX10_waits 7 (some .int)) (ho : zKd w 74 = (10, 61)) (k76 : Int32 → Int32 → Int32 → zMem → zTr) (hk76 : ∀ (x2 : Int32) (x3 : Int32) (x4 : Int32) (M : zMem), zRm p l e rm_X10_waits s m args below meth c w 1 76 [some (.ref (zA w 74)), some (.int u1), some (.int x2), some (.int x3), some (.int x4), none, none] [] M (k76 x2 x3 x4 M)) : ∀ (n : Nat) (x2 : Int32) (x3 : Int32) (x4 : Int32) (x6 : Int32) (M : zMem), zRm p l e rm_X10_waits s m args below meth c w 1 122 [some (.ref (zA w 74)), some (.int u1), some (.int x2), some (.int x3), some (.int x4), none, some (.int x6)] [] M (f_X10_waits_L122 u1 k76 n x2 x3 x4 x6 M) := by
  intro n
  induction n with
  | zero => intro x2 x3 x4 x6 M; exact re_none
  | succ n ih =>
    intro x2 x3 x4 x6 M
    rw [f_X10_waits_L122]
    refine re_iload X dX10_waits_122 rfl ?_
    refine re_iload_n X dX10_waits_124 rfl rfl ?_
    refine re_icmp_ge (tgt := 150) X dX10_waits_125 (by decide) (fun _ => ?_) (fun _ => ?_)
    · refine re_iinc (v := 1) (lv' := [some (.ref (zA w 74)), some (.int u1), some (.int x2), some (.int x3), some (.int (x4 + 1)), none, some (.int x6)]) X dX10_waits_150 rfl (by decide) rfl ?_
      refine re_goto (tgt := 76) X dX10_waits_153 (by decide) ?_
      exact re_sub (hk76 x2 x3 (x4 + 1) M) ⟨rfl, ⟨rfl, ⟨rfl, ⟨rfl, ⟨rfl, trivial⟩⟩⟩⟩⟩
    · refine re_aload_n X dX10_waits_128 rfl rfl ?_
      refine re_getR X cl_10 (by decide) fl_RX10_122 ho rfl (zR_10_55 ho) dX10_waits_129 ?_
      refine re_iload X dX10_waits_132 rfl ?_
      refine re_aload_n X dX10_waits_134 rfl rfl ?_
      refine re_getR X cl_10 (by decide) fl_RX10_122 ho rfl (zR_10_55 ho) dX10_waits_135 ?_
      refine re_iload X dX10_waits_138 rfl ?_
      refine re_iconst (v := 1) X dX10_waits_140 (by decide) ?_
      refine re_iadd X dX10_waits_141 ?_
      refine re_ck (fun hi9 => ?_)
      refine re_iald X (zQ_10_55 X.clo ho) hi9 (j := zIx (x6 + 1)) rfl dX10_waits_142 ?_
      refine re_ck (fun hi11 => ?_)
      refine re_iast X (zQ_10_55 X.clo ho) hi11 (j := zIx x6) rfl dX10_waits_143 (fun M10 => ?_)
      refine re_iinc (v := 1) (lv' := [some (.ref (zA w 74)), some (.int u1), some (.int x2), some (.int x3), some (.int x4), none, some (.int (x6 + 1))]) X dX10_waits_144 rfl (by decide) rfl ?_
      refine re_goto (tgt := 122) X dX10_waits_147 (by decide) ?_
      exact ih x2 x3 x4 (x6 + 1) M10

set_option maxRecDepth 100000 in
theorem lb_X10_waits_76 {p : Program} {l : Launch} {e : Env} {s : State} {m : MethodId} {args : Array Value} {below : List Frame} {meth : Method} {c : Code} {w : zWD} {u1 : Int32} (X : zCx p s m args meth c w (zFree w) RX10 cX10_waits 7 (some .int)) (ho : zKd w 74 = (10, 61)) : ∀ (n : Nat) (x2 : Int32) (x3 : Int32) (x4 : Int32) (M : zMem), zRm p l e rm_X10_waits s m args below meth c w 1 76 [some (.ref (zA w 74)), some (.int u1), some (.int x2), some (.int x3), some (.int x4), none, none] [] M (f_X10_waits_L76 u1 n x2 x3 x4 M) := by
  intro n
  induction n with
  | zero => intro x2 x3 x4 M; exact re_none
  | succ n ih =>
    intro x2 x3 x4 M
    rw [f_X10_waits_L76]
    refine re_iload X dX10_waits_76 rfl ?_
    refine re_iload_n X dX10_waits_78 rfl rfl ?_
    refine re_icmp_gt (tgt := 156) X dX10_waits_79 (by decide) (fun _ => ?_) (fun _ => ?_)
    · refine re_iload_n X dX10_waits_156 rfl rfl ?_
      exact re_iret X dX10_waits_157
    · refine re_aload_n X dX10_waits_82 rfl rfl ?_
      refine re_aload_n X dX10_waits_83 rfl rfl ?_
      refine re_getR X cl_10 (by decide) fl_RX10_122 ho rfl (zR_10_55 ho) dX10_waits_84 ?_
      refine re_iload_n X dX10_waits_87 rfl rfl ?_
      refine re_aload_n X dX10_waits_88 rfl rfl ?_
      refine re_getR X cl_10 (by decide) fl_RX10_125 ho rfl (zR_10_56 ho) dX10_waits_89 ?_
      refine re_callVi X (lk_X10_next l w 122 x2 123 ho (zQ_10_55 X.clo ho) (zQ_10_56 X.clo ho)) (ca_X10_next (by decide) (by decide)) ml_RX10_342 im_X10_next se_X10_next cl_10 ho rfl rfl rfl (zle rfl) zRo dX10_waits_92 (fun r3 M4 hr3 => ?_)
      refine re_istore (lv' := [some (.ref (zA w 74)), some (.int u1), some (.int x2), some (.int x3), some (.int x4), some (.int r3), none]) X dX10_waits_95 (zlt rfl) rfl ?_
      refine re_aload_n X dX10_waits_97 rfl rfl ?_
      refine re_getR X cl_10 (by decide) fl_RX10_122 ho rfl (zR_10_55 ho) dX10_waits_98 ?_
      refine re_iload X dX10_waits_101 rfl ?_
      refine re_ck (fun hi5 => ?_)
      refine re_iald X (zQ_10_55 X.clo ho) hi5 (j := zIx r3) rfl dX10_waits_103 ?_
      refine re_istore_n (lv' := [some (.ref (zA w 74)), some (.int u1), some (.int x2), some (.int (M4 122 (zIx r3))), some (.int x4), some (.int r3), none]) X dX10_waits_104 rfl (zlt rfl) rfl ?_
      refine re_aload_n X dX10_waits_105 rfl rfl ?_
      refine re_getR X cl_10 (by decide) fl_RX10_125 ho rfl (zR_10_56 ho) dX10_waits_106 ?_
      refine re_iload_n X dX10_waits_109 rfl rfl ?_
      refine re_dup2 X dX10_waits_110 rfl rfl ?_
      refine re_ck (fun hi6 => ?_)
      refine re_iald X (zQ_10_56 X.clo ho) hi6 (j := zIx (M4 122 (zIx r3))) rfl dX10_waits_111 ?_
      refine re_iconst (v := 1) X dX10_waits_112 (by decide) ?_
      refine re_iadd X dX10_waits_113 ?_
      refine re_ck (fun hi8 => ?_)
      refine re_iast X (zQ_10_56 X.clo ho) hi8 (j := zIx (M4 122 (zIx r3))) rfl dX10_waits_114 (fun M7 => ?_)
      refine re_iinc (v := -1) (lv' := [some (.ref (zA w 74)), some (.int u1), some (.int (x2 + (-1))), some (.int (M4 122 (zIx r3))), some (.int x4), some (.int r3), none]) X dX10_waits_115 rfl (by decide) rfl ?_
      refine re_iload X dX10_waits_118 rfl ?_
      refine re_istore (lv' := [some (.ref (zA w 74)), some (.int u1), some (.int (x2 + (-1))), some (.int (M4 122 (zIx r3))), some (.int x4), some (.int r3), some (.int r3)]) X dX10_waits_120 (zlt rfl) rfl ?_
      exact re_sub (lb_X10_waits_122 X ho _ ih zFu (x2 + (-1)) (M4 122 (zIx r3)) x4 r3 M7) ⟨rfl, ⟨rfl, ⟨rfl, ⟨rfl, ⟨rfl, ⟨rfl, trivial⟩⟩⟩⟩⟩⟩

set_option maxRecDepth 100000 in
theorem lb_X10_waits_66 {p : Program} {l : Launch} {e : Env} {s : State} {m : MethodId} {args : Array Value} {below : List Frame} {meth : Method} {c : Code} {w : zWD} {u1 : Int32} (X : zCx p s m args meth c w (zFree w) RX10 cX10_waits 7 (some .int)) (ho : zKd w 74 = (10, 61)) : ∀ (M : zMem), zRm p l e rm_X10_waits s m args below meth c w 1 66 [some (.ref (zA w 74)), some (.int u1), none, none, none, none, none] [] M (f_X10_waits_B66 u1 M) := by
  intro M
  unfold f_X10_waits_B66
  refine re_aload_n X dX10_waits_66 rfl rfl ?_
  refine re_getI X cl_10 (by decide) fl_RX10_268 ho rfl dX10_waits_67 ?_
  refine re_istore_n (lv' := [some (.ref (zA w 74)), some (.int u1), some (.int (M 74 31)), none, none, none, none]) X dX10_waits_70 rfl (zlt rfl) rfl ?_
  refine re_iconst (v := -1) X dX10_waits_71 (by decide) ?_
  refine re_istore_n (lv' := [some (.ref (zA w 74)), some (.int u1), some (.int (M 74 31)), some (.int (-1)), none, none, none]) X dX10_waits_72 rfl (zlt rfl) rfl ?_
  refine re_iconst (v := 0) X dX10_waits_73 (by decide) ?_
  refine re_istore (lv' := [some (.ref (zA w 74)), some (.int u1), some (.int (M 74 31)), some (.int (-1)), some (.int 0), none, none]) X dX10_waits_74 (zlt rfl) rfl ?_
  exact lb_X10_waits_76 X ho zFu (M 74 31) (-1) 0 M

set_option maxRecDepth 100000 in
theorem lb_X10_waits_18 {p : Program} {l : Launch} {e : Env} {s : State} {m : MethodId} {args : Array Value} {below : List Frame} {meth : Method} {c : Code} {w : zWD} {u1 : Int32} (X : zCx p s m args meth c w (zFree w) RX10 cX10_waits 7 (some .int)) (ho : zKd w 74 = (10, 61)) : ∀ (n : Nat) (x2 : Int32) (M : zMem), zRm p l e rm_X10_waits s m args below meth c w 1 18 [some (.ref (zA w 74)), some (.int u1), some (.int x2), none, none, none, none] [] M (f_X10_waits_L18 u1 n x2 M) := by
  intro n
  induction n with
  | zero => intro x2 M; exact re_none
  | succ n ih =>
    intro x2 M
    rw [f_X10_waits_L18]
    refine re_iload_n X dX10_waits_18 rfl rfl ?_
    refine re_bipush (v := 24) X dX10_waits_19 (by decide) ?_
    refine re_icmp_ge (tgt := 66) X dX10_waits_21 (by decide) (fun _ => ?_) (fun _ => ?_)
    · exact re_sub (lb_X10_waits_66 X ho M) ⟨rfl, ⟨rfl, trivial⟩⟩
    · refine re_aload_n X dX10_waits_24 rfl rfl ?_
      refine re_getR X cl_10 (by decide) fl_RX10_125 ho rfl (zR_10_56 ho) dX10_waits_25 ?_
      refine re_iload_n X dX10_waits_28 rfl rfl ?_
      refine re_aload_n X dX10_waits_29 rfl rfl ?_
      refine re_getR X cl_10 (by decide) fl_RX10_83 ho rfl (zR_10_30 ho) dX10_waits_30 ?_
      refine re_iload_n X dX10_waits_33 rfl rfl ?_
      refine re_ck (fun hi12 => ?_)
      refine re_iald X (zQ_10_30 X.clo ho) hi12 (j := zIx x2) rfl dX10_waits_34 ?_
      refine re_ck (fun hi14 => ?_)
      refine re_iast X (zQ_10_56 X.clo ho) hi14 (j := zIx x2) rfl dX10_waits_35 (fun M13 => ?_)
      refine re_aload_n X dX10_waits_36 rfl rfl ?_
      refine re_getR X cl_10 (by decide) fl_RX10_122 ho rfl (zR_10_55 ho) dX10_waits_37 ?_
      refine re_iload_n X dX10_waits_40 rfl rfl ?_
      refine re_iload_n X dX10_waits_41 rfl rfl ?_
      refine re_aload_n X dX10_waits_42 rfl rfl ?_
      refine re_getI X cl_10 (by decide) fl_RX10_268 ho rfl dX10_waits_43 ?_
      refine re_icmp_ge (tgt := 58) X dX10_waits_46 (by decide) (fun _ => ?_) (fun _ => ?_)
      · refine re_iconst (v := -1) X dX10_waits_58 (by decide) ?_
        refine re_ck (fun hi16 => ?_)
        refine re_iast X (zQ_10_55 X.clo ho) hi16 (j := zIx x2) rfl dX10_waits_59 (fun M15 => ?_)
        refine re_iinc (v := 1) (lv' := [some (.ref (zA w 74)), some (.int u1), some (.int (x2 + 1)), none, none, none, none]) X dX10_waits_60 rfl (by decide) rfl ?_
        refine re_goto (tgt := 18) X dX10_waits_63 (by decide) ?_
        exact ih (x2 + 1) M15
      · refine re_aload_n X dX10_waits_49 rfl rfl ?_
        refine re_getR X cl_10 (by decide) fl_RX10_80 ho rfl (zR_10_29 ho) dX10_waits_50 ?_
        refine re_iload_n X dX10_waits_53 rfl rfl ?_
        refine re_ck (fun hi17 => ?_)
        refine re_iald X (zQ_10_29 X.clo ho) hi17 (j := zIx x2) rfl dX10_waits_54 ?_
        refine re_goto (tgt := 59) X dX10_waits_55 (by decide) ?_
        refine re_ck (fun hi19 => ?_)
        refine re_iast X (zQ_10_55 X.clo ho) hi19 (j := zIx x2) rfl dX10_waits_59 (fun M18 => ?_)
        refine re_iinc (v := 1) (lv' := [some (.ref (zA w 74)), some (.int u1), some (.int (x2 + 1)), none, none, none, none]) X dX10_waits_60 rfl (by decide) rfl ?_
        refine re_goto (tgt := 18) X dX10_waits_63 (by decide) ?_
        exact ih (x2 + 1) M18

set_option maxRecDepth 100000 in
theorem lk_X10_waits (l : Launch) (w : zWD) (u1 : Int32) (ho : zKd w 74 = (10, 61)) : zMt l w yX10_waits cX10_waits 7 (some .int) rm_X10_waits 1 [.ref (zA w 74), .int u1] (fun M => f_X10_waits u1 M) := by
  refine zMt.of (by decide) [some (.ref (zA w 74)), some (.int u1), none, none, none, none, none] rfl (zle rfl) (by intro v hv; simp only [List.mem_cons, List.not_mem_nil, or_false] at hv; rcases hv with rfl | rfl <;> rfl) ?_
  intro p e s m args below meth c X M
  unfold f_X10_waits
  refine re_iload_n X dX10_waits_0 rfl rfl ?_
  refine re_iconst (v := 0) X dX10_waits_1 (by decide) ?_
  refine re_aload_n X dX10_waits_2 rfl rfl ?_
  refine re_getI X cl_10 (by decide) fl_RX10_268 ho rfl dX10_waits_3 ?_
  refine re_iconst (v := 1) X dX10_waits_6 (by decide) ?_
  refine re_isub X dX10_waits_7 ?_
  refine re_callSz X (lk_X10_in l w u1 0 ((M 74 31) - 1)) (ca_X10_in (by decide) (by decide)) ml_RX10_184 sm_X10_in rfl rfl rfl (zle rfl) zRo dX10_waits_8 (fun r1 M2 hr1 => ?_)
  refine re_if_ne (tgt := 16) X dX10_waits_11 (by decide) (fun _ => ?_) (fun _ => ?_)
  · refine re_iconst (v := -1) X dX10_waits_14 (by decide) ?_
    exact re_iret X dX10_waits_15
  · refine re_iconst (v := 0) X dX10_waits_16 (by decide) ?_
    refine re_istore_n (lv' := [some (.ref (zA w 74)), some (.int u1), some (.int 0), none, none, none, none]) X dX10_waits_17 rfl (zlt rfl) rfl ?_
    exact lb_X10_waits_18 X ho zFu 0 M2
theorem ca_X10_waits {R : Room} (h1 : rm_X10_waits.frames + 1 ≤ R.frames) (h2 : 8 + (7 + 11) + rm_X10_waits.locals ≤ R.locals) : zCa yX10_waits cX10_waits 7 (some .int) rm_X10_waits R 1 := ⟨cd_X10_waits, iz_RX10, ⟨by decide, by decide, by decide⟩, rfl, rfl, h1, h2⟩
/-! DebateHouseModel.overturned -/
abbrev rm_X10_overturned : Room := { frames := 1, cells := 0, slots := 0, locals := 22 }
def f_X10_overturned (u1 : Int32) (M : zMem) : zTr := zBd (f_X10_in u1 0 ((M 74 16) - 1) M) (fun r1 M2 => if r1 = 0 then some (-1, M2) else zCk (zIn u1 300) (if (M2 106 (zIx u1)) = 0 then some (0, M2) else some (1, M2)))
set_option maxRecDepth 100000 in
theorem lk_X10_overturned (l : Launch) (w : zWD) (u1 : Int32) (ho : zKd w 74 = (10, 61)) : zMt l w yX10_overturned cX10_overturned 2 (some .int) rm_X10_overturned 1 [.ref (zA w 74), .int u1] (fun M => f_X10_overturned u1 M) := by
  refine zMt.of (by decide) [some (.ref (zA w 74)), some (.int u1)] rfl (zle rfl) (by intro v hv; simp only [List.mem_cons, List.not_mem_nil, or_false] at hv; rcases hv with rfl | rfl <;> rfl) ?_
  intro p e s m args below meth c X M
  unfold f_X10_overturned
  refine re_iload_n X dX10_overturned_0 rfl rfl ?_
  refine re_iconst (v := 0) X dX10_overturned_1 (by decide) ?_
  refine re_aload_n X dX10_overturned_2 rfl rfl ?_
  refine re_getI X cl_10 (by decide) fl_RX10_259 ho rfl dX10_overturned_3 ?_
  refine re_iconst (v := 1) X dX10_overturned_6 (by decide) ?_
  refine re_isub X dX10_overturned_7 ?_
  refine re_callSz X (lk_X10_in l w u1 0 ((M 74 16) - 1)) (ca_X10_in (by decide) (by decide)) ml_RX10_184 sm_X10_in rfl rfl rfl (zle rfl) zRo dX10_overturned_8 (fun r1 M2 hr1 => ?_)
  refine re_if_eq (tgt := 33) X dX10_overturned_11 (by decide) (fun _ => ?_) (fun _ => ?_)
  · refine re_iconst (v := -1) X dX10_overturned_33 (by decide) ?_
    exact re_iret X dX10_overturned_34
  · refine re_aload_n X dX10_overturned_14 rfl rfl ?_
    refine re_getR X cl_10 (by decide) fl_RX10_70 ho rfl (zR_10_24 ho) dX10_overturned_15 ?_
    refine re_iconst (v := 0) X dX10_overturned_18 (by decide) ?_
    refine re_aald X (zQ_10_24 X.clo ho) (by decide) (by decide) rfl (rw_105 (by decide)) dX10_overturned_19 ?_
    refine re_iload_n X dX10_overturned_20 rfl rfl ?_
    refine re_ck (fun hi3 => ?_)
    refine re_zald X (rk_105 X.clo (zQ_10_24 X.clo ho) (i := 0) (by decide)) hi3 (j := zIx u1) rfl dX10_overturned_21 ?_
    refine re_if_eq (tgt := 29) X dX10_overturned_22 (by decide) (fun _ => ?_) (fun _ => ?_)
    · refine re_iconst (v := 0) X dX10_overturned_29 (by decide) ?_
      refine re_goto (tgt := 34) X dX10_overturned_30 (by decide) ?_
      exact re_iret X dX10_overturned_34
    · refine re_iconst (v := 1) X dX10_overturned_25 (by decide) ?_
      refine re_goto (tgt := 34) X dX10_overturned_26 (by decide) ?_
      exact re_iret X dX10_overturned_34
theorem ca_X10_overturned {R : Room} (h1 : rm_X10_overturned.frames + 1 ≤ R.frames) (h2 : 8 + (2 + 11) + rm_X10_overturned.locals ≤ R.locals) : zCa yX10_overturned cX10_overturned 2 (some .int) rm_X10_overturned R 1 := ⟨cd_X10_overturned, iz_RX10, ⟨by decide, by decide, by decide⟩, rfl, rfl, h1, h2⟩
/-! DebateHouseModel.score -/
abbrev rm_X10_score : Room := { frames := 1, cells := 0, slots := 0, locals := 22 }
def f_X10_score_B62 (u1 : Int32) (u2 : Int32) (u3 : Int32) (u4 : Int32)  (M : zMem) : zTr := zCk (zIn u1 6) (zLt (zUp M 124 (zIx u1) u2) (fun M10 => zCk (zIn u1 6) (zCk (zIn u3 24) (zLt (zUp M10 (126 + zIx u1) (zIx u3) u4) (fun M13 => zCk (zIn u1 6) (zCk (zIn u3 24) (zLt (zUp M13 (133 + zIx u1) (zIx u3) 1) (fun M16 => some (1, M16)))))))))
def f_X10_score (u1 : Int32) (u2 : Int32) (u3 : Int32) (u4 : Int32) (M : zMem) : zTr := zBd (f_X10_in u1 0 5 M) (fun r1 M2 => if r1 = 0 then some (0, M2) else zBd (f_X10_in u2 0 7 M2) (fun r3 M4 => if r3 = 0 then some (0, M4) else zBd (f_X10_in u3 0 23 M4) (fun r5 M6 => if r5 = 0 then some (0, M6) else zBd (f_X10_in u4 0 100 M6) (fun r7 M8 => if r7 = 0 then some (0, M8) else zCk (zIn u1 6) (if (M8 124 (zIx u1)) = (-1) then f_X10_score_B62 u1 u2 u3 u4 M8 else zCk (zIn u1 6) (if (M8 124 (zIx u1)) = u2 then f_X10_score_B62 u1 u2 u3 u4 M8 else some (0, M8)))))))
set_option maxRecDepth 100000 in
theorem lb_X10_score_62 {p : Program} {l : Launch} {e : Env} {s : State} {m : MethodId} {args : Array Value} {below : List Frame} {meth : Method} {c : Code} {w : zWD} {u1 : Int32} {u2 : Int32} {u3 : Int32} {u4 : Int32} (X : zCx p s m args meth c w (zFree w) RX10 cX10_score 5 (some .boolean)) (ho : zKd w 74 = (10, 61)) : ∀ (M : zMem), zRm p l e rm_X10_score s m args below meth c w 2 62 [some (.ref (zA w 74)), some (.int u1), some (.int u2), some (.int u3), some (.int u4)] [] M (f_X10_score_B62 u1 u2 u3 u4 M) := by
  intro M
  unfold f_X10_score_B62
  refine re_aload_n X dX10_score_62 rfl rfl ?_
  refine re_getR X cl_10 (by decide) fl_RX10_128 ho rfl (zR_10_57 ho) dX10_score_63 ?_
  refine re_iload_n X dX10_score_66 rfl rfl ?_
  refine re_iload_n X dX10_score_67 rfl rfl ?_
  refine re_ck (fun hi11 => ?_)
  refine re_iast X (zQ_10_57 X.clo ho) hi11 (j := zIx u1) rfl dX10_score_68 (fun M10 => ?_)
  refine re_aload_n X dX10_score_69 rfl rfl ?_
  refine re_getR X cl_10 (by decide) fl_RX10_131 ho rfl (zR_10_58 ho) dX10_score_70 ?_
  refine re_iload_n X dX10_score_73 rfl rfl ?_
  refine re_ck (fun hi12 => ?_)
  refine re_aald X (zQ_10_58 X.clo ho) (by decide) hi12 rfl (rw_125 (zIx_lt hi12)) dX10_score_74 ?_
  refine re_iload_n X dX10_score_75 rfl rfl ?_
  refine re_iload X dX10_score_76 rfl ?_
  refine re_ck (fun hi14 => ?_)
  refine re_iast X (rk_125 X.clo (zQ_10_58 X.clo ho) (zIx_lt hi12)) hi14 (j := zIx u3) rfl dX10_score_78 (fun M13 => ?_)
  refine re_aload_n X dX10_score_79 rfl rfl ?_
  refine re_getR X cl_10 (by decide) fl_RX10_134 ho rfl (zR_10_59 ho) dX10_score_80 ?_
  refine re_iload_n X dX10_score_83 rfl rfl ?_
  refine re_ck (fun hi15 => ?_)
  refine re_aald X (zQ_10_59 X.clo ho) (by decide) hi15 rfl (rw_132 (zIx_lt hi15)) dX10_score_84 ?_
  refine re_iload_n X dX10_score_85 rfl rfl ?_
  refine re_iconst (v := 1) X dX10_score_86 (by decide) ?_
  refine re_ck (fun hi17 => ?_)
  refine re_zast X (rk_132 X.clo (zQ_10_59 X.clo ho) (zIx_lt hi15)) hi17 (j := zIx u3) rfl (zNar_b (Or.inr rfl)) dX10_score_87 (fun M16 => ?_)
  refine re_iconst (v := 1) X dX10_score_88 (by decide) ?_
  exact re_zret X (Or.inr rfl) dX10_score_89

set_option maxRecDepth 100000 in
theorem lk_X10_score (l : Launch) (w : zWD) (u1 : Int32) (u2 : Int32) (u3 : Int32) (u4 : Int32) (ho : zKd w 74 = (10, 61)) : zMt l w yX10_score cX10_score 5 (some .boolean) rm_X10_score 2 [.ref (zA w 74), .int u1, .int u2, .int u3, .int u4] (fun M => f_X10_score u1 u2 u3 u4 M) := by
  refine zMt.of (by decide) [some (.ref (zA w 74)), some (.int u1), some (.int u2), some (.int u3), some (.int u4)] rfl (zle rfl) (by intro v hv; simp only [List.mem_cons, List.not_mem_nil, or_false] at hv; rcases hv with rfl | rfl | rfl | rfl | rfl <;> rfl) ?_
  intro p e s m args below meth c X M
  unfold f_X10_score
  refine re_iload_n X dX10_score_0 rfl rfl ?_
  refine re_iconst (v := 0) X dX10_score_1 (by decide) ?_
  refine re_iconst (v := 5) X dX10_score_2 (by decide) ?_
  refine re_callSz X (lk_X10_in l w u1 0 5) (ca_X10_in (by decide) (by decide)) ml_RX10_184 sm_X10_in rfl rfl rfl (zle rfl) zRo dX10_score_3 (fun r1 M2 hr1 => ?_)
  refine re_if_eq (tgt := 60) X dX10_score_6 (by decide) (fun _ => ?_) (fun _ => ?_)
  · refine re_iconst (v := 0) X dX10_score_60 (by decide) ?_
    exact re_zret X (Or.inl rfl) dX10_score_61
  · refine re_iload_n X dX10_score_9 rfl rfl ?_
    refine re_iconst (v := 0) X dX10_score_10 (by decide) ?_
    refine re_bipush (v := 7) X dX10_score_11 (by decide) ?_
    refine re_callSz X (lk_X10_in l w u2 0 7) (ca_X10_in (by decide) (by decide)) ml_RX10_184 sm_X10_in rfl rfl rfl (zle rfl) zRo dX10_score_13 (fun r3 M4 hr3 => ?_)
    refine re_if_eq (tgt := 60) X dX10_score_16 (by decide) (fun _ => ?_) (fun _ => ?_)
    · refine re_iconst (v := 0) X dX10_score_60 (by decide) ?_
      exact re_zret X (Or.inl rfl) dX10_score_61
    · refine re_iload_n X dX10_score_19 rfl rfl ?_
      refine re_iconst (v := 0) X dX10_score_20 (by decide) ?_
      refine re_bipush (v := 23) X dX10_score_21 (by decide) ?_
      refine re_callSz X (lk_X10_in l w u3 0 23) (ca_X10_in (by decide) (by decide)) ml_RX10_184 sm_X10_in rfl rfl rfl (zle rfl) zRo dX10_score_23 (fun r5 M6 hr5 => ?_)
      refine re_if_eq (tgt := 60) X dX10_score_26 (by decide) (fun _ => ?_) (fun _ => ?_)
      · refine re_iconst (v := 0) X dX10_score_60 (by decide) ?_
        exact re_zret X (Or.inl rfl) dX10_score_61
      · refine re_iload X dX10_score_29 rfl ?_
        refine re_iconst (v := 0) X dX10_score_31 (by decide) ?_
        refine re_bipush (v := 100) X dX10_score_32 (by decide) ?_
        refine re_callSz X (lk_X10_in l w u4 0 100) (ca_X10_in (by decide) (by decide)) ml_RX10_184 sm_X10_in rfl rfl rfl (zle rfl) zRo dX10_score_34 (fun r7 M8 hr7 => ?_)
        refine re_if_eq (tgt := 60) X dX10_score_37 (by decide) (fun _ => ?_) (fun _ => ?_)
        · refine re_iconst (v := 0) X dX10_score_60 (by decide) ?_
          exact re_zret X (Or.inl rfl) dX10_score_61
        · refine re_aload_n X dX10_score_40 rfl rfl ?_
          refine re_getR X cl_10 (by decide) fl_RX10_128 ho rfl (zR_10_57 ho) dX10_score_41 ?_
          refine re_iload_n X dX10_score_44 rfl rfl ?_
          refine re_ck (fun hi9 => ?_)
          refine re_iald X (zQ_10_57 X.clo ho) hi9 (j := zIx u1) rfl dX10_score_45 ?_
          refine re_iconst (v := -1) X dX10_score_46 (by decide) ?_
          refine re_icmp_eq (tgt := 62) X dX10_score_47 (by decide) (fun _ => ?_) (fun _ => ?_)
          · exact lb_X10_score_62 X ho M8
          · refine re_aload_n X dX10_score_50 rfl rfl ?_
            refine re_getR X cl_10 (by decide) fl_RX10_128 ho rfl (zR_10_57 ho) dX10_score_51 ?_
            refine re_iload_n X dX10_score_54 rfl rfl ?_
            refine re_ck (fun hi18 => ?_)
            refine re_iald X (zQ_10_57 X.clo ho) hi18 (j := zIx u1) rfl dX10_score_55 ?_
            refine re_iload_n X dX10_score_56 rfl rfl ?_
            refine re_icmp_eq (tgt := 62) X dX10_score_57 (by decide) (fun _ => ?_) (fun _ => ?_)
            · exact lb_X10_score_62 X ho M8
            · refine re_iconst (v := 0) X dX10_score_60 (by decide) ?_
              exact re_zret X (Or.inl rfl) dX10_score_61
theorem ca_X10_score {R : Room} (h1 : rm_X10_score.frames + 1 ≤ R.frames) (h2 : 8 + (5 + 11) + rm_X10_score.locals ≤ R.locals) : zCa yX10_score cX10_score 5 (some .boolean) rm_X10_score R 4 := ⟨cd_X10_score, iz_RX10, ⟨by decide, by decide, by decide⟩, rfl, rfl, h1, h2⟩
/-! DebateHouseModel.counts -/
abbrev rm_X10_counts : Room := { frames := 0, cells := 0, slots := 0, locals := 0 }
def f_X10_counts (u1 : Int32) (u2 : Int32) (M : zMem) : zTr := zCk (zIn u1 6) (zCk (zIn u2 24) (if (M (133 + zIx u1) (zIx u2)) = 0 then some (0, M) else zCk (zIn u2 24) (zCk (zIn u1 6) (if (M 93 (zIx u2)) = (M 124 (zIx u1)) then some (0, M) else some (1, M)))))
set_option maxRecDepth 100000 in
theorem lk_X10_counts (l : Launch) (w : zWD) (u1 : Int32) (u2 : Int32) (ho : zKd w 74 = (10, 61)) : zMt l w yX10_counts cX10_counts 3 (some .boolean) rm_X10_counts 2 [.ref (zA w 74), .int u1, .int u2] (fun M => f_X10_counts u1 u2 M) := by
  refine zMt.of (by decide) [some (.ref (zA w 74)), some (.int u1), some (.int u2)] rfl (zle rfl) (by intro v hv; simp only [List.mem_cons, List.not_mem_nil, or_false] at hv; rcases hv with rfl | rfl | rfl <;> rfl) ?_
  intro p e s m args below meth c X M
  unfold f_X10_counts
  refine re_aload_n X dX10_counts_0 rfl rfl ?_
  refine re_getR X cl_10 (by decide) fl_RX10_134 ho rfl (zR_10_59 ho) dX10_counts_1 ?_
  refine re_iload_n X dX10_counts_4 rfl rfl ?_
  refine re_ck (fun hi1 => ?_)
  refine re_aald X (zQ_10_59 X.clo ho) (by decide) hi1 rfl (rw_132 (zIx_lt hi1)) dX10_counts_5 ?_
  refine re_iload_n X dX10_counts_6 rfl rfl ?_
  refine re_ck (fun hi2 => ?_)
  refine re_zald X (rk_132 X.clo (zQ_10_59 X.clo ho) (zIx_lt hi1)) hi2 (j := zIx u2) rfl dX10_counts_7 ?_
  refine re_if_eq (tgt := 30) X dX10_counts_8 (by decide) (fun _ => ?_) (fun _ => ?_)
  · refine re_iconst (v := 0) X dX10_counts_30 (by decide) ?_
    exact re_zret X (Or.inl rfl) dX10_counts_31
  · refine re_aload_n X dX10_counts_11 rfl rfl ?_
    refine re_getR X cl_10 (by decide) fl_RX10_46 ho rfl (zR_10_15 ho) dX10_counts_12 ?_
    refine re_iload_n X dX10_counts_15 rfl rfl ?_
    refine re_ck (fun hi3 => ?_)
    refine re_iald X (zQ_10_15 X.clo ho) hi3 (j := zIx u2) rfl dX10_counts_16 ?_
    refine re_aload_n X dX10_counts_17 rfl rfl ?_
    refine re_getR X cl_10 (by decide) fl_RX10_128 ho rfl (zR_10_57 ho) dX10_counts_18 ?_
    refine re_iload_n X dX10_counts_21 rfl rfl ?_
    refine re_ck (fun hi4 => ?_)
    refine re_iald X (zQ_10_57 X.clo ho) hi4 (j := zIx u1) rfl dX10_counts_22 ?_
    refine re_icmp_eq (tgt := 30) X dX10_counts_23 (by decide) (fun _ => ?_) (fun _ => ?_)
    · refine re_iconst (v := 0) X dX10_counts_30 (by decide) ?_
      exact re_zret X (Or.inl rfl) dX10_counts_31
    · refine re_iconst (v := 1) X dX10_counts_26 (by decide) ?_
      refine re_goto (tgt := 31) X dX10_counts_27 (by decide) ?_
      exact re_zret X (Or.inr rfl) dX10_counts_31
theorem ca_X10_counts {R : Room} (h1 : rm_X10_counts.frames + 1 ≤ R.frames) (h2 : 8 + (3 + 11) + rm_X10_counts.locals ≤ R.locals) : zCa yX10_counts cX10_counts 3 (some .boolean) rm_X10_counts R 2 := ⟨cd_X10_counts, iz_RX10, ⟨by decide, by decide, by decide⟩, rfl, rfl, h1, h2⟩
/-! DebateHouseModel.scaled -/
abbrev rm_X10_scaled : Room := { frames := 1, cells := 0, slots := 0, locals := 22 }
def f_X10_scaled_B89 (u1 : Int32) (u2 : Int32)  (x3 : Int32) (x4 : Int32) (M : zMem) : zTr := if x3 = x4 then some (500, M) else zCk (zIn u1 6) (zCk (zIn u2 24) (zCk (¬ (x4 - x3) = 0) (some ((((M (126 + zIx u1) (zIx u2)) - x3) * 1000) / (x4 - x3), M))))
def f_X10_scaled_B52 (u1 : Int32) (u2 : Int32) (k9 : Int32 → Int32 → Int32 → zMem → zTr) (x4 : Int32) (x5 : Int32) (y0 : Int32) (M : zMem) : zTr := zCk (zIn u1 6) (zCk (zIn x5 24) (if (M (126 + zIx u1) (zIx x5)) ≤ x4 then k9 y0 x4 (x5 + 1) M else zCk (zIn u1 6) (zCk (zIn x5 24) (k9 y0 (M (126 + zIx u1) (zIx x5)) (x5 + 1) M))))
def f_X10_scaled_L9 (u1 : Int32) (u2 : Int32)  : Nat → Int32 → Int32 → Int32 → zMem → zTr
  | 0, _, _, _, _ => none
  | n + 1, x3, x4, x5, M => if 24 ≤ x5 then f_X10_scaled_B89 u1 u2 x3 x4 M else zBd (f_X10_counts u1 x5 M) (fun r3 M4 => if r3 = 0 then f_X10_scaled_L9 u1 u2 n x3 x4 (x5 + 1) M4 else zCk (zIn u1 6) (zCk (zIn x5 24) (if x3 ≤ (M4 (126 + zIx u1) (zIx x5)) then f_X10_scaled_B52 u1 u2 (fun x3 x4 x5 M => f_X10_scaled_L9 u1 u2 n x3 x4 x5 M) x4 x5 x3 M4 else zCk (zIn u1 6) (zCk (zIn x5 24) (f_X10_scaled_B52 u1 u2 (fun x3 x4 x5 M => f_X10_scaled_L9 u1 u2 n x3 x4 x5 M) x4 x5 (M4 (126 + zIx u1) (zIx x5)) M4)))))
def f_X10_scaled (u1 : Int32) (u2 : Int32) (M : zMem) : zTr := f_X10_scaled_L9 u1 u2 zFu 100 0 0 M
set_option maxRecDepth 100000 in
theorem lb_X10_scaled_89 {p : Program} {l : Launch} {e : Env} {s : State} {m : MethodId} {args : Array Value} {below : List Frame} {meth : Method} {c : Code} {w : zWD} {u1 : Int32} {u2 : Int32} (X : zCx p s m args meth c w (zFree w) RX10 cX10_scaled 6 (some .int)) (ho : zKd w 74 = (10, 61)) : ∀ (x3 : Int32) (x4 : Int32) (M : zMem), zRm p l e rm_X10_scaled s m args below meth c w 1 89 [some (.ref (zA w 74)), some (.int u1), some (.int u2), some (.int x3), some (.int x4), none] [] M (f_X10_scaled_B89 u1 u2 x3 x4 M) := by
  intro x3 x4 M
  unfold f_X10_scaled_B89
  refine re_iload_n X dX10_scaled_89 rfl rfl ?_
  refine re_iload X dX10_scaled_90 rfl ?_
  refine re_icmp_ne (tgt := 101) X dX10_scaled_92 (by decide) (fun _ => ?_) (fun _ => ?_)
  · refine re_sipush (v := 500) X dX10_scaled_95 (by decide) ?_
    refine re_goto (tgt := 120) X dX10_scaled_98 (by decide) ?_
    exact re_iret X dX10_scaled_120
  · refine re_aload_n X dX10_scaled_101 rfl rfl ?_
    refine re_getR X cl_10 (by decide) fl_RX10_131 ho rfl (zR_10_58 ho) dX10_scaled_102 ?_
    refine re_iload_n X dX10_scaled_105 rfl rfl ?_
    refine re_ck (fun hi1 => ?_)
    refine re_aald X (zQ_10_58 X.clo ho) (by decide) hi1 rfl (rw_125 (zIx_lt hi1)) dX10_scaled_106 ?_
    refine re_iload_n X dX10_scaled_107 rfl rfl ?_
    refine re_ck (fun hi2 => ?_)
    refine re_iald X (rk_125 X.clo (zQ_10_58 X.clo ho) (zIx_lt hi1)) hi2 (j := zIx u2) rfl dX10_scaled_108 ?_
    refine re_iload_n X dX10_scaled_109 rfl rfl ?_
    refine re_isub X dX10_scaled_110 ?_
    refine re_sipush (v := 1000) X dX10_scaled_111 (by decide) ?_
    refine re_imul X dX10_scaled_114 ?_
    refine re_iload X dX10_scaled_115 rfl ?_
    refine re_iload_n X dX10_scaled_117 rfl rfl ?_
    refine re_isub X dX10_scaled_118 ?_
    refine re_idiv X dX10_scaled_119 ?_
    exact re_iret X dX10_scaled_120

set_option maxRecDepth 100000 in
theorem lb_X10_scaled_52 {p : Program} {l : Launch} {e : Env} {s : State} {m : MethodId} {args : Array Value} {below : List Frame} {meth : Method} {c : Code} {w : zWD} {u1 : Int32} {u2 : Int32} (X : zCx p s m args meth c w (zFree w) RX10 cX10_scaled 6 (some .int)) (ho : zKd w 74 = (10, 61)) (k9 : Int32 → Int32 → Int32 → zMem → zTr) (hk9 : ∀ (x3 : Int32) (x4 : Int32) (x5 : Int32) (M : zMem), zRm p l e rm_X10_scaled s m args below meth c w 1 9 [some (.ref (zA w 74)), some (.int u1), some (.int u2), some (.int x3), some (.int x4), some (.int x5)] [] M (k9 x3 x4 x5 M)) : ∀ (x4 : Int32) (x5 : Int32) (y0 : Int32) (M : zMem), zRm p l e rm_X10_scaled s m args below meth c w 1 52 [some (.ref (zA w 74)), some (.int u1), some (.int u2), none, some (.int x4), some (.int x5)] [.int y0] M (f_X10_scaled_B52 u1 u2 k9 x4 x5 y0 M) := by
  intro x4 x5 y0 M
  unfold f_X10_scaled_B52
  refine re_istore_n (lv' := [some (.ref (zA w 74)), some (.int u1), some (.int u2), some (.int y0), some (.int x4), some (.int x5)]) X dX10_scaled_52 rfl (zlt rfl) rfl ?_
  refine re_aload_n X dX10_scaled_53 rfl rfl ?_
  refine re_getR X cl_10 (by decide) fl_RX10_131 ho rfl (zR_10_58 ho) dX10_scaled_54 ?_
  refine re_iload_n X dX10_scaled_57 rfl rfl ?_
  refine re_ck (fun hi7 => ?_)
  refine re_aald X (zQ_10_58 X.clo ho) (by decide) hi7 rfl (rw_125 (zIx_lt hi7)) dX10_scaled_58 ?_
  refine re_iload X dX10_scaled_59 rfl ?_
  refine re_ck (fun hi8 => ?_)
  refine re_iald X (rk_125 X.clo (zQ_10_58 X.clo ho) (zIx_lt hi7)) hi8 (j := zIx x5) rfl dX10_scaled_61 ?_
  refine re_iload X dX10_scaled_62 rfl ?_
  refine re_icmp_le (tgt := 79) X dX10_scaled_64 (by decide) (fun _ => ?_) (fun _ => ?_)
  · refine re_iload X dX10_scaled_79 rfl ?_
    refine re_istore (lv' := [some (.ref (zA w 74)), some (.int u1), some (.int u2), some (.int y0), some (.int x4), some (.int x5)]) X dX10_scaled_81 (zlt rfl) rfl ?_
    refine re_iinc (v := 1) (lv' := [some (.ref (zA w 74)), some (.int u1), some (.int u2), some (.int y0), some (.int x4), some (.int (x5 + 1))]) X dX10_scaled_83 rfl (by decide) rfl ?_
    refine re_goto (tgt := 9) X dX10_scaled_86 (by decide) ?_
    exact hk9 y0 x4 (x5 + 1) M
  · refine re_aload_n X dX10_scaled_67 rfl rfl ?_
    refine re_getR X cl_10 (by decide) fl_RX10_131 ho rfl (zR_10_58 ho) dX10_scaled_68 ?_
    refine re_iload_n X dX10_scaled_71 rfl rfl ?_
    refine re_ck (fun hi9 => ?_)
    refine re_aald X (zQ_10_58 X.clo ho) (by decide) hi9 rfl (rw_125 (zIx_lt hi9)) dX10_scaled_72 ?_
    refine re_iload X dX10_scaled_73 rfl ?_
    refine re_ck (fun hi10 => ?_)
    refine re_iald X (rk_125 X.clo (zQ_10_58 X.clo ho) (zIx_lt hi9)) hi10 (j := zIx x5) rfl dX10_scaled_75 ?_
    refine re_goto (tgt := 81) X dX10_scaled_76 (by decide) ?_
    refine re_istore (lv' := [some (.ref (zA w 74)), some (.int u1), some (.int u2), some (.int y0), some (.int (M (126 + zIx u1) (zIx x5))), some (.int x5)]) X dX10_scaled_81 (zlt rfl) rfl ?_
    refine re_iinc (v := 1) (lv' := [some (.ref (zA w 74)), some (.int u1), some (.int u2), some (.int y0), some (.int (M (126 + zIx u1) (zIx x5))), some (.int (x5 + 1))]) X dX10_scaled_83 rfl (by decide) rfl ?_
    refine re_goto (tgt := 9) X dX10_scaled_86 (by decide) ?_
    exact hk9 y0 (M (126 + zIx u1) (zIx x5)) (x5 + 1) M

set_option maxRecDepth 100000 in
theorem lb_X10_scaled_9 {p : Program} {l : Launch} {e : Env} {s : State} {m : MethodId} {args : Array Value} {below : List Frame} {meth : Method} {c : Code} {w : zWD} {u1 : Int32} {u2 : Int32} (X : zCx p s m args meth c w (zFree w) RX10 cX10_scaled 6 (some .int)) (ho : zKd w 74 = (10, 61)) : ∀ (n : Nat) (x3 : Int32) (x4 : Int32) (x5 : Int32) (M : zMem), zRm p l e rm_X10_scaled s m args below meth c w 1 9 [some (.ref (zA w 74)), some (.int u1), some (.int u2), some (.int x3), some (.int x4), some (.int x5)] [] M (f_X10_scaled_L9 u1 u2 n x3 x4 x5 M) := by
  intro n
  induction n with
  | zero => intro x3 x4 x5 M; exact re_none
  | succ n ih =>
    intro x3 x4 x5 M
    rw [f_X10_scaled_L9]
    refine re_iload X dX10_scaled_9 rfl ?_
    refine re_bipush (v := 24) X dX10_scaled_11 (by decide) ?_
    refine re_icmp_ge (tgt := 89) X dX10_scaled_13 (by decide) (fun _ => ?_) (fun _ => ?_)
    · exact re_sub (lb_X10_scaled_89 X ho x3 x4 M) ⟨rfl, ⟨rfl, ⟨rfl, ⟨rfl, ⟨rfl, trivial⟩⟩⟩⟩⟩
    · refine re_aload_n X dX10_scaled_16 rfl rfl ?_
      refine re_iload_n X dX10_scaled_17 rfl rfl ?_
      refine re_iload X dX10_scaled_18 rfl ?_
      refine re_callVz X (lk_X10_counts l w u1 x5 ho) (ca_X10_counts (by decide) (by decide)) ml_RX10_392 im_X10_counts se_X10_counts cl_10 ho rfl rfl rfl (zle rfl) zRo dX10_scaled_20 (fun r3 M4 hr3 => ?_)
      refine re_if_eq (tgt := 83) X dX10_scaled_23 (by decide) (fun _ => ?_) (fun _ => ?_)
      · refine re_iinc (v := 1) (lv' := [some (.ref (zA w 74)), some (.int u1), some (.int u2), some (.int x3), some (.int x4), some (.int (x5 + 1))]) X dX10_scaled_83 rfl (by decide) rfl ?_
        refine re_goto (tgt := 9) X dX10_scaled_86 (by decide) ?_
        exact ih x3 x4 (x5 + 1) M4
      · refine re_aload_n X dX10_scaled_26 rfl rfl ?_
        refine re_getR X cl_10 (by decide) fl_RX10_131 ho rfl (zR_10_58 ho) dX10_scaled_27 ?_
        refine re_iload_n X dX10_scaled_30 rfl rfl ?_
        refine re_ck (fun hi5 => ?_)
        refine re_aald X (zQ_10_58 X.clo ho) (by decide) hi5 rfl (rw_125 (zIx_lt hi5)) dX10_scaled_31 ?_
        refine re_iload X dX10_scaled_32 rfl ?_
        refine re_ck (fun hi6 => ?_)
        refine re_iald X (rk_125 X.clo (zQ_10_58 X.clo ho) (zIx_lt hi5)) hi6 (j := zIx x5) rfl dX10_scaled_34 ?_
        refine re_iload_n X dX10_scaled_35 rfl rfl ?_
        refine re_icmp_ge (tgt := 51) X dX10_scaled_36 (by decide) (fun _ => ?_) (fun _ => ?_)
        · refine re_iload_n X dX10_scaled_51 rfl rfl ?_
          exact re_sub (lb_X10_scaled_52 X ho _ ih x4 x5 x3 M4) ⟨rfl, ⟨rfl, ⟨rfl, ⟨rfl, ⟨rfl, trivial⟩⟩⟩⟩⟩
        · refine re_aload_n X dX10_scaled_39 rfl rfl ?_
          refine re_getR X cl_10 (by decide) fl_RX10_131 ho rfl (zR_10_58 ho) dX10_scaled_40 ?_
          refine re_iload_n X dX10_scaled_43 rfl rfl ?_
          refine re_ck (fun hi11 => ?_)
          refine re_aald X (zQ_10_58 X.clo ho) (by decide) hi11 rfl (rw_125 (zIx_lt hi11)) dX10_scaled_44 ?_
          refine re_iload X dX10_scaled_45 rfl ?_
          refine re_ck (fun hi12 => ?_)
          refine re_iald X (rk_125 X.clo (zQ_10_58 X.clo ho) (zIx_lt hi11)) hi12 (j := zIx x5) rfl dX10_scaled_47 ?_
          refine re_goto (tgt := 52) X dX10_scaled_48 (by decide) ?_
          exact re_sub (lb_X10_scaled_52 X ho _ ih x4 x5 (M4 (126 + zIx u1) (zIx x5)) M4) ⟨rfl, ⟨rfl, ⟨rfl, ⟨rfl, ⟨rfl, trivial⟩⟩⟩⟩⟩

set_option maxRecDepth 100000 in
theorem lk_X10_scaled (l : Launch) (w : zWD) (u1 : Int32) (u2 : Int32) (ho : zKd w 74 = (10, 61)) : zMt l w yX10_scaled cX10_scaled 6 (some .int) rm_X10_scaled 1 [.ref (zA w 74), .int u1, .int u2] (fun M => f_X10_scaled u1 u2 M) := by
  refine zMt.of (by decide) [some (.ref (zA w 74)), some (.int u1), some (.int u2), none, none, none] rfl (zle rfl) (by intro v hv; simp only [List.mem_cons, List.not_mem_nil, or_false] at hv; rcases hv with rfl | rfl | rfl <;> rfl) ?_
  intro p e s m args below meth c X M
  unfold f_X10_scaled
  refine re_bipush (v := 100) X dX10_scaled_0 (by decide) ?_
  refine re_istore_n (lv' := [some (.ref (zA w 74)), some (.int u1), some (.int u2), some (.int 100), none, none]) X dX10_scaled_2 rfl (zlt rfl) rfl ?_
  refine re_iconst (v := 0) X dX10_scaled_3 (by decide) ?_
  refine re_istore (lv' := [some (.ref (zA w 74)), some (.int u1), some (.int u2), some (.int 100), some (.int 0), none]) X dX10_scaled_4 (zlt rfl) rfl ?_
  refine re_iconst (v := 0) X dX10_scaled_6 (by decide) ?_
  refine re_istore (lv' := [some (.ref (zA w 74)), some (.int u1), some (.int u2), some (.int 100), some (.int 0), some (.int 0)]) X dX10_scaled_7 (zlt rfl) rfl ?_
  exact lb_X10_scaled_9 X ho zFu 100 0 0 M
theorem ca_X10_scaled {R : Room} (h1 : rm_X10_scaled.frames + 1 ≤ R.frames) (h2 : 8 + (6 + 11) + rm_X10_scaled.locals ≤ R.locals) : zCa yX10_scaled cX10_scaled 6 (some .int) rm_X10_scaled R 2 := ⟨cd_X10_scaled, iz_RX10, ⟨by decide, by decide, by decide⟩, rfl, rfl, h1, h2⟩
/-! DebateHouseModel.mean -/
abbrev rm_X10_mean : Room := { frames := 2, cells := 0, slots := 0, locals := 47 }
def f_X10_mean_B53 (u1 : Int32)  (x2 : Int32) (x3 : Int32) (M : zMem) : zTr := if x3 = 0 then some (-1, M) else zCk (¬ x3 = 0) (some (x2 / x3, M))
def f_X10_mean_L7 (u1 : Int32)  : Nat → Int32 → Int32 → Int32 → zMem → zTr
  | 0, _, _, _, _ => none
  | n + 1, x2, x3, x4, M => zBd (f_X10_in u1 0 23 M) (fun r1 M2 => if r1 = 0 then f_X10_mean_B53 u1 x2 x3 M2 else if 6 ≤ x4 then f_X10_mean_B53 u1 x2 x3 M2 else zBd (f_X10_counts x4 u1 M2) (fun r3 M4 => if r3 = 0 then f_X10_mean_L7 u1 n x2 x3 (x4 + 1) M4 else zBd (f_X10_scaled x4 u1 M4) (fun r5 M6 => f_X10_mean_L7 u1 n (x2 + r5) (x3 + 1) (x4 + 1) M6)))
def f_X10_mean (u1 : Int32) (M : zMem) : zTr := f_X10_mean_L7 u1 zFu 0 0 0 M
set_option maxRecDepth 100000 in
theorem lb_X10_mean_53 {p : Program} {l : Launch} {e : Env} {s : State} {m : MethodId} {args : Array Value} {below : List Frame} {meth : Method} {c : Code} {w : zWD} {u1 : Int32} (X : zCx p s m args meth c w (zFree w) RX10 cX10_mean 5 (some .int)) (ho : zKd w 74 = (10, 61)) : ∀ (x2 : Int32) (x3 : Int32) (M : zMem), zRm p l e rm_X10_mean s m args below meth c w 1 53 [none, none, some (.int x2), some (.int x3), none] [] M (f_X10_mean_B53 u1 x2 x3 M) := by
  intro x2 x3 M
  unfold f_X10_mean_B53
  refine re_iload_n X dX10_mean_53 rfl rfl ?_
  refine re_if_ne (tgt := 61) X dX10_mean_54 (by decide) (fun _ => ?_) (fun _ => ?_)
  · refine re_iconst (v := -1) X dX10_mean_57 (by decide) ?_
    refine re_goto (tgt := 64) X dX10_mean_58 (by decide) ?_
    exact re_iret X dX10_mean_64
  · refine re_iload_n X dX10_mean_61 rfl rfl ?_
    refine re_iload_n X dX10_mean_62 rfl rfl ?_
    refine re_idiv X dX10_mean_63 ?_
    exact re_iret X dX10_mean_64

set_option maxRecDepth 100000 in
theorem lb_X10_mean_7 {p : Program} {l : Launch} {e : Env} {s : State} {m : MethodId} {args : Array Value} {below : List Frame} {meth : Method} {c : Code} {w : zWD} {u1 : Int32} (X : zCx p s m args meth c w (zFree w) RX10 cX10_mean 5 (some .int)) (ho : zKd w 74 = (10, 61)) : ∀ (n : Nat) (x2 : Int32) (x3 : Int32) (x4 : Int32) (M : zMem), zRm p l e rm_X10_mean s m args below meth c w 1 7 [some (.ref (zA w 74)), some (.int u1), some (.int x2), some (.int x3), some (.int x4)] [] M (f_X10_mean_L7 u1 n x2 x3 x4 M) := by
  intro n
  induction n with
  | zero => intro x2 x3 x4 M; exact re_none
  | succ n ih =>
    intro x2 x3 x4 M
    rw [f_X10_mean_L7]
    refine re_iload_n X dX10_mean_7 rfl rfl ?_
    refine re_iconst (v := 0) X dX10_mean_8 (by decide) ?_
    refine re_bipush (v := 23) X dX10_mean_9 (by decide) ?_
    refine re_callSz X (lk_X10_in l w u1 0 23) (ca_X10_in (by decide) (by decide)) ml_RX10_184 sm_X10_in rfl rfl rfl (zle rfl) zRo dX10_mean_11 (fun r1 M2 hr1 => ?_)
    refine re_if_eq (tgt := 53) X dX10_mean_14 (by decide) (fun _ => ?_) (fun _ => ?_)
    · exact re_sub (lb_X10_mean_53 X ho x2 x3 M2) ⟨rfl, ⟨rfl, trivial⟩⟩
    · refine re_iload X dX10_mean_17 rfl ?_
      refine re_bipush (v := 6) X dX10_mean_19 (by decide) ?_
      refine re_icmp_ge (tgt := 53) X dX10_mean_21 (by decide) (fun _ => ?_) (fun _ => ?_)
      · exact re_sub (lb_X10_mean_53 X ho x2 x3 M2) ⟨rfl, ⟨rfl, trivial⟩⟩
      · refine re_aload_n X dX10_mean_24 rfl rfl ?_
        refine re_iload X dX10_mean_25 rfl ?_
        refine re_iload_n X dX10_mean_27 rfl rfl ?_
        refine re_callVz X (lk_X10_counts l w x4 u1 ho) (ca_X10_counts (by decide) (by decide)) ml_RX10_392 im_X10_counts se_X10_counts cl_10 ho rfl rfl rfl (zle rfl) zRo dX10_mean_28 (fun r3 M4 hr3 => ?_)
        refine re_if_eq (tgt := 47) X dX10_mean_31 (by decide) (fun _ => ?_) (fun _ => ?_)
        · refine re_iinc (v := 1) (lv' := [some (.ref (zA w 74)), some (.int u1), some (.int x2), some (.int x3), some (.int (x4 + 1))]) X dX10_mean_47 rfl (by decide) rfl ?_
          refine re_goto (tgt := 7) X dX10_mean_50 (by decide) ?_
          exact ih x2 x3 (x4 + 1) M4
        · refine re_iload_n X dX10_mean_34 rfl rfl ?_
          refine re_aload_n X dX10_mean_35 rfl rfl ?_
          refine re_iload X dX10_mean_36 rfl ?_
          refine re_iload_n X dX10_mean_38 rfl rfl ?_
          refine re_callVi X (lk_X10_scaled l w x4 u1 ho) (ca_X10_scaled (by decide) (by decide)) ml_RX10_395 im_X10_scaled se_X10_scaled cl_10 ho rfl rfl rfl (zle rfl) zRo dX10_mean_39 (fun r5 M6 hr5 => ?_)
          refine re_iadd X dX10_mean_42 ?_
          refine re_istore_n (lv' := [some (.ref (zA w 74)), some (.int u1), some (.int (x2 + r5)), some (.int x3), some (.int x4)]) X dX10_mean_43 rfl (zlt rfl) rfl ?_
          refine re_iinc (v := 1) (lv' := [some (.ref (zA w 74)), some (.int u1), some (.int (x2 + r5)), some (.int (x3 + 1)), some (.int x4)]) X dX10_mean_44 rfl (by decide) rfl ?_
          refine re_iinc (v := 1) (lv' := [some (.ref (zA w 74)), some (.int u1), some (.int (x2 + r5)), some (.int (x3 + 1)), some (.int (x4 + 1))]) X dX10_mean_47 rfl (by decide) rfl ?_
          refine re_goto (tgt := 7) X dX10_mean_50 (by decide) ?_
          exact ih (x2 + r5) (x3 + 1) (x4 + 1) M6

set_option maxRecDepth 100000 in
theorem lk_X10_mean (l : Launch) (w : zWD) (u1 : Int32) (ho : zKd w 74 = (10, 61)) : zMt l w yX10_mean cX10_mean 5 (some .int) rm_X10_mean 1 [.ref (zA w 74), .int u1] (fun M => f_X10_mean u1 M) := by
  refine zMt.of (by decide) [some (.ref (zA w 74)), some (.int u1), none, none, none] rfl (zle rfl) (by intro v hv; simp only [List.mem_cons, List.not_mem_nil, or_false] at hv; rcases hv with rfl | rfl <;> rfl) ?_
  intro p e s m args below meth c X M
  unfold f_X10_mean
  refine re_iconst (v := 0) X dX10_mean_0 (by decide) ?_
  refine re_istore_n (lv' := [some (.ref (zA w 74)), some (.int u1), some (.int 0), none, none]) X dX10_mean_1 rfl (zlt rfl) rfl ?_
  refine re_iconst (v := 0) X dX10_mean_2 (by decide) ?_
  refine re_istore_n (lv' := [some (.ref (zA w 74)), some (.int u1), some (.int 0), some (.int 0), none]) X dX10_mean_3 rfl (zlt rfl) rfl ?_
  refine re_iconst (v := 0) X dX10_mean_4 (by decide) ?_
  refine re_istore (lv' := [some (.ref (zA w 74)), some (.int u1), some (.int 0), some (.int 0), some (.int 0)]) X dX10_mean_5 (zlt rfl) rfl ?_
  exact lb_X10_mean_7 X ho zFu 0 0 0 M
theorem ca_X10_mean {R : Room} (h1 : rm_X10_mean.frames + 1 ≤ R.frames) (h2 : 8 + (5 + 11) + rm_X10_mean.locals ≤ R.locals) : zCa yX10_mean cX10_mean 5 (some .int) rm_X10_mean R 1 := ⟨cd_X10_mean, iz_RX10, ⟨by decide, by decide, by decide⟩, rfl, rfl, h1, h2⟩
/-! DebateHouseModel.award -/
abbrev rm_X10_award : Room := { frames := 3, cells := 0, slots := 0, locals := 71 }
def f_X10_award_B90 (u1 : Int32) (k25 : Int32 → Int32 → zMem → zTr) (x2 : Int32) (x3 : Int32) (M : zMem) : zTr := if x2 = (-1) then some (-1, M) else zCk (zIn x2 24) (zLt (zUp M 139 (zIx x2) 1) (fun M1 => k25 x2 (x3 + 1) M1))
def f_X10_award_L35 (u1 : Int32) (k25 : Int32 → Int32 → zMem → zTr) : Nat → Int32 → Int32 → Int32 → zMem → zTr
  | 0, _, _, _, _ => none
  | n + 1, x2, x3, x4, M => if 24 ≤ x4 then f_X10_award_B90 u1 k25 x2 x3 M else zCk (zIn x4 24) (if (M 139 (zIx x4)) = 0 then zBd (f_X10_mean x4 M) (fun r4 M5 => if r4 = (-1) then f_X10_award_L35 u1 k25 n x2 x3 (x4 + 1) M5 else if x2 = (-1) then f_X10_award_L35 u1 k25 n x4 x3 (x4 + 1) M5 else zBd (f_X10_mean x4 M5) (fun r6 M7 => zBd (f_X10_mean x2 M7) (fun r8 M9 => if r6 ≤ r8 then f_X10_award_L35 u1 k25 n x2 x3 (x4 + 1) M9 else f_X10_award_L35 u1 k25 n x4 x3 (x4 + 1) M9))) else f_X10_award_L35 u1 k25 n x2 x3 (x4 + 1) M)
def f_X10_award_L25 (u1 : Int32)  : Nat → Int32 → Int32 → zMem → zTr
  | 0, _, _, _ => none
  | n + 1, x2, x3, M => if u1 < x3 then some (x2, M) else f_X10_award_L35 u1 (fun x2 x3 M => f_X10_award_L25 u1 n x2 x3 M) zFu (-1) x3 0 M
def f_X10_award_L4 (u1 : Int32)  : Nat → Int32 → Int32 → zMem → zTr
  | 0, _, _, _ => none
  | n + 1, x2, x3, M => if 24 ≤ x3 then f_X10_award_L25 u1 zFu x2 0 M else zCk (zIn x3 24) (zLt (zUp M 139 (zIx x3) 0) (fun M10 => f_X10_award_L4 u1 n x2 (x3 + 1) M10))
def f_X10_award (u1 : Int32) (M : zMem) : zTr := f_X10_award_L4 u1 zFu (-1) 0 M
set_option maxRecDepth 100000 in
theorem lb_X10_award_90 {p : Program} {l : Launch} {e : Env} {s : State} {m : MethodId} {args : Array Value} {below : List Frame} {meth : Method} {c : Code} {w : zWD} {u1 : Int32} (X : zCx p s m args meth c w (zFree w) RX10 cX10_award 5 (some .int)) (ho : zKd w 74 = (10, 61)) (k25 : Int32 → Int32 → zMem → zTr) (hk25 : ∀ (x2 : Int32) (x3 : Int32) (M : zMem), zRm p l e rm_X10_award s m args below meth c w 1 25 [some (.ref (zA w 74)), some (.int u1), some (.int x2), some (.int x3), none] [] M (k25 x2 x3 M)) : ∀ (x2 : Int32) (x3 : Int32) (M : zMem), zRm p l e rm_X10_award s m args below meth c w 1 90 [some (.ref (zA w 74)), some (.int u1), some (.int x2), some (.int x3), none] [] M (f_X10_award_B90 u1 k25 x2 x3 M) := by
  intro x2 x3 M
  unfold f_X10_award_B90
  refine re_iload_n X dX10_award_90 rfl rfl ?_
  refine re_iconst (v := -1) X dX10_award_91 (by decide) ?_
  refine re_icmp_ne (tgt := 97) X dX10_award_92 (by decide) (fun _ => ?_) (fun _ => ?_)
  · refine re_iconst (v := -1) X dX10_award_95 (by decide) ?_
    exact re_iret X dX10_award_96
  · refine re_aload_n X dX10_award_97 rfl rfl ?_
    refine re_getR X cl_10 (by decide) fl_RX10_137 ho rfl (zR_10_60 ho) dX10_award_98 ?_
    refine re_iload_n X dX10_award_101 rfl rfl ?_
    refine re_iconst (v := 1) X dX10_award_102 (by decide) ?_
    refine re_ck (fun hi2 => ?_)
    refine re_zast X (zQ_10_60 X.clo ho) hi2 (j := zIx x2) rfl (zNar_b (Or.inr rfl)) dX10_award_103 (fun M1 => ?_)
    refine re_iinc (v := 1) (lv' := [some (.ref (zA w 74)), some (.int u1), some (.int x2), some (.int (x3 + 1)), none]) X dX10_award_104 rfl (by decide) rfl ?_
    refine re_goto (tgt := 25) X dX10_award_107 (by decide) ?_
    exact hk25 x2 (x3 + 1) M1

set_option maxRecDepth 100000 in
theorem lb_X10_award_35 {p : Program} {l : Launch} {e : Env} {s : State} {m : MethodId} {args : Array Value} {below : List Frame} {meth : Method} {c : Code} {w : zWD} {u1 : Int32} (X : zCx p s m args meth c w (zFree w) RX10 cX10_award 5 (some .int)) (ho : zKd w 74 = (10, 61)) (k25 : Int32 → Int32 → zMem → zTr) (hk25 : ∀ (x2 : Int32) (x3 : Int32) (M : zMem), zRm p l e rm_X10_award s m args below meth c w 1 25 [some (.ref (zA w 74)), some (.int u1), some (.int x2), some (.int x3), none] [] M (k25 x2 x3 M)) : ∀ (n : Nat) (x2 : Int32) (x3 : Int32) (x4 : Int32) (M : zMem), zRm p l e rm_X10_award s m args below meth c w 1 35 [some (.ref (zA w 74)), some (.int u1), some (.int x2), some (.int x3), some (.int x4)] [] M (f_X10_award_L35 u1 k25 n x2 x3 x4 M) := by
  intro n
  induction n with
  | zero => intro x2 x3 x4 M; exact re_none
  | succ n ih =>
    intro x2 x3 x4 M
    rw [f_X10_award_L35]
    refine re_iload X dX10_award_35 rfl ?_
    refine re_bipush (v := 24) X dX10_award_37 (by decide) ?_
    refine re_icmp_ge (tgt := 90) X dX10_award_39 (by decide) (fun _ => ?_) (fun _ => ?_)
    · exact re_sub (lb_X10_award_90 X ho _ hk25 x2 x3 M) ⟨rfl, ⟨rfl, ⟨rfl, ⟨rfl, trivial⟩⟩⟩⟩
    · refine re_aload_n X dX10_award_42 rfl rfl ?_
      refine re_getR X cl_10 (by decide) fl_RX10_137 ho rfl (zR_10_60 ho) dX10_award_43 ?_
      refine re_iload X dX10_award_46 rfl ?_
      refine re_ck (fun hi3 => ?_)
      refine re_zald X (zQ_10_60 X.clo ho) hi3 (j := zIx x4) rfl dX10_award_48 ?_
      refine re_if_ne (tgt := 84) X dX10_award_49 (by decide) (fun _ => ?_) (fun _ => ?_)
      · refine re_aload_n X dX10_award_52 rfl rfl ?_
        refine re_iload X dX10_award_53 rfl ?_
        refine re_callVi X (lk_X10_mean l w x4 ho) (ca_X10_mean (by decide) (by decide)) ml_RX10_398 im_X10_mean se_X10_mean cl_10 ho rfl rfl rfl (zle rfl) zRo dX10_award_55 (fun r4 M5 hr4 => ?_)
        refine re_iconst (v := -1) X dX10_award_58 (by decide) ?_
        refine re_icmp_eq (tgt := 84) X dX10_award_59 (by decide) (fun _ => ?_) (fun _ => ?_)
        · refine re_iinc (v := 1) (lv' := [some (.ref (zA w 74)), some (.int u1), some (.int x2), some (.int x3), some (.int (x4 + 1))]) X dX10_award_84 rfl (by decide) rfl ?_
          refine re_goto (tgt := 35) X dX10_award_87 (by decide) ?_
          exact ih x2 x3 (x4 + 1) M5
        · refine re_iload_n X dX10_award_62 rfl rfl ?_
          refine re_iconst (v := -1) X dX10_award_63 (by decide) ?_
          refine re_icmp_eq (tgt := 81) X dX10_award_64 (by decide) (fun _ => ?_) (fun _ => ?_)
          · refine re_iload X dX10_award_81 rfl ?_
            refine re_istore_n (lv' := [some (.ref (zA w 74)), some (.int u1), some (.int x4), some (.int x3), some (.int x4)]) X dX10_award_83 rfl (zlt rfl) rfl ?_
            refine re_iinc (v := 1) (lv' := [some (.ref (zA w 74)), some (.int u1), some (.int x4), some (.int x3), some (.int (x4 + 1))]) X dX10_award_84 rfl (by decide) rfl ?_
            refine re_goto (tgt := 35) X dX10_award_87 (by decide) ?_
            exact ih x4 x3 (x4 + 1) M5
          · refine re_aload_n X dX10_award_67 rfl rfl ?_
            refine re_iload X dX10_award_68 rfl ?_
            refine re_callVi X (lk_X10_mean l w x4 ho) (ca_X10_mean (by decide) (by decide)) ml_RX10_398 im_X10_mean se_X10_mean cl_10 ho rfl rfl rfl (zle rfl) zRo dX10_award_70 (fun r6 M7 hr6 => ?_)
            refine re_aload_n X dX10_award_73 rfl rfl ?_
            refine re_iload_n X dX10_award_74 rfl rfl ?_
            refine re_callVi X (lk_X10_mean l w x2 ho) (ca_X10_mean (by decide) (by decide)) ml_RX10_398 im_X10_mean se_X10_mean cl_10 ho rfl rfl rfl (zle rfl) zRo dX10_award_75 (fun r8 M9 hr8 => ?_)
            refine re_icmp_le (tgt := 84) X dX10_award_78 (by decide) (fun _ => ?_) (fun _ => ?_)
            · refine re_iinc (v := 1) (lv' := [some (.ref (zA w 74)), some (.int u1), some (.int x2), some (.int x3), some (.int (x4 + 1))]) X dX10_award_84 rfl (by decide) rfl ?_
              refine re_goto (tgt := 35) X dX10_award_87 (by decide) ?_
              exact ih x2 x3 (x4 + 1) M9
            · refine re_iload X dX10_award_81 rfl ?_
              refine re_istore_n (lv' := [some (.ref (zA w 74)), some (.int u1), some (.int x4), some (.int x3), some (.int x4)]) X dX10_award_83 rfl (zlt rfl) rfl ?_
              refine re_iinc (v := 1) (lv' := [some (.ref (zA w 74)), some (.int u1), some (.int x4), some (.int x3), some (.int (x4 + 1))]) X dX10_award_84 rfl (by decide) rfl ?_
              refine re_goto (tgt := 35) X dX10_award_87 (by decide) ?_
              exact ih x4 x3 (x4 + 1) M9
      · refine re_iinc (v := 1) (lv' := [some (.ref (zA w 74)), some (.int u1), some (.int x2), some (.int x3), some (.int (x4 + 1))]) X dX10_award_84 rfl (by decide) rfl ?_
        refine re_goto (tgt := 35) X dX10_award_87 (by decide) ?_
        exact ih x2 x3 (x4 + 1) M

set_option maxRecDepth 100000 in
theorem lb_X10_award_25 {p : Program} {l : Launch} {e : Env} {s : State} {m : MethodId} {args : Array Value} {below : List Frame} {meth : Method} {c : Code} {w : zWD} {u1 : Int32} (X : zCx p s m args meth c w (zFree w) RX10 cX10_award 5 (some .int)) (ho : zKd w 74 = (10, 61)) : ∀ (n : Nat) (x2 : Int32) (x3 : Int32) (M : zMem), zRm p l e rm_X10_award s m args below meth c w 1 25 [some (.ref (zA w 74)), some (.int u1), some (.int x2), some (.int x3), none] [] M (f_X10_award_L25 u1 n x2 x3 M) := by
  intro n
  induction n with
  | zero => intro x2 x3 M; exact re_none
  | succ n ih =>
    intro x2 x3 M
    rw [f_X10_award_L25]
    refine re_iload_n X dX10_award_25 rfl rfl ?_
    refine re_iload_n X dX10_award_26 rfl rfl ?_
    refine re_icmp_gt (tgt := 110) X dX10_award_27 (by decide) (fun _ => ?_) (fun _ => ?_)
    · refine re_iload_n X dX10_award_110 rfl rfl ?_
      exact re_iret X dX10_award_111
    · refine re_iconst (v := -1) X dX10_award_30 (by decide) ?_
      refine re_istore_n (lv' := [some (.ref (zA w 74)), some (.int u1), some (.int (-1)), some (.int x3), none]) X dX10_award_31 rfl (zlt rfl) rfl ?_
      refine re_iconst (v := 0) X dX10_award_32 (by decide) ?_
      refine re_istore (lv' := [some (.ref (zA w 74)), some (.int u1), some (.int (-1)), some (.int x3), some (.int 0)]) X dX10_award_33 (zlt rfl) rfl ?_
      exact lb_X10_award_35 X ho _ ih zFu (-1) x3 0 M

set_option maxRecDepth 100000 in
theorem lb_X10_award_4 {p : Program} {l : Launch} {e : Env} {s : State} {m : MethodId} {args : Array Value} {below : List Frame} {meth : Method} {c : Code} {w : zWD} {u1 : Int32} (X : zCx p s m args meth c w (zFree w) RX10 cX10_award 5 (some .int)) (ho : zKd w 74 = (10, 61)) : ∀ (n : Nat) (x2 : Int32) (x3 : Int32) (M : zMem), zRm p l e rm_X10_award s m args below meth c w 1 4 [some (.ref (zA w 74)), some (.int u1), some (.int x2), some (.int x3), none] [] M (f_X10_award_L4 u1 n x2 x3 M) := by
  intro n
  induction n with
  | zero => intro x2 x3 M; exact re_none
  | succ n ih =>
    intro x2 x3 M
    rw [f_X10_award_L4]
    refine re_iload_n X dX10_award_4 rfl rfl ?_
    refine re_bipush (v := 24) X dX10_award_5 (by decide) ?_
    refine re_icmp_ge (tgt := 23) X dX10_award_7 (by decide) (fun _ => ?_) (fun _ => ?_)
    · refine re_iconst (v := 0) X dX10_award_23 (by decide) ?_
      refine re_istore_n (lv' := [some (.ref (zA w 74)), some (.int u1), some (.int x2), some (.int 0), none]) X dX10_award_24 rfl (zlt rfl) rfl ?_
      exact lb_X10_award_25 X ho zFu x2 0 M
    · refine re_aload_n X dX10_award_10 rfl rfl ?_
      refine re_getR X cl_10 (by decide) fl_RX10_137 ho rfl (zR_10_60 ho) dX10_award_11 ?_
      refine re_iload_n X dX10_award_14 rfl rfl ?_
      refine re_iconst (v := 0) X dX10_award_15 (by decide) ?_
      refine re_ck (fun hi11 => ?_)
      refine re_zast X (zQ_10_60 X.clo ho) hi11 (j := zIx x3) rfl (zNar_b (Or.inl rfl)) dX10_award_16 (fun M10 => ?_)
      refine re_iinc (v := 1) (lv' := [some (.ref (zA w 74)), some (.int u1), some (.int x2), some (.int (x3 + 1)), none]) X dX10_award_17 rfl (by decide) rfl ?_
      refine re_goto (tgt := 4) X dX10_award_20 (by decide) ?_
      exact ih x2 (x3 + 1) M10

set_option maxRecDepth 100000 in
theorem lk_X10_award (l : Launch) (w : zWD) (u1 : Int32) (ho : zKd w 74 = (10, 61)) : zMt l w yX10_award cX10_award 5 (some .int) rm_X10_award 1 [.ref (zA w 74), .int u1] (fun M => f_X10_award u1 M) := by
  refine zMt.of (by decide) [some (.ref (zA w 74)), some (.int u1), none, none, none] rfl (zle rfl) (by intro v hv; simp only [List.mem_cons, List.not_mem_nil, or_false] at hv; rcases hv with rfl | rfl <;> rfl) ?_
  intro p e s m args below meth c X M
  unfold f_X10_award
  refine re_iconst (v := -1) X dX10_award_0 (by decide) ?_
  refine re_istore_n (lv' := [some (.ref (zA w 74)), some (.int u1), some (.int (-1)), none, none]) X dX10_award_1 rfl (zlt rfl) rfl ?_
  refine re_iconst (v := 0) X dX10_award_2 (by decide) ?_
  refine re_istore_n (lv' := [some (.ref (zA w 74)), some (.int u1), some (.int (-1)), some (.int 0), none]) X dX10_award_3 rfl (zlt rfl) rfl ?_
  exact lb_X10_award_4 X ho zFu (-1) 0 M
theorem ca_X10_award {R : Room} (h1 : rm_X10_award.frames + 1 ≤ R.frames) (h2 : 8 + (5 + 11) + rm_X10_award.locals ≤ R.locals) : zCa yX10_award cX10_award 5 (some .int) rm_X10_award R 1 := ⟨cd_X10_award, iz_RX10, ⟨by decide, by decide, by decide⟩, rfl, rfl, h1, h2⟩
/-! DebateHouseModel.told -/
abbrev rm_X10_told : Room := { frames := 1, cells := 0, slots := 0, locals := 22 }
def f_X10_told (u1 : Int32) (M : zMem) : zTr := zBd (f_X10_in u1 0 7 M) (fun r1 M2 => if r1 = 0 then zBd (f_X10_in u1 20 27 M2) (fun r3 M4 => if r3 = 0 then (if u1 = 10 then some (M4 89 0, M4) else if u1 = 11 then some (M4 90 0, M4) else if u1 = 12 then (if (M4 91 0) = 0 then some (0, M4) else some (1, M4)) else if u1 = 13 then (if (M4 92 0) = 0 then some (0, M4) else some (1, M4)) else if u1 = 30 then some (M4 74 2, M4) else some (-1, M4)) else zCk (zIn (u1 - 20) 8) (if (M4 78 (zIx (u1 - 20))) = 0 then some (-1, M4) else zCk (zIn (u1 - 20) 8) (some (M4 81 (zIx (u1 - 20)), M4)))) else zCk (zIn u1 8) (some (M2 78 (zIx u1), M2)))
set_option maxRecDepth 100000 in
theorem lk_X10_told (l : Launch) (w : zWD) (u1 : Int32) (ho : zKd w 74 = (10, 61)) : zMt l w yX10_told cX10_told 2 (some .int) rm_X10_told 1 [.ref (zA w 74), .int u1] (fun M => f_X10_told u1 M) := by
  refine zMt.of (by decide) [some (.ref (zA w 74)), some (.int u1)] rfl (zle rfl) (by intro v hv; simp only [List.mem_cons, List.not_mem_nil, or_false] at hv; rcases hv with rfl | rfl <;> rfl) ?_
  intro p e s m args below meth c X M
  unfold f_X10_told
  refine re_iload_n X dX10_told_0 rfl rfl ?_
  refine re_iconst (v := 0) X dX10_told_1 (by decide) ?_
  refine re_bipush (v := 7) X dX10_told_2 (by decide) ?_
  refine re_callSz X (lk_X10_in l w u1 0 7) (ca_X10_in (by decide) (by decide)) ml_RX10_184 sm_X10_in rfl rfl rfl (zle rfl) zRo dX10_told_4 (fun r1 M2 hr1 => ?_)
  refine re_if_eq (tgt := 19) X dX10_told_7 (by decide) (fun _ => ?_) (fun _ => ?_)
  · refine re_iload_n X dX10_told_19 rfl rfl ?_
    refine re_bipush (v := 20) X dX10_told_20 (by decide) ?_
    refine re_bipush (v := 27) X dX10_told_22 (by decide) ?_
    refine re_callSz X (lk_X10_in l w u1 20 27) (ca_X10_in (by decide) (by decide)) ml_RX10_184 sm_X10_in rfl rfl rfl (zle rfl) zRo dX10_told_24 (fun r3 M4 hr3 => ?_)
    refine re_if_eq (tgt := 60) X dX10_told_27 (by decide) (fun _ => ?_) (fun _ => ?_)
    · refine re_iload_n X dX10_told_60 rfl rfl ?_
      refine re_if (fun e5 => ?_) (fun e5 => ?_)
      · refine re_lsw (off := 51) (tgt := 112) X dX10_told_61 (by decide) (by rw [e5]; first | done | rfl | decide +kernel) (by decide) ?_
        refine re_aload_n X dX10_told_112 rfl rfl ?_
        refine re_getR X cl_10 (by decide) fl_RX10_33 ho rfl (zR_10_11 ho) dX10_told_113 ?_
        refine re_iconst (v := 0) X dX10_told_116 (by decide) ?_
        refine re_iald X (zQ_10_11 X.clo ho) (by decide) (j := 0) rfl dX10_told_117 ?_
        exact re_iret X dX10_told_118
      refine re_if (fun e6 => ?_) (fun e6 => ?_)
      · refine re_lsw (off := 58) (tgt := 119) X dX10_told_61 (by decide) (by rw [e6]; first | done | rfl | decide +kernel) (by decide) ?_
        refine re_aload_n X dX10_told_119 rfl rfl ?_
        refine re_getR X cl_10 (by decide) fl_RX10_37 ho rfl (zR_10_12 ho) dX10_told_120 ?_
        refine re_iconst (v := 0) X dX10_told_123 (by decide) ?_
        refine re_iald X (zQ_10_12 X.clo ho) (by decide) (j := 0) rfl dX10_told_124 ?_
        exact re_iret X dX10_told_125
      refine re_if (fun e7 => ?_) (fun e7 => ?_)
      · refine re_lsw (off := 65) (tgt := 126) X dX10_told_61 (by decide) (by rw [e7]; first | done | rfl | decide +kernel) (by decide) ?_
        refine re_aload_n X dX10_told_126 rfl rfl ?_
        refine re_getR X cl_10 (by decide) fl_RX10_40 ho rfl (zR_10_13 ho) dX10_told_127 ?_
        refine re_iconst (v := 0) X dX10_told_130 (by decide) ?_
        refine re_zald X (zQ_10_13 X.clo ho) (by decide) (j := 0) rfl dX10_told_131 ?_
        refine re_if_eq (tgt := 139) X dX10_told_132 (by decide) (fun _ => ?_) (fun _ => ?_)
        · refine re_iconst (v := 0) X dX10_told_139 (by decide) ?_
          exact re_iret X dX10_told_140
        · refine re_iconst (v := 1) X dX10_told_135 (by decide) ?_
          refine re_goto (tgt := 140) X dX10_told_136 (by decide) ?_
          exact re_iret X dX10_told_140
      refine re_if (fun e8 => ?_) (fun e8 => ?_)
      · refine re_lsw (off := 80) (tgt := 141) X dX10_told_61 (by decide) (by rw [e8]; first | done | rfl | decide +kernel) (by decide) ?_
        refine re_aload_n X dX10_told_141 rfl rfl ?_
        refine re_getR X cl_10 (by decide) fl_RX10_43 ho rfl (zR_10_14 ho) dX10_told_142 ?_
        refine re_iconst (v := 0) X dX10_told_145 (by decide) ?_
        refine re_zald X (zQ_10_14 X.clo ho) (by decide) (j := 0) rfl dX10_told_146 ?_
        refine re_if_eq (tgt := 154) X dX10_told_147 (by decide) (fun _ => ?_) (fun _ => ?_)
        · refine re_iconst (v := 0) X dX10_told_154 (by decide) ?_
          exact re_iret X dX10_told_155
        · refine re_iconst (v := 1) X dX10_told_150 (by decide) ?_
          refine re_goto (tgt := 155) X dX10_told_151 (by decide) ?_
          exact re_iret X dX10_told_155
      refine re_if (fun e9 => ?_) (fun e9 => ?_)
      · refine re_lsw (off := 95) (tgt := 156) X dX10_told_61 (by decide) (by rw [e9]; first | done | rfl | decide +kernel) (by decide) ?_
        refine re_aload_n X dX10_told_156 rfl rfl ?_
        refine re_getI X cl_10 (by decide) fl_RX10_146 ho rfl dX10_told_157 ?_
        exact re_iret X dX10_told_160
      refine re_lsw (off := 100) (tgt := 161) X dX10_told_61 (by decide) (by rw [lv_osw e5 (by decide), lv_osw e6 (by decide), lv_osw e7 (by decide), lv_osw e8 (by decide), lv_osw e9 (by decide)]; first | done | rfl) (by decide) ?_
      refine re_iconst (v := -1) X dX10_told_161 (by decide) ?_
      exact re_iret X dX10_told_162
    · refine re_aload_n X dX10_told_30 rfl rfl ?_
      refine re_getR X cl_10 (by decide) fl_RX10_19 ho rfl (zR_10_7 ho) dX10_told_31 ?_
      refine re_iconst (v := 0) X dX10_told_34 (by decide) ?_
      refine re_aald X (zQ_10_7 X.clo ho) (by decide) (by decide) rfl (rw_77 (by decide)) dX10_told_35 ?_
      refine re_iload_n X dX10_told_36 rfl rfl ?_
      refine re_bipush (v := 20) X dX10_told_37 (by decide) ?_
      refine re_isub X dX10_told_39 ?_
      refine re_ck (fun hi10 => ?_)
      refine re_iald X (rk_77 X.clo (zQ_10_7 X.clo ho) (i := 0) (by decide)) hi10 (j := zIx (u1 - 20)) rfl dX10_told_40 ?_
      refine re_if_ne (tgt := 48) X dX10_told_41 (by decide) (fun _ => ?_) (fun _ => ?_)
      · refine re_iconst (v := -1) X dX10_told_44 (by decide) ?_
        refine re_goto (tgt := 59) X dX10_told_45 (by decide) ?_
        exact re_iret X dX10_told_59
      · refine re_aload_n X dX10_told_48 rfl rfl ?_
        refine re_getR X cl_10 (by decide) fl_RX10_22 ho rfl (zR_10_8 ho) dX10_told_49 ?_
        refine re_iconst (v := 0) X dX10_told_52 (by decide) ?_
        refine re_aald X (zQ_10_8 X.clo ho) (by decide) (by decide) rfl (rw_80 (by decide)) dX10_told_53 ?_
        refine re_iload_n X dX10_told_54 rfl rfl ?_
        refine re_bipush (v := 20) X dX10_told_55 (by decide) ?_
        refine re_isub X dX10_told_57 ?_
        refine re_ck (fun hi11 => ?_)
        refine re_iald X (rk_80 X.clo (zQ_10_8 X.clo ho) (i := 0) (by decide)) hi11 (j := zIx (u1 - 20)) rfl dX10_told_58 ?_
        exact re_iret X dX10_told_59
  · refine re_aload_n X dX10_told_10 rfl rfl ?_
    refine re_getR X cl_10 (by decide) fl_RX10_19 ho rfl (zR_10_7 ho) dX10_told_11 ?_
    refine re_iconst (v := 0) X dX10_told_14 (by decide) ?_
    refine re_aald X (zQ_10_7 X.clo ho) (by decide) (by decide) rfl (rw_77 (by decide)) dX10_told_15 ?_
    refine re_iload_n X dX10_told_16 rfl rfl ?_
    refine re_ck (fun hi12 => ?_)
    refine re_iald X (rk_77 X.clo (zQ_10_7 X.clo ho) (i := 0) (by decide)) hi12 (j := zIx u1) rfl dX10_told_17 ?_
    exact re_iret X dX10_told_18
theorem ca_X10_told {R : Room} (h1 : rm_X10_told.frames + 1 ≤ R.frames) (h2 : 8 + (2 + 11) + rm_X10_told.locals ≤ R.locals) : zCa yX10_told cX10_told 2 (some .int) rm_X10_told R 1 := ⟨cd_X10_told, iz_RX10, ⟨by decide, by decide, by decide⟩, rfl, rfl, h1, h2⟩
