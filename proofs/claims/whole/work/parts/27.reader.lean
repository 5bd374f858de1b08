/-! DebateHouse$Reader.skipBlanks -/
abbrev rm_X5_skipBlanks : Room := { frames := 1, cells := 0, slots := 0, locals := 21 }
def f_X5_skipBlanks_L0   : Nat → zMem → zTr
  | 0, _ => none
  | n + 1, M => if (M 1 1) ≤ (M 13 2) then some (0, M) else zBd (f_X8_byteAt (M 13 2) M) (fun r1 M2 => if r1 = 32 then zLt (zUp M2 13 2 ((M2 13 2) + 1)) (fun M3 => f_X5_skipBlanks_L0 n M3) else some (0, M2))
def f_X5_skipBlanks  (M : zMem) : zTr := f_X5_skipBlanks_L0 zFu M
set_option maxRecDepth 100000 in
theorem lb_X5_skipBlanks_0 {p : Program} {l : Launch} {e : Env} {s : State} {m : MethodId} {args : Array Value} {below : List Frame} {meth : Method} {c : Code} {w : zWD} (X : zCx p s m args meth c w (zFree w) RX5 cX5_skipBlanks 1 none) (ho : zKd w 13 = (5, 5)) : ∀ (n : Nat) (M : zMem), zRm p l e rm_X5_skipBlanks s m args below meth c w 0 0 [some (.ref (zA w 13))] [] M (f_X5_skipBlanks_L0 n M) := by
  intro n
  induction n with
  | zero => intro M; exact re_none
  | succ n ih =>
    intro M
    rw [f_X5_skipBlanks_L0]
    refine re_aload_n X dX5_skipBlanks_0 rfl rfl ?_
    refine re_getI X cl_5 (by decide) fl_RX5_19 ho rfl dX5_skipBlanks_1 ?_
    refine re_aload_n X dX5_skipBlanks_4 rfl rfl ?_
    refine re_getR X cl_5 (by decide) fl_RX5_9 ho rfl (zR_5_0 ho) dX5_skipBlanks_5 ?_
    refine re_getI X cl_8 (by decide) fl_RX5_37 (zQ_5_0 X.clo ho) rfl dX5_skipBlanks_8 ?_
    refine re_icmp_ge (tgt := 43) X dX5_skipBlanks_11 (by decide) (fun _ => ?_) (fun _ => ?_)
    · exact re_vret X dX5_skipBlanks_43
    · refine re_aload_n X dX5_skipBlanks_14 rfl rfl ?_
      refine re_getR X cl_5 (by decide) fl_RX5_9 ho rfl (zR_5_0 ho) dX5_skipBlanks_15 ?_
      refine re_aload_n X dX5_skipBlanks_18 rfl rfl ?_
      refine re_getI X cl_5 (by decide) fl_RX5_19 ho rfl dX5_skipBlanks_19 ?_
      refine re_callVi X (lk_X8_byteAt l w (M 13 2) (zQ_5_0 X.clo ho)) (ca_X8_byteAt (by decide) (by decide)) ml_RX5_145 im_X8_byteAt se_X8_byteAt cl_8 (zQ_5_0 X.clo ho) rfl rfl rfl (zle rfl) zRo dX5_skipBlanks_22 (fun r1 M2 hr1 => ?_)
      refine re_bipush (v := 32) X dX5_skipBlanks_25 (by decide) ?_
      refine re_icmp_ne (tgt := 43) X dX5_skipBlanks_27 (by decide) (fun _ => ?_) (fun _ => ?_)
      · refine re_aload_n X dX5_skipBlanks_30 rfl rfl ?_
        refine re_dup X dX5_skipBlanks_31 rfl ?_
        refine re_getI X cl_5 (by decide) fl_RX5_19 ho rfl dX5_skipBlanks_32 ?_
        refine re_iconst (v := 1) X dX5_skipBlanks_35 (by decide) ?_
        refine re_iadd X dX5_skipBlanks_36 ?_
        refine re_putI X cl_5 (by decide) fl_RX5_19 ho rfl rfl rfl dX5_skipBlanks_37 (fun M3 => ?_)
        refine re_goto (tgt := 0) X dX5_skipBlanks_40 (by decide) ?_
        exact ih M3
      · exact re_vret X dX5_skipBlanks_43

set_option maxRecDepth 100000 in
theorem lk_X5_skipBlanks (l : Launch) (w : zWD)  (ho : zKd w 13 = (5, 5)) : zMt l w yX5_skipBlanks cX5_skipBlanks 1 none rm_X5_skipBlanks 0 [.ref (zA w 13)] (fun M => f_X5_skipBlanks M) := by
  refine zMt.of (by decide) [some (.ref (zA w 13))] rfl (zle rfl) (by intro v hv; simp only [List.mem_cons, List.not_mem_nil, or_false] at hv; rcases hv with rfl <;> rfl) ?_
  intro p e s m args below meth c X M
  unfold f_X5_skipBlanks
  exact lb_X5_skipBlanks_0 X ho zFu M
theorem ca_X5_skipBlanks {R : Room} (h1 : rm_X5_skipBlanks.frames + 1 ≤ R.frames) (h2 : 8 + (1 + 11) + rm_X5_skipBlanks.locals ≤ R.locals) : zCa yX5_skipBlanks cX5_skipBlanks 1 none rm_X5_skipBlanks R 0 := ⟨cd_X5_skipBlanks, iz_RX5, ⟨by decide, by decide, by decide⟩, rfl, rfl, h1, h2⟩
/-! DebateHouse$Reader.isSmallLetter -/
abbrev rm_X5_isSmallLetter : Room := { frames := 0, cells := 0, slots := 0, locals := 0 }
def f_X5_isSmallLetter (u1 : Int32) (M : zMem) : zTr := if u1 < 97 then some (0, M) else if 122 < u1 then some (0, M) else some (1, M)
set_option maxRecDepth 100000 in
theorem lk_X5_isSmallLetter (l : Launch) (w : zWD) (u1 : Int32)  : zMt l w yX5_isSmallLetter cX5_isSmallLetter 1 (some .boolean) rm_X5_isSmallLetter 2 [.int u1] (fun M => f_X5_isSmallLetter u1 M) := by
  refine zMt.of (by decide) [some (.int u1)] rfl (zle rfl) (by intro v hv; simp only [List.mem_cons, List.not_mem_nil, or_false] at hv; rcases hv with rfl <;> rfl) ?_
  intro p e s m args below meth c X M
  unfold f_X5_isSmallLetter
  refine re_iload_n X dX5_isSmallLetter_0 rfl rfl ?_
  refine re_bipush (v := 97) X dX5_isSmallLetter_1 (by decide) ?_
  refine re_icmp_lt (tgt := 16) X dX5_isSmallLetter_3 (by decide) (fun _ => ?_) (fun _ => ?_)
  · refine re_iconst (v := 0) X dX5_isSmallLetter_16 (by decide) ?_
    exact re_zret X (Or.inl rfl) dX5_isSmallLetter_17
  · refine re_iload_n X dX5_isSmallLetter_6 rfl rfl ?_
    refine re_bipush (v := 122) X dX5_isSmallLetter_7 (by decide) ?_
    refine re_icmp_gt (tgt := 16) X dX5_isSmallLetter_9 (by decide) (fun _ => ?_) (fun _ => ?_)
    · refine re_iconst (v := 0) X dX5_isSmallLetter_16 (by decide) ?_
      exact re_zret X (Or.inl rfl) dX5_isSmallLetter_17
    · refine re_iconst (v := 1) X dX5_isSmallLetter_12 (by decide) ?_
      refine re_goto (tgt := 17) X dX5_isSmallLetter_13 (by decide) ?_
      exact re_zret X (Or.inr rfl) dX5_isSmallLetter_17
theorem ca_X5_isSmallLetter {R : Room} (h1 : rm_X5_isSmallLetter.frames + 1 ≤ R.frames) (h2 : 8 + (1 + 11) + rm_X5_isSmallLetter.locals ≤ R.locals) : zCa yX5_isSmallLetter cX5_isSmallLetter 1 (some .boolean) rm_X5_isSmallLetter R 1 := ⟨cd_X5_isSmallLetter, iz_RX5, ⟨by decide, by decide, by decide⟩, rfl, rfl, h1, h2⟩
/-! DebateHouse$Reader.tookWord -/
abbrev rm_X5_tookWord : Room := { frames := 4, cells := 0, slots := 0, locals := 85 }
def f_X5_tookWord_B45 (u1 : Int32)  (x2 : Int32) (M : zMem) : zTr := zBd (f_X8_byteAt ((M 13 2) + x2) M) (fun r3 M4 => zBd (f_X5_isSmallLetter r3 M4) (fun r5 M6 => if r5 = 0 then zLt (zUp M6 13 2 ((M6 13 2) + x2)) (fun M7 => some (1, M7)) else some (0, M6)))
def f_X5_tookWord_L11 (u1 : Int32)  : Nat → Int32 → Int32 → zMem → zTr
  | 0, _, _, _ => none
  | n + 1, x2, x3, M => if x2 ≤ x3 then f_X5_tookWord_B45 u1 x2 M else zBd (f_X8_byteAt ((M 13 2) + x3) M) (fun r8 M9 => zCk (zIn x3 (zSlenN (zIx u1))) (if r8 = (zScha (zIx u1) x3) then f_X5_tookWord_L11 u1 n x2 (x3 + 1) M9 else some (0, M9)))
def f_X5_tookWord (u1 : Int32) (M : zMem) : zTr := zBd (f_X5_skipBlanks M) (fun _ M2 => f_X5_tookWord_L11 u1 zFu (zSlen (zIx u1)) 0 M2)
set_option maxRecDepth 100000 in
theorem lb_X5_tookWord_45 {p : Program} {l : Launch} {e : Env} {s : State} {m : MethodId} {args : Array Value} {below : List Frame} {meth : Method} {c : Code} {w : zWD} {u1 : Int32} (X : zCx p s m args meth c w (zFree w) RX5 cX5_tookWord 4 (some .boolean)) (ho : zKd w 13 = (5, 5)) (hu1 : zIx u1 < zNS) : ∀ (x2 : Int32) (M : zMem), zRm p l e rm_X5_tookWord s m args below meth c w 2 45 [some (.ref (zA w 13)), none, some (.int x2), none] [] M (f_X5_tookWord_B45 u1 x2 M) := by
  intro x2 M
  unfold f_X5_tookWord_B45
  refine re_aload_n X dX5_tookWord_45 rfl rfl ?_
  refine re_getR X cl_5 (by decide) fl_RX5_9 ho rfl (zR_5_0 ho) dX5_tookWord_46 ?_
  refine re_aload_n X dX5_tookWord_49 rfl rfl ?_
  refine re_getI X cl_5 (by decide) fl_RX5_19 ho rfl dX5_tookWord_50 ?_
  refine re_iload_n X dX5_tookWord_53 rfl rfl ?_
  refine re_iadd X dX5_tookWord_54 ?_
  refine re_callVi X (lk_X8_byteAt l w ((M 13 2) + x2) (zQ_5_0 X.clo ho)) (ca_X8_byteAt (by decide) (by decide)) ml_RX5_145 im_X8_byteAt se_X8_byteAt cl_8 (zQ_5_0 X.clo ho) rfl rfl rfl (zle rfl) zRo dX5_tookWord_55 (fun r3 M4 hr3 => ?_)
  refine re_callSz X (lk_X5_isSmallLetter l w r3) (ca_X5_isSmallLetter (by decide) (by decide)) ml_RX5_160 sm_X5_isSmallLetter rfl rfl rfl (zle rfl) zRo dX5_tookWord_58 (fun r5 M6 hr5 => ?_)
  refine re_if_eq (tgt := 66) X dX5_tookWord_61 (by decide) (fun _ => ?_) (fun _ => ?_)
  · refine re_aload_n X dX5_tookWord_66 rfl rfl ?_
    refine re_dup X dX5_tookWord_67 rfl ?_
    refine re_getI X cl_5 (by decide) fl_RX5_19 ho rfl dX5_tookWord_68 ?_
    refine re_iload_n X dX5_tookWord_71 rfl rfl ?_
    refine re_iadd X dX5_tookWord_72 ?_
    refine re_putI X cl_5 (by decide) fl_RX5_19 ho rfl rfl rfl dX5_tookWord_73 (fun M7 => ?_)
    refine re_iconst (v := 1) X dX5_tookWord_76 (by decide) ?_
    exact re_zret X (Or.inr rfl) dX5_tookWord_77
  · refine re_iconst (v := 0) X dX5_tookWord_64 (by decide) ?_
    exact re_zret X (Or.inl rfl) dX5_tookWord_65

set_option maxRecDepth 100000 in
theorem lb_X5_tookWord_11 {p : Program} {l : Launch} {e : Env} {s : State} {m : MethodId} {args : Array Value} {below : List Frame} {meth : Method} {c : Code} {w : zWD} {u1 : Int32} (X : zCx p s m args meth c w (zFree w) RX5 cX5_tookWord 4 (some .boolean)) (ho : zKd w 13 = (5, 5)) (hu1 : zIx u1 < zNS) : ∀ (n : Nat) (x2 : Int32) (x3 : Int32) (M : zMem), zRm p l e rm_X5_tookWord s m args below meth c w 2 11 [some (.ref (zA w 13)), some (.ref (zK w (zIx u1))), some (.int x2), some (.int x3)] [] M (f_X5_tookWord_L11 u1 n x2 x3 M) := by
  intro n
  induction n with
  | zero => intro x2 x3 M; exact re_none
  | succ n ih =>
    intro x2 x3 M
    rw [f_X5_tookWord_L11]
    refine re_iload_n X dX5_tookWord_11 rfl rfl ?_
    refine re_iload_n X dX5_tookWord_12 rfl rfl ?_
    refine re_icmp_ge (tgt := 45) X dX5_tookWord_13 (by decide) (fun _ => ?_) (fun _ => ?_)
    · exact re_sub (lb_X5_tookWord_45 X ho hu1 x2 M) ⟨rfl, ⟨rfl, trivial⟩⟩
    · refine re_aload_n X dX5_tookWord_16 rfl rfl ?_
      refine re_getR X cl_5 (by decide) fl_RX5_9 ho rfl (zR_5_0 ho) dX5_tookWord_17 ?_
      refine re_aload_n X dX5_tookWord_20 rfl rfl ?_
      refine re_getI X cl_5 (by decide) fl_RX5_19 ho rfl dX5_tookWord_21 ?_
      refine re_iload_n X dX5_tookWord_24 rfl rfl ?_
      refine re_iadd X dX5_tookWord_25 ?_
      refine re_callVi X (lk_X8_byteAt l w ((M 13 2) + x3) (zQ_5_0 X.clo ho)) (ca_X8_byteAt (by decide) (by decide)) ml_RX5_145 im_X8_byteAt se_X8_byteAt cl_8 (zQ_5_0 X.clo ho) rfl rfl rfl (zle rfl) zRo dX5_tookWord_26 (fun r8 M9 hr8 => ?_)
      refine re_aload_n X dX5_tookWord_29 rfl rfl ?_
      refine re_iload_n X dX5_tookWord_30 rfl rfl ?_
      refine re_ck (fun hi10 => ?_)
      refine re_schr X hu1 hi10 ml_RX5_156 (by decide) (by decide) rfl (zle rfl) zRo dX5_tookWord_31 ?_
      refine re_icmp_eq (tgt := 39) X dX5_tookWord_34 (by decide) (fun _ => ?_) (fun _ => ?_)
      · refine re_iinc (v := 1) (lv' := [some (.ref (zA w 13)), some (.ref (zK w (zIx u1))), some (.int x2), some (.int (x3 + 1))]) X dX5_tookWord_39 rfl (by decide) rfl ?_
        refine re_goto (tgt := 11) X dX5_tookWord_42 (by decide) ?_
        exact ih x2 (x3 + 1) M9
      · refine re_iconst (v := 0) X dX5_tookWord_37 (by decide) ?_
        exact re_zret X (Or.inl rfl) dX5_tookWord_38

set_option maxRecDepth 100000 in
theorem lk_X5_tookWord (l : Launch) (w : zWD) (u1 : Int32) (ho : zKd w 13 = (5, 5)) (hu1 : zIx u1 < zNS) : zMt l w yX5_tookWord cX5_tookWord 4 (some .boolean) rm_X5_tookWord 2 [.ref (zA w 13), .ref (zK w (zIx u1))] (fun M => f_X5_tookWord u1 M) := by
  refine zMt.of (by decide) [some (.ref (zA w 13)), some (.ref (zK w (zIx u1))), none, none] rfl (zle rfl) (by intro v hv; simp only [List.mem_cons, List.not_mem_nil, or_false] at hv; rcases hv with rfl | rfl <;> rfl) ?_
  intro p e s m args below meth c X M
  unfold f_X5_tookWord
  refine re_aload_n X dX5_tookWord_0 rfl rfl ?_
  refine re_callVv X (lk_X5_skipBlanks l w ho) (ca_X5_skipBlanks (by decide) (by decide)) ml_RX5_34 im_X5_skipBlanks se_X5_skipBlanks cl_5 ho rfl rfl rfl (zle rfl) zRo dX5_tookWord_1 (fun r1 M2 hr1 => ?_)
  refine re_aload_n X dX5_tookWord_4 rfl rfl ?_
  refine re_slen X hu1 ml_RX5_152 (by decide) (by decide) rfl (zle rfl) zRo dX5_tookWord_5 ?_
  refine re_istore_n (lv' := [some (.ref (zA w 13)), some (.ref (zK w (zIx u1))), some (.int (zSlen (zIx u1))), none]) X dX5_tookWord_8 rfl (zlt rfl) rfl ?_
  refine re_iconst (v := 0) X dX5_tookWord_9 (by decide) ?_
  refine re_istore_n (lv' := [some (.ref (zA w 13)), some (.ref (zK w (zIx u1))), some (.int (zSlen (zIx u1))), some (.int 0)]) X dX5_tookWord_10 rfl (zlt rfl) rfl ?_
  exact lb_X5_tookWord_11 X ho hu1 zFu (zSlen (zIx u1)) 0 M2
theorem ca_X5_tookWord {R : Room} (h1 : rm_X5_tookWord.frames + 1 ≤ R.frames) (h2 : 8 + (4 + 11) + rm_X5_tookWord.locals ≤ R.locals) : zCa yX5_tookWord cX5_tookWord 4 (some .boolean) rm_X5_tookWord R 1 := ⟨cd_X5_tookWord, iz_RX5, ⟨by decide, by decide, by decide⟩, rfl, rfl, h1, h2⟩
/-! DebateHouse$Reader.kindWord -/
abbrev rm_X5_kindWord : Room := { frames := 0, cells := 0, slots := 0, locals := 0 }
def f_X5_kindWord (u1 : Int32) (M : zMem) : zTr := if u1 = 0 then some (1, M) else if u1 = 1 then some (2, M) else if u1 = 2 then some (3, M) else if u1 = 3 then some (4, M) else if u1 = 4 then some (5, M) else if u1 = 5 then some (6, M) else if u1 = 6 then some (7, M) else some (8, M)
set_option maxRecDepth 100000 in
theorem lk_X5_kindWord (l : Launch) (w : zWD) (u1 : Int32)  : zMt l w yX5_kindWord cX5_kindWord 1 (some (.object "java/lang/String")) rm_X5_kindWord 3 [.int u1] (fun M => f_X5_kindWord u1 M) := by
  refine zMt.of (by decide) [some (.int u1)] rfl (zle rfl) (by intro v hv; simp only [List.mem_cons, List.not_mem_nil, or_false] at hv; rcases hv with rfl <;> rfl) ?_
  intro p e s m args below meth c X M
  unfold f_X5_kindWord
  refine re_iload_n X dX5_kindWord_0 rfl rfl ?_
  refine re_if (fun e1 => ?_) (fun e1 => ?_)
  · refine re_sw_in (v := 0) (off := 43) (tgt := 44) X dX5_kindWord_1 e1 (by decide) (by decide) (by decide +kernel) (by decide) ?_
    refine re_ldcS (k := 1) (tx := "main") X (by decide +kernel) dX5_kindWord_44 ?_
    exact re_sret X (by decide) (by decide) dX5_kindWord_46
  refine re_if (fun e2 => ?_) (fun e2 => ?_)
  · refine re_sw_in (v := 1) (off := 46) (tgt := 47) X dX5_kindWord_1 e2 (by decide) (by decide) (by decide +kernel) (by decide) ?_
    refine re_ldcS (k := 2) (tx := "amend") X (by decide +kernel) dX5_kindWord_47 ?_
    exact re_sret X (by decide) (by decide) dX5_kindWord_49
  refine re_if (fun e3 => ?_) (fun e3 => ?_)
  · refine re_sw_in (v := 2) (off := 49) (tgt := 50) X dX5_kindWord_1 e3 (by decide) (by decide) (by decide +kernel) (by decide) ?_
    refine re_ldcS (k := 3) (tx := "close") X (by decide +kernel) dX5_kindWord_50 ?_
    exact re_sret X (by decide) (by decide) dX5_kindWord_52
  refine re_if (fun e4 => ?_) (fun e4 => ?_)
  · refine re_sw_in (v := 3) (off := 52) (tgt := 53) X dX5_kindWord_1 e4 (by decide) (by decide) (by decide +kernel) (by decide) ?_
    refine re_ldcS (k := 4) (tx := "limit") X (by decide +kernel) dX5_kindWord_53 ?_
    exact re_sret X (by decide) (by decide) dX5_kindWord_55
  refine re_if (fun e5 => ?_) (fun e5 => ?_)
  · refine re_sw_in (v := 4) (off := 55) (tgt := 56) X dX5_kindWord_1 e5 (by decide) (by decide) (by decide +kernel) (by decide) ?_
    refine re_ldcS (k := 5) (tx := "table") X (by decide +kernel) dX5_kindWord_56 ?_
    exact re_sret X (by decide) (by decide) dX5_kindWord_58
  refine re_if (fun e6 => ?_) (fun e6 => ?_)
  · refine re_sw_in (v := 5) (off := 58) (tgt := 59) X dX5_kindWord_1 e6 (by decide) (by decide) (by decide +kernel) (by decide) ?_
    refine re_ldcS (k := 6) (tx := "recess") X (by decide +kernel) dX5_kindWord_59 ?_
    exact re_sret X (by decide) (by decide) dX5_kindWord_61
  refine re_if (fun e7 => ?_) (fun e7 => ?_)
  · refine re_sw_in (v := 6) (off := 61) (tgt := 62) X dX5_kindWord_1 e7 (by decide) (by decide) (by decide +kernel) (by decide) ?_
    refine re_ldcS (k := 7) (tx := "adjourn") X (by decide +kernel) dX5_kindWord_62 ?_
    exact re_sret X (by decide) (by decide) dX5_kindWord_64
  refine re_sw_out (tgt := 65) X dX5_kindWord_1 (by
      have e1 := lv_neT (a := 0) e1 (by decide)
      have e2 := lv_neT (a := 1) e2 (by decide)
      have e3 := lv_neT (a := 2) e3 (by decide)
      have e4 := lv_neT (a := 3) e4 (by decide)
      have e5 := lv_neT (a := 4) e5 (by decide)
      have e6 := lv_neT (a := 5) e6 (by decide)
      have e7 := lv_neT (a := 6) e7 (by decide)
      omega) (by decide) ?_
  refine re_ldcS (k := 8) (tx := "appeal") X (by decide +kernel) dX5_kindWord_65 ?_
  exact re_sret X (by decide) (by decide) dX5_kindWord_67
theorem ca_X5_kindWord {R : Room} (h1 : rm_X5_kindWord.frames + 1 ≤ R.frames) (h2 : 8 + (1 + 11) + rm_X5_kindWord.locals ≤ R.locals) : zCa yX5_kindWord cX5_kindWord 1 (some (.object "java/lang/String")) rm_X5_kindWord R 1 := ⟨cd_X5_kindWord, iz_RX5, ⟨by decide, by decide, by decide⟩, rfl, rfl, h1, h2⟩
/-! DebateHouse$Reader.readKind -/
abbrev rm_X5_readKind : Room := { frames := 5, cells := 0, slots := 0, locals := 108 }
def f_X5_readKind_L2   : Nat → Int32 → zMem → zTr
  | 0, _, _ => none
  | n + 1, x1, M => if 8 ≤ x1 then some (-1, M) else zBd (f_X5_kindWord x1 M) (fun r1 M2 => zBd (f_X5_tookWord r1 M2) (fun r3 M4 => if r3 = 0 then f_X5_readKind_L2 n (x1 + 1) M4 else some (x1, M4)))
def f_X5_readKind  (M : zMem) : zTr := f_X5_readKind_L2 zFu 0 M
set_option maxRecDepth 100000 in
theorem lb_X5_readKind_2 {p : Program} {l : Launch} {e : Env} {s : State} {m : MethodId} {args : Array Value} {below : List Frame} {meth : Method} {c : Code} {w : zWD} (X : zCx p s m args meth c w (zFree w) RX5 cX5_readKind 2 (some .int)) (ho : zKd w 13 = (5, 5)) : ∀ (n : Nat) (x1 : Int32) (M : zMem), zRm p l e rm_X5_readKind s m args below meth c w 1 2 [some (.ref (zA w 13)), some (.int x1)] [] M (f_X5_readKind_L2 n x1 M) := by
  intro n
  induction n with
  | zero => intro x1 M; exact re_none
  | succ n ih =>
    intro x1 M
    rw [f_X5_readKind_L2]
    refine re_iload_n X dX5_readKind_2 rfl rfl ?_
    refine re_bipush (v := 8) X dX5_readKind_3 (by decide) ?_
    refine re_icmp_ge (tgt := 27) X dX5_readKind_5 (by decide) (fun _ => ?_) (fun _ => ?_)
    · refine re_iconst (v := -1) X dX5_readKind_27 (by decide) ?_
      exact re_iret X dX5_readKind_28
    · refine re_aload_n X dX5_readKind_8 rfl rfl ?_
      refine re_iload_n X dX5_readKind_9 rfl rfl ?_
      refine re_callSs X (lk_X5_kindWord l w x1) (ca_X5_kindWord (by decide) (by decide)) ml_RX5_138 sm_X5_kindWord rfl rfl rfl (zle rfl) zRo dX5_readKind_10 (fun r1 M2 hr1 => ?_)
      refine re_callVz X (lk_X5_tookWord l w r1 ho hr1) (ca_X5_tookWord (by decide) (by decide)) ml_RX5_50 im_X5_tookWord se_X5_tookWord cl_5 ho rfl rfl rfl (zle rfl) zRo dX5_readKind_13 (fun r3 M4 hr3 => ?_)
      refine re_if_eq (tgt := 21) X dX5_readKind_16 (by decide) (fun _ => ?_) (fun _ => ?_)
      · refine re_iinc (v := 1) (lv' := [some (.ref (zA w 13)), some (.int (x1 + 1))]) X dX5_readKind_21 rfl (by decide) rfl ?_
        refine re_goto (tgt := 2) X dX5_readKind_24 (by decide) ?_
        exact ih (x1 + 1) M4
      · refine re_iload_n X dX5_readKind_19 rfl rfl ?_
        exact re_iret X dX5_readKind_20

set_option maxRecDepth 100000 in
theorem lk_X5_readKind (l : Launch) (w : zWD)  (ho : zKd w 13 = (5, 5)) : zMt l w yX5_readKind cX5_readKind 2 (some .int) rm_X5_readKind 1 [.ref (zA w 13)] (fun M => f_X5_readKind M) := by
  refine zMt.of (by decide) [some (.ref (zA w 13)), none] rfl (zle rfl) (by intro v hv; simp only [List.mem_cons, List.not_mem_nil, or_false] at hv; rcases hv with rfl <;> rfl) ?_
  intro p e s m args below meth c X M
  unfold f_X5_readKind
  refine re_iconst (v := 0) X dX5_readKind_0 (by decide) ?_
  refine re_istore_n (lv' := [some (.ref (zA w 13)), some (.int 0)]) X dX5_readKind_1 rfl (zlt rfl) rfl ?_
  exact lb_X5_readKind_2 X ho zFu 0 M
theorem ca_X5_readKind {R : Room} (h1 : rm_X5_readKind.frames + 1 ≤ R.frames) (h2 : 8 + (2 + 11) + rm_X5_readKind.locals ≤ R.locals) : zCa yX5_readKind cX5_readKind 2 (some .int) rm_X5_readKind R 0 := ⟨cd_X5_readKind, iz_RX5, ⟨by decide, by decide, by decide⟩, rfl, rfl, h1, h2⟩
/-! DebateHouse$Reader.fail -/
abbrev rm_X5_fail : Room := { frames := 0, cells := 0, slots := 0, locals := 0 }
def f_X5_fail (u1 : Int32) (u2 : Int32) (M : zMem) : zTr := if (M 13 3) = 0 then zLt (zUp M 13 3 (u1 + (4 * u2))) (fun M1 => some (0, M1)) else some (0, M)
set_option maxRecDepth 100000 in
theorem lk_X5_fail (l : Launch) (w : zWD) (u1 : Int32) (u2 : Int32) (ho : zKd w 13 = (5, 5)) : zMt l w yX5_fail cX5_fail 3 none rm_X5_fail 0 [.ref (zA w 13), .int u1, .int u2] (fun M => f_X5_fail u1 u2 M) := by
  refine zMt.of (by decide) [some (.ref (zA w 13)), some (.int u1), some (.int u2)] rfl (zle rfl) (by intro v hv; simp only [List.mem_cons, List.not_mem_nil, or_false] at hv; rcases hv with rfl | rfl | rfl <;> rfl) ?_
  intro p e s m args below meth c X M
  unfold f_X5_fail
  refine re_aload_n X dX5_fail_0 rfl rfl ?_
  refine re_getI X cl_5 (by decide) fl_RX5_23 ho rfl dX5_fail_1 ?_
  refine re_if_ne (tgt := 16) X dX5_fail_4 (by decide) (fun _ => ?_) (fun _ => ?_)
  · refine re_aload_n X dX5_fail_7 rfl rfl ?_
    refine re_iload_n X dX5_fail_8 rfl rfl ?_
    refine re_iconst (v := 4) X dX5_fail_9 (by decide) ?_
    refine re_iload_n X dX5_fail_10 rfl rfl ?_
    refine re_imul X dX5_fail_11 ?_
    refine re_iadd X dX5_fail_12 ?_
    refine re_putI X cl_5 (by decide) fl_RX5_23 ho rfl rfl rfl dX5_fail_13 (fun M1 => ?_)
    exact re_vret X dX5_fail_16
  · exact re_vret X dX5_fail_16
theorem ca_X5_fail {R : Room} (h1 : rm_X5_fail.frames + 1 ≤ R.frames) (h2 : 8 + (3 + 11) + rm_X5_fail.locals ≤ R.locals) : zCa yX5_fail cX5_fail 3 none rm_X5_fail R 2 := ⟨cd_X5_fail, iz_RX5, ⟨by decide, by decide, by decide⟩, rfl, rfl, h1, h2⟩
/-! DebateHouse$Reader.expectWord -/
abbrev rm_X5_expectWord : Room := { frames := 5, cells := 0, slots := 0, locals := 108 }
def f_X5_expectWord (u1 : Int32) (M : zMem) : zTr := zBd (f_X5_tookWord u1 M) (fun r1 M2 => if r1 = 0 then zBd (f_X5_fail 1 (M2 13 2) M2) (fun _ M4 => some (0, M4)) else some (0, M2))
set_option maxRecDepth 100000 in
theorem lk_X5_expectWord (l : Launch) (w : zWD) (u1 : Int32) (ho : zKd w 13 = (5, 5)) (hu1 : zIx u1 < zNS) : zMt l w yX5_expectWord cX5_expectWord 2 none rm_X5_expectWord 0 [.ref (zA w 13), .ref (zK w (zIx u1))] (fun M => f_X5_expectWord u1 M) := by
  refine zMt.of (by decide) [some (.ref (zA w 13)), some (.ref (zK w (zIx u1)))] rfl (zle rfl) (by intro v hv; simp only [List.mem_cons, List.not_mem_nil, or_false] at hv; rcases hv with rfl | rfl <;> rfl) ?_
  intro p e s m args below meth c X M
  unfold f_X5_expectWord
  refine re_aload_n X dX5_expectWord_0 rfl rfl ?_
  refine re_aload_n X dX5_expectWord_1 rfl rfl ?_
  refine re_callVz X (lk_X5_tookWord l w u1 ho hu1) (ca_X5_tookWord (by decide) (by decide)) ml_RX5_50 im_X5_tookWord se_X5_tookWord cl_5 ho rfl rfl rfl (zle rfl) zRo dX5_expectWord_2 (fun r1 M2 hr1 => ?_)
  refine re_if_ne (tgt := 17) X dX5_expectWord_5 (by decide) (fun _ => ?_) (fun _ => ?_)
  · refine re_aload_n X dX5_expectWord_8 rfl rfl ?_
    refine re_iconst (v := 1) X dX5_expectWord_9 (by decide) ?_
    refine re_aload_n X dX5_expectWord_10 rfl rfl ?_
    refine re_getI X cl_5 (by decide) fl_RX5_19 ho rfl dX5_expectWord_11 ?_
    refine re_callVv X (lk_X5_fail l w 1 (M2 13 2) ho) (ca_X5_fail (by decide) (by decide)) ml_RX5_96 im_X5_fail se_X5_fail cl_5 ho rfl rfl rfl (zle rfl) zRo dX5_expectWord_14 (fun r3 M4 hr3 => ?_)
    exact re_vret X dX5_expectWord_17
  · exact re_vret X dX5_expectWord_17
theorem ca_X5_expectWord {R : Room} (h1 : rm_X5_expectWord.frames + 1 ≤ R.frames) (h2 : 8 + (2 + 11) + rm_X5_expectWord.locals ≤ R.locals) : zCa yX5_expectWord cX5_expectWord 2 none rm_X5_expectWord R 1 := ⟨cd_X5_expectWord, iz_RX5, ⟨by decide, by decide, by decide⟩, rfl, rfl, h1, h2⟩
/-! DebateHouse$Reader.isDigit -/
abbrev rm_X5_isDigit : Room := { frames := 0, cells := 0, slots := 0, locals := 0 }
def f_X5_isDigit (u1 : Int32) (M : zMem) : zTr := if u1 < 48 then some (0, M) else if 57 < u1 then some (0, M) else some (1, M)
set_option maxRecDepth 100000 in
theorem lk_X5_isDigit (l : Launch) (w : zWD) (u1 : Int32)  : zMt l w yX5_isDigit cX5_isDigit 1 (some .boolean) rm_X5_isDigit 2 [.int u1] (fun M => f_X5_isDigit u1 M) := by
  refine zMt.of (by decide) [some (.int u1)] rfl (zle rfl) (by intro v hv; simp only [List.mem_cons, List.not_mem_nil, or_false] at hv; rcases hv with rfl <;> rfl) ?_
  intro p e s m args below meth c X M
  unfold f_X5_isDigit
  refine re_iload_n X dX5_isDigit_0 rfl rfl ?_
  refine re_bipush (v := 48) X dX5_isDigit_1 (by decide) ?_
  refine re_icmp_lt (tgt := 16) X dX5_isDigit_3 (by decide) (fun _ => ?_) (fun _ => ?_)
  · refine re_iconst (v := 0) X dX5_isDigit_16 (by decide) ?_
    exact re_zret X (Or.inl rfl) dX5_isDigit_17
  · refine re_iload_n X dX5_isDigit_6 rfl rfl ?_
    refine re_bipush (v := 57) X dX5_isDigit_7 (by decide) ?_
    refine re_icmp_gt (tgt := 16) X dX5_isDigit_9 (by decide) (fun _ => ?_) (fun _ => ?_)
    · refine re_iconst (v := 0) X dX5_isDigit_16 (by decide) ?_
      exact re_zret X (Or.inl rfl) dX5_isDigit_17
    · refine re_iconst (v := 1) X dX5_isDigit_12 (by decide) ?_
      refine re_goto (tgt := 17) X dX5_isDigit_13 (by decide) ?_
      exact re_zret X (Or.inr rfl) dX5_isDigit_17
theorem ca_X5_isDigit {R : Room} (h1 : rm_X5_isDigit.frames + 1 ≤ R.frames) (h2 : 8 + (1 + 11) + rm_X5_isDigit.locals ≤ R.locals) : zCa yX5_isDigit cX5_isDigit 1 (some .boolean) rm_X5_isDigit R 1 := ⟨cd_X5_isDigit, iz_RX5, ⟨by decide, by decide, by decide⟩, rfl, rfl, h1, h2⟩
/-! DebateHouse$Reader.readNumber -/
abbrev rm_X5_readNumber : Room := { frames := 2, cells := 0, slots := 0, locals := 41 }
def f_X5_readNumber_B127 (u1 : Int32) (u2 : Int32)  (x3 : Int32) (x4 : Int32) (M : zMem) : zTr := zBd (f_X5_fail 2 x3 M) (fun _ M6 => some (x4, M6))
def f_X5_readNumber_B88 (u1 : Int32) (u2 : Int32)  (x3 : Int32) (x4 : Int32) (M : zMem) : zTr := if (M 13 2) = x3 then zBd (f_X5_fail 1 x3 M) (fun _ M4 => some (x4, M4)) else if 4 < ((M 13 2) - x3) then f_X5_readNumber_B127 u1 u2 x3 x4 M else if x4 < u1 then f_X5_readNumber_B127 u1 u2 x3 x4 M else if x4 ≤ u2 then some (x4, M) else f_X5_readNumber_B127 u1 u2 x3 x4 M
def f_X5_readNumber_B75 (u1 : Int32) (u2 : Int32) (k12 : Int32 → Int32 → zMem → zTr) (x3 : Int32) (x4 : Int32) (M : zMem) : zTr := zLt (zUp M 13 2 ((M 13 2) + 1)) (fun M11 => k12 x3 x4 M11)
def f_X5_readNumber_L12 (u1 : Int32) (u2 : Int32)  : Nat → Int32 → Int32 → zMem → zTr
  | 0, _, _, _ => none
  | n + 1, x3, x4, M => if (M 1 1) ≤ (M 13 2) then f_X5_readNumber_B88 u1 u2 x3 x4 M else zBd (f_X8_byteAt (M 13 2) M) (fun r7 M8 => zBd (f_X5_isDigit r7 M8) (fun r9 M10 => if r9 = 0 then f_X5_readNumber_B88 u1 u2 x3 x4 M10 else if 4 ≤ ((M10 13 2) - x3) then f_X5_readNumber_B75 u1 u2 (fun x3 x4 M => f_X5_readNumber_L12 u1 u2 n x3 x4 M) x3 x4 M10 else zBd (f_X8_byteAt (M10 13 2) M10) (fun r12 M13 => f_X5_readNumber_B75 u1 u2 (fun x3 x4 M => f_X5_readNumber_L12 u1 u2 n x3 x4 M) x3 (((x4 * 10) + r12) - 48) M13)))
def f_X5_readNumber (u1 : Int32) (u2 : Int32) (M : zMem) : zTr := zBd (f_X5_skipBlanks M) (fun _ M2 => f_X5_readNumber_L12 u1 u2 zFu (M2 13 2) 0 M2)
set_option maxRecDepth 100000 in
theorem lb_X5_readNumber_127 {p : Program} {l : Launch} {e : Env} {s : State} {m : MethodId} {args : Array Value} {below : List Frame} {meth : Method} {c : Code} {w : zWD} {u1 : Int32} {u2 : Int32} (X : zCx p s m args meth c w (zFree w) RX5 cX5_readNumber 5 (some .int)) (ho : zKd w 13 = (5, 5)) : ∀ (x3 : Int32) (x4 : Int32) (M : zMem), zRm p l e rm_X5_readNumber s m args below meth c w 1 127 [some (.ref (zA w 13)), none, none, some (.int x3), some (.int x4)] [] M (f_X5_readNumber_B127 u1 u2 x3 x4 M) := by
  intro x3 x4 M
  unfold f_X5_readNumber_B127
  refine re_aload_n X dX5_readNumber_127 rfl rfl ?_
  refine re_iconst (v := 2) X dX5_readNumber_128 (by decide) ?_
  refine re_iload_n X dX5_readNumber_129 rfl rfl ?_
  refine re_callVv X (lk_X5_fail l w 2 x3 ho) (ca_X5_fail (by decide) (by decide)) ml_RX5_96 im_X5_fail se_X5_fail cl_5 ho rfl rfl rfl (zle rfl) zRo dX5_readNumber_130 (fun r5 M6 hr5 => ?_)
  refine re_iload X dX5_readNumber_133 rfl ?_
  exact re_iret X dX5_readNumber_135

set_option maxRecDepth 100000 in
theorem lb_X5_readNumber_88 {p : Program} {l : Launch} {e : Env} {s : State} {m : MethodId} {args : Array Value} {below : List Frame} {meth : Method} {c : Code} {w : zWD} {u1 : Int32} {u2 : Int32} (X : zCx p s m args meth c w (zFree w) RX5 cX5_readNumber 5 (some .int)) (ho : zKd w 13 = (5, 5)) : ∀ (x3 : Int32) (x4 : Int32) (M : zMem), zRm p l e rm_X5_readNumber s m args below meth c w 1 88 [some (.ref (zA w 13)), some (.int u1), some (.int u2), some (.int x3), some (.int x4)] [] M (f_X5_readNumber_B88 u1 u2 x3 x4 M) := by
  intro x3 x4 M
  unfold f_X5_readNumber_B88
  refine re_aload_n X dX5_readNumber_88 rfl rfl ?_
  refine re_getI X cl_5 (by decide) fl_RX5_19 ho rfl dX5_readNumber_89 ?_
  refine re_iload_n X dX5_readNumber_92 rfl rfl ?_
  refine re_icmp_ne (tgt := 105) X dX5_readNumber_93 (by decide) (fun _ => ?_) (fun _ => ?_)
  · refine re_aload_n X dX5_readNumber_96 rfl rfl ?_
    refine re_iconst (v := 1) X dX5_readNumber_97 (by decide) ?_
    refine re_iload_n X dX5_readNumber_98 rfl rfl ?_
    refine re_callVv X (lk_X5_fail l w 1 x3 ho) (ca_X5_fail (by decide) (by decide)) ml_RX5_96 im_X5_fail se_X5_fail cl_5 ho rfl rfl rfl (zle rfl) zRo dX5_readNumber_99 (fun r3 M4 hr3 => ?_)
    refine re_goto (tgt := 133) X dX5_readNumber_102 (by decide) ?_
    refine re_iload X dX5_readNumber_133 rfl ?_
    exact re_iret X dX5_readNumber_135
  · refine re_aload_n X dX5_readNumber_105 rfl rfl ?_
    refine re_getI X cl_5 (by decide) fl_RX5_19 ho rfl dX5_readNumber_106 ?_
    refine re_iload_n X dX5_readNumber_109 rfl rfl ?_
    refine re_isub X dX5_readNumber_110 ?_
    refine re_iconst (v := 4) X dX5_readNumber_111 (by decide) ?_
    refine re_icmp_gt (tgt := 127) X dX5_readNumber_112 (by decide) (fun _ => ?_) (fun _ => ?_)
    · exact re_sub (lb_X5_readNumber_127 X ho x3 x4 M) ⟨rfl, ⟨rfl, ⟨rfl, trivial⟩⟩⟩
    · refine re_iload X dX5_readNumber_115 rfl ?_
      refine re_iload_n X dX5_readNumber_117 rfl rfl ?_
      refine re_icmp_lt (tgt := 127) X dX5_readNumber_118 (by decide) (fun _ => ?_) (fun _ => ?_)
      · exact re_sub (lb_X5_readNumber_127 X ho x3 x4 M) ⟨rfl, ⟨rfl, ⟨rfl, trivial⟩⟩⟩
      · refine re_iload X dX5_readNumber_121 rfl ?_
        refine re_iload_n X dX5_readNumber_123 rfl rfl ?_
        refine re_icmp_le (tgt := 133) X dX5_readNumber_124 (by decide) (fun _ => ?_) (fun _ => ?_)
        · refine re_iload X dX5_readNumber_133 rfl ?_
          exact re_iret X dX5_readNumber_135
        · exact re_sub (lb_X5_readNumber_127 X ho x3 x4 M) ⟨rfl, ⟨rfl, ⟨rfl, trivial⟩⟩⟩

set_option maxRecDepth 100000 in
theorem lb_X5_readNumber_75 {p : Program} {l : Launch} {e : Env} {s : State} {m : MethodId} {args : Array Value} {below : List Frame} {meth : Method} {c : Code} {w : zWD} {u1 : Int32} {u2 : Int32} (X : zCx p s m args meth c w (zFree w) RX5 cX5_readNumber 5 (some .int)) (ho : zKd w 13 = (5, 5)) (k12 : Int32 → Int32 → zMem → zTr) (hk12 : ∀ (x3 : Int32) (x4 : Int32) (M : zMem), zRm p l e rm_X5_readNumber s m args below meth c w 1 12 [some (.ref (zA w 13)), some (.int u1), some (.int u2), some (.int x3), some (.int x4)] [] M (k12 x3 x4 M)) : ∀ (x3 : Int32) (x4 : Int32) (M : zMem), zRm p l e rm_X5_readNumber s m args below meth c w 1 75 [some (.ref (zA w 13)), some (.int u1), some (.int u2), some (.int x3), some (.int x4)] [] M (f_X5_readNumber_B75 u1 u2 k12 x3 x4 M) := by
  intro x3 x4 M
  unfold f_X5_readNumber_B75
  refine re_aload_n X dX5_readNumber_75 rfl rfl ?_
  refine re_dup X dX5_readNumber_76 rfl ?_
  refine re_getI X cl_5 (by decide) fl_RX5_19 ho rfl dX5_readNumber_77 ?_
  refine re_iconst (v := 1) X dX5_readNumber_80 (by decide) ?_
  refine re_iadd X dX5_readNumber_81 ?_
  refine re_putI X cl_5 (by decide) fl_RX5_19 ho rfl rfl rfl dX5_readNumber_82 (fun M11 => ?_)
  refine re_goto (tgt := 12) X dX5_readNumber_85 (by decide) ?_
  exact hk12 x3 x4 M11

set_option maxRecDepth 100000 in
theorem lb_X5_readNumber_12 {p : Program} {l : Launch} {e : Env} {s : State} {m : MethodId} {args : Array Value} {below : List Frame} {meth : Method} {c : Code} {w : zWD} {u1 : Int32} {u2 : Int32} (X : zCx p s m args meth c w (zFree w) RX5 cX5_readNumber 5 (some .int)) (ho : zKd w 13 = (5, 5)) : ∀ (n : Nat) (x3 : Int32) (x4 : Int32) (M : zMem), zRm p l e rm_X5_readNumber s m args below meth c w 1 12 [some (.ref (zA w 13)), some (.int u1), some (.int u2), some (.int x3), some (.int x4)] [] M (f_X5_readNumber_L12 u1 u2 n x3 x4 M) := by
  intro n
  induction n with
  | zero => intro x3 x4 M; exact re_none
  | succ n ih =>
    intro x3 x4 M
    rw [f_X5_readNumber_L12]
    refine re_aload_n X dX5_readNumber_12 rfl rfl ?_
    refine re_getI X cl_5 (by decide) fl_RX5_19 ho rfl dX5_readNumber_13 ?_
    refine re_aload_n X dX5_readNumber_16 rfl rfl ?_
    refine re_getR X cl_5 (by decide) fl_RX5_9 ho rfl (zR_5_0 ho) dX5_readNumber_17 ?_
    refine re_getI X cl_8 (by decide) fl_RX5_37 (zQ_5_0 X.clo ho) rfl dX5_readNumber_20 ?_
    refine re_icmp_ge (tgt := 88) X dX5_readNumber_23 (by decide) (fun _ => ?_) (fun _ => ?_)
    · exact lb_X5_readNumber_88 X ho x3 x4 M
    · refine re_aload_n X dX5_readNumber_26 rfl rfl ?_
      refine re_getR X cl_5 (by decide) fl_RX5_9 ho rfl (zR_5_0 ho) dX5_readNumber_27 ?_
      refine re_aload_n X dX5_readNumber_30 rfl rfl ?_
      refine re_getI X cl_5 (by decide) fl_RX5_19 ho rfl dX5_readNumber_31 ?_
      refine re_callVi X (lk_X8_byteAt l w (M 13 2) (zQ_5_0 X.clo ho)) (ca_X8_byteAt (by decide) (by decide)) ml_RX5_145 im_X8_byteAt se_X8_byteAt cl_8 (zQ_5_0 X.clo ho) rfl rfl rfl (zle rfl) zRo dX5_readNumber_34 (fun r7 M8 hr7 => ?_)
      refine re_callSz X (lk_X5_isDigit l w r7) (ca_X5_isDigit (by decide) (by decide)) ml_RX5_149 sm_X5_isDigit rfl rfl rfl (zle rfl) zRo dX5_readNumber_37 (fun r9 M10 hr9 => ?_)
      refine re_if_eq (tgt := 88) X dX5_readNumber_40 (by decide) (fun _ => ?_) (fun _ => ?_)
      · exact lb_X5_readNumber_88 X ho x3 x4 M10
      · refine re_aload_n X dX5_readNumber_43 rfl rfl ?_
        refine re_getI X cl_5 (by decide) fl_RX5_19 ho rfl dX5_readNumber_44 ?_
        refine re_iload_n X dX5_readNumber_47 rfl rfl ?_
        refine re_isub X dX5_readNumber_48 ?_
        refine re_iconst (v := 4) X dX5_readNumber_49 (by decide) ?_
        refine re_icmp_ge (tgt := 75) X dX5_readNumber_50 (by decide) (fun _ => ?_) (fun _ => ?_)
        · exact lb_X5_readNumber_75 X ho _ ih x3 x4 M10
        · refine re_iload X dX5_readNumber_53 rfl ?_
          refine re_bipush (v := 10) X dX5_readNumber_55 (by decide) ?_
          refine re_imul X dX5_readNumber_57 ?_
          refine re_aload_n X dX5_readNumber_58 rfl rfl ?_
          refine re_getR X cl_5 (by decide) fl_RX5_9 ho rfl (zR_5_0 ho) dX5_readNumber_59 ?_
          refine re_aload_n X dX5_readNumber_62 rfl rfl ?_
          refine re_getI X cl_5 (by decide) fl_RX5_19 ho rfl dX5_readNumber_63 ?_
          refine re_callVi X (lk_X8_byteAt l w (M10 13 2) (zQ_5_0 X.clo ho)) (ca_X8_byteAt (by decide) (by decide)) ml_RX5_145 im_X8_byteAt se_X8_byteAt cl_8 (zQ_5_0 X.clo ho) rfl rfl rfl (zle rfl) zRo dX5_readNumber_66 (fun r12 M13 hr12 => ?_)
          refine re_iadd X dX5_readNumber_69 ?_
          refine re_bipush (v := 48) X dX5_readNumber_70 (by decide) ?_
          refine re_isub X dX5_readNumber_72 ?_
          refine re_istore (lv' := [some (.ref (zA w 13)), some (.int u1), some (.int u2), some (.int x3), some (.int (((x4 * 10) + r12) - 48))]) X dX5_readNumber_73 (zlt rfl) rfl ?_
          exact lb_X5_readNumber_75 X ho _ ih x3 (((x4 * 10) + r12) - 48) M13

set_option maxRecDepth 100000 in
theorem lk_X5_readNumber (l : Launch) (w : zWD) (u1 : Int32) (u2 : Int32) (ho : zKd w 13 = (5, 5)) : zMt l w yX5_readNumber cX5_readNumber 5 (some .int) rm_X5_readNumber 1 [.ref (zA w 13), .int u1, .int u2] (fun M => f_X5_readNumber u1 u2 M) := by
  refine zMt.of (by decide) [some (.ref (zA w 13)), some (.int u1), some (.int u2), none, none] rfl (zle rfl) (by intro v hv; simp only [List.mem_cons, List.not_mem_nil, or_false] at hv; rcases hv with rfl | rfl | rfl <;> rfl) ?_
  intro p e s m args below meth c X M
  unfold f_X5_readNumber
  refine re_aload_n X dX5_readNumber_0 rfl rfl ?_
  refine re_callVv X (lk_X5_skipBlanks l w ho) (ca_X5_skipBlanks (by decide) (by decide)) ml_RX5_34 im_X5_skipBlanks se_X5_skipBlanks cl_5 ho rfl rfl rfl (zle rfl) zRo dX5_readNumber_1 (fun r1 M2 hr1 => ?_)
  refine re_aload_n X dX5_readNumber_4 rfl rfl ?_
  refine re_getI X cl_5 (by decide) fl_RX5_19 ho rfl dX5_readNumber_5 ?_
  refine re_istore_n (lv' := [some (.ref (zA w 13)), some (.int u1), some (.int u2), some (.int (M2 13 2)), none]) X dX5_readNumber_8 rfl (zlt rfl) rfl ?_
  refine re_iconst (v := 0) X dX5_readNumber_9 (by decide) ?_
  refine re_istore (lv' := [some (.ref (zA w 13)), some (.int u1), some (.int u2), some (.int (M2 13 2)), some (.int 0)]) X dX5_readNumber_10 (zlt rfl) rfl ?_
  exact lb_X5_readNumber_12 X ho zFu (M2 13 2) 0 M2
theorem ca_X5_readNumber {R : Room} (h1 : rm_X5_readNumber.frames + 1 ≤ R.frames) (h2 : 8 + (5 + 11) + rm_X5_readNumber.locals ≤ R.locals) : zCa yX5_readNumber cX5_readNumber 5 (some .int) rm_X5_readNumber R 2 := ⟨cd_X5_readNumber, iz_RX5, ⟨by decide, by decide, by decide⟩, rfl, rfl, h1, h2⟩
/-! DebateHouse$Reader.wayWord -/
abbrev rm_X5_wayWord : Room := { frames := 0, cells := 0, slots := 0, locals := 0 }
def f_X5_wayWord (u1 : Int32) (M : zMem) : zTr := if u1 = 0 then some (13, M) else if u1 = 1 then some (14, M) else if u1 = 2 then some (15, M) else some (16, M)
set_option maxRecDepth 100000 in
theorem lk_X5_wayWord (l : Launch) (w : zWD) (u1 : Int32)  : zMt l w yX5_wayWord cX5_wayWord 1 (some (.object "java/lang/String")) rm_X5_wayWord 3 [.int u1] (fun M => f_X5_wayWord u1 M) := by
  refine zMt.of (by decide) [some (.int u1)] rfl (zle rfl) (by intro v hv; simp only [List.mem_cons, List.not_mem_nil, or_false] at hv; rcases hv with rfl <;> rfl) ?_
  intro p e s m args below meth c X M
  unfold f_X5_wayWord
  refine re_iload_n X dX5_wayWord_0 rfl rfl ?_
  refine re_if (fun e1 => ?_) (fun e1 => ?_)
  · refine re_sw_in (v := 0) (off := 27) (tgt := 28) X dX5_wayWord_1 e1 (by decide) (by decide) (by decide +kernel) (by decide) ?_
    refine re_ldcS (k := 13) (tx := "half") X (by decide +kernel) dX5_wayWord_28 ?_
    exact re_sret X (by decide) (by decide) dX5_wayWord_30
  refine re_if (fun e2 => ?_) (fun e2 => ?_)
  · refine re_sw_in (v := 1) (off := 30) (tgt := 31) X dX5_wayWord_1 e2 (by decide) (by decide) (by decide +kernel) (by decide) ?_
    refine re_ldcS (k := 14) (tx := "thirds") X (by decide +kernel) dX5_wayWord_31 ?_
    exact re_sret X (by decide) (by decide) dX5_wayWord_33
  refine re_if (fun e3 => ?_) (fun e3 => ?_)
  · refine re_sw_in (v := 2) (off := 33) (tgt := 34) X dX5_wayWord_1 e3 (by decide) (by decide) (by decide +kernel) (by decide) ?_
    refine re_ldcS (k := 15) (tx := "quarter") X (by decide +kernel) dX5_wayWord_34 ?_
    exact re_sret X (by decide) (by decide) dX5_wayWord_36
  refine re_sw_out (tgt := 37) X dX5_wayWord_1 (by
      have e1 := lv_neT (a := 0) e1 (by decide)
      have e2 := lv_neT (a := 1) e2 (by decide)
      have e3 := lv_neT (a := 2) e3 (by decide)
      omega) (by decide) ?_
  refine re_ldcS (k := 16) (tx := "chair") X (by decide +kernel) dX5_wayWord_37 ?_
  exact re_sret X (by decide) (by decide) dX5_wayWord_39
theorem ca_X5_wayWord {R : Room} (h1 : rm_X5_wayWord.frames + 1 ≤ R.frames) (h2 : 8 + (1 + 11) + rm_X5_wayWord.locals ≤ R.locals) : zCa yX5_wayWord cX5_wayWord 1 (some (.object "java/lang/String")) rm_X5_wayWord R 1 := ⟨cd_X5_wayWord, iz_RX5, ⟨by decide, by decide, by decide⟩, rfl, rfl, h1, h2⟩
/-! DebateHouse$Reader.readWay -/
abbrev rm_X5_readWay : Room := { frames := 5, cells := 0, slots := 0, locals := 108 }
def f_X5_readWay_B26   (M : zMem) : zTr := zBd (f_X5_fail 1 (M 13 2) M) (fun _ M2 => some (-1, M2))
def f_X5_readWay_L2   : Nat → Int32 → zMem → zTr
  | 0, _, _ => none
  | n + 1, x1, M => if 4 ≤ x1 then f_X5_readWay_B26 M else zBd (f_X5_wayWord x1 M) (fun r3 M4 => zBd (f_X5_tookWord r3 M4) (fun r5 M6 => if r5 = 0 then f_X5_readWay_L2 n (x1 + 1) M6 else some (x1, M6)))
def f_X5_readWay  (M : zMem) : zTr := f_X5_readWay_L2 zFu 0 M
set_option maxRecDepth 100000 in
theorem lb_X5_readWay_26 {p : Program} {l : Launch} {e : Env} {s : State} {m : MethodId} {args : Array Value} {below : List Frame} {meth : Method} {c : Code} {w : zWD} (X : zCx p s m args meth c w (zFree w) RX5 cX5_readWay 2 (some .int)) (ho : zKd w 13 = (5, 5)) : ∀ (M : zMem), zRm p l e rm_X5_readWay s m args below meth c w 1 26 [some (.ref (zA w 13)), none] [] M (f_X5_readWay_B26 M) := by
  intro M
  unfold f_X5_readWay_B26
  refine re_aload_n X dX5_readWay_26 rfl rfl ?_
  refine re_iconst (v := 1) X dX5_readWay_27 (by decide) ?_
  refine re_aload_n X dX5_readWay_28 rfl rfl ?_
  refine re_getI X cl_5 (by decide) fl_RX5_19 ho rfl dX5_readWay_29 ?_
  refine re_callVv X (lk_X5_fail l w 1 (M 13 2) ho) (ca_X5_fail (by decide) (by decide)) ml_RX5_96 im_X5_fail se_X5_fail cl_5 ho rfl rfl rfl (zle rfl) zRo dX5_readWay_32 (fun r1 M2 hr1 => ?_)
  refine re_iconst (v := -1) X dX5_readWay_35 (by decide) ?_
  exact re_iret X dX5_readWay_36

set_option maxRecDepth 100000 in
theorem lb_X5_readWay_2 {p : Program} {l : Launch} {e : Env} {s : State} {m : MethodId} {args : Array Value} {below : List Frame} {meth : Method} {c : Code} {w : zWD} (X : zCx p s m args meth c w (zFree w) RX5 cX5_readWay 2 (some .int)) (ho : zKd w 13 = (5, 5)) : ∀ (n : Nat) (x1 : Int32) (M : zMem), zRm p l e rm_X5_readWay s m args below meth c w 1 2 [some (.ref (zA w 13)), some (.int x1)] [] M (f_X5_readWay_L2 n x1 M) := by
  intro n
  induction n with
  | zero => intro x1 M; exact re_none
  | succ n ih =>
    intro x1 M
    rw [f_X5_readWay_L2]
    refine re_iload_n X dX5_readWay_2 rfl rfl ?_
    refine re_iconst (v := 4) X dX5_readWay_3 (by decide) ?_
    refine re_icmp_ge (tgt := 26) X dX5_readWay_4 (by decide) (fun _ => ?_) (fun _ => ?_)
    · exact re_sub (lb_X5_readWay_26 X ho M) ⟨rfl, trivial⟩
    · refine re_aload_n X dX5_readWay_7 rfl rfl ?_
      refine re_iload_n X dX5_readWay_8 rfl rfl ?_
      refine re_callSs X (lk_X5_wayWord l w x1) (ca_X5_wayWord (by decide) (by decide)) ml_RX5_142 sm_X5_wayWord rfl rfl rfl (zle rfl) zRo dX5_readWay_9 (fun r3 M4 hr3 => ?_)
      refine re_callVz X (lk_X5_tookWord l w r3 ho hr3) (ca_X5_tookWord (by decide) (by decide)) ml_RX5_50 im_X5_tookWord se_X5_tookWord cl_5 ho rfl rfl rfl (zle rfl) zRo dX5_readWay_12 (fun r5 M6 hr5 => ?_)
      refine re_if_eq (tgt := 20) X dX5_readWay_15 (by decide) (fun _ => ?_) (fun _ => ?_)
      · refine re_iinc (v := 1) (lv' := [some (.ref (zA w 13)), some (.int (x1 + 1))]) X dX5_readWay_20 rfl (by decide) rfl ?_
        refine re_goto (tgt := 2) X dX5_readWay_23 (by decide) ?_
        exact ih (x1 + 1) M6
      · refine re_iload_n X dX5_readWay_18 rfl rfl ?_
        exact re_iret X dX5_readWay_19

set_option maxRecDepth 100000 in
theorem lk_X5_readWay (l : Launch) (w : zWD)  (ho : zKd w 13 = (5, 5)) : zMt l w yX5_readWay cX5_readWay 2 (some .int) rm_X5_readWay 1 [.ref (zA w 13)] (fun M => f_X5_readWay M) := by
  refine zMt.of (by decide) [some (.ref (zA w 13)), none] rfl (zle rfl) (by intro v hv; simp only [List.mem_cons, List.not_mem_nil, or_false] at hv; rcases hv with rfl <;> rfl) ?_
  intro p e s m args below meth c X M
  unfold f_X5_readWay
  refine re_iconst (v := 0) X dX5_readWay_0 (by decide) ?_
  refine re_istore_n (lv' := [some (.ref (zA w 13)), some (.int 0)]) X dX5_readWay_1 rfl (zlt rfl) rfl ?_
  exact lb_X5_readWay_2 X ho zFu 0 M
theorem ca_X5_readWay {R : Room} (h1 : rm_X5_readWay.frames + 1 ≤ R.frames) (h2 : 8 + (2 + 11) + rm_X5_readWay.locals ≤ R.locals) : zCa yX5_readWay cX5_readWay 2 (some .int) rm_X5_readWay R 0 := ⟨cd_X5_readWay, iz_RX5, ⟨by decide, by decide, by decide⟩, rfl, rfl, h1, h2⟩
/-! DebateHouse$Reader.readMotion -/
abbrev rm_X5_readMotion : Room := { frames := 6, cells := 0, slots := 0, locals := 129 }
def f_X5_readMotion  (M : zMem) : zTr := zBd (f_X5_skipBlanks M) (fun _ M2 => zBd (f_X5_readKind M2) (fun r3 M4 => zBd (f_X9_isKind r3 M4) (fun r5 M6 => if r5 = 0 then zBd (f_X5_fail 1 (M2 13 2) M6) (fun _ M8 => some (0, M8)) else zBd (f_X6_lets 8 r3 M6) (fun r9 M10 => if r9 = 0 then zBd (f_X5_expectWord 9 M10) (fun _ M12 => zBd (f_X5_readNumber 1 99 M12) (fun r13 M14 => zCk (zIn r3 8) (zLt (zUp M14 (8 + 1) (zIx r3) r13) (fun M15 => zBd (f_X5_tookWord 10 M15) (fun r17 M18 => zCk (zIn r3 8) (zLt (zUp M18 (8 + 3) (zIx r3) r17) (fun M19 => zBd (f_X5_tookWord 11 M19) (fun r21 M22 => zCk (zIn r3 8) (zLt (zUp M22 (8 + 4) (zIx r3) r21) (fun M23 => zBd (f_X5_expectWord 12 M23) (fun _ M26 => zBd (f_X5_readWay M26) (fun r27 M28 => zCk (zIn r3 8) (zLt (zUp M28 (8 + 2) (zIx r3) r27) (fun M29 => some (0, M29))))))))))))))) else zBd (f_X5_fail 3 (M2 13 2) M10) (fun _ M32 => some (0, M32))))))
set_option maxRecDepth 100000 in
theorem lk_X5_readMotion (l : Launch) (w : zWD)  (ho : zKd w 13 = (5, 5)) : zMt l w yX5_readMotion cX5_readMotion 3 none rm_X5_readMotion 0 [.ref (zA w 13)] (fun M => f_X5_readMotion M) := by
  refine zMt.of (by decide) [some (.ref (zA w 13)), none, none] rfl (zle rfl) (by intro v hv; simp only [List.mem_cons, List.not_mem_nil, or_false] at hv; rcases hv with rfl <;> rfl) ?_
  intro p e s m args below meth c X M
  unfold f_X5_readMotion
  refine re_aload_n X dX5_readMotion_0 rfl rfl ?_
  refine re_callVv X (lk_X5_skipBlanks l w ho) (ca_X5_skipBlanks (by decide) (by decide)) ml_RX5_34 im_X5_skipBlanks se_X5_skipBlanks cl_5 ho rfl rfl rfl (zle rfl) zRo dX5_readMotion_1 (fun r1 M2 hr1 => ?_)
  refine re_aload_n X dX5_readMotion_4 rfl rfl ?_
  refine re_getI X cl_5 (by decide) fl_RX5_19 ho rfl dX5_readMotion_5 ?_
  refine re_istore_n (lv' := [some (.ref (zA w 13)), some (.int (M2 13 2)), none]) X dX5_readMotion_8 rfl (zlt rfl) rfl ?_
  refine re_aload_n X dX5_readMotion_9 rfl rfl ?_
  refine re_callVi X (lk_X5_readKind l w ho) (ca_X5_readKind (by decide) (by decide)) ml_RX5_99 im_X5_readKind se_X5_readKind cl_5 ho rfl rfl rfl (zle rfl) zRo dX5_readMotion_10 (fun r3 M4 hr3 => ?_)
  refine re_istore_n (lv' := [some (.ref (zA w 13)), some (.int (M2 13 2)), some (.int r3)]) X dX5_readMotion_13 rfl (zlt rfl) rfl ?_
  refine re_iload_n X dX5_readMotion_14 rfl rfl ?_
  refine re_callNz X (lk_X9_isKind l w r3) (ca_X9_isKind (by decide) (by decide)) (zN_3) sm_X9_isKind rfl rfl rfl (zle rfl) zRo dX5_readMotion_15 (fun r5 M6 hr5 => ?_)
  refine re_if_ne (tgt := 28) X dX5_readMotion_18 (by decide) (fun _ => ?_) (fun _ => ?_)
  · refine re_aload_n X dX5_readMotion_21 rfl rfl ?_
    refine re_iconst (v := 1) X dX5_readMotion_22 (by decide) ?_
    refine re_iload_n X dX5_readMotion_23 rfl rfl ?_
    refine re_callVv X (lk_X5_fail l w 1 (M2 13 2) ho) (ca_X5_fail (by decide) (by decide)) ml_RX5_96 im_X5_fail se_X5_fail cl_5 ho rfl rfl rfl (zle rfl) zRo dX5_readMotion_24 (fun r7 M8 hr7 => ?_)
    exact re_vret X dX5_readMotion_27
  · refine re_aload_n X dX5_readMotion_28 rfl rfl ?_
    refine re_getR X cl_5 (by decide) fl_RX5_15 ho rfl (zR_5_1 ho) dX5_readMotion_29 ?_
    refine re_iload_n X dX5_readMotion_32 rfl rfl ?_
    refine re_callVz X (lk_X6_lets l w 8 r3 (zQ_5_1 X.clo ho)) (ca_X6_lets (by decide) (by decide)) ml_RX5_107 im_X6_lets se_X6_lets cl_6 (zQ_5_1 X.clo ho) rfl rfl rfl (zle rfl) zRo dX5_readMotion_33 (fun r9 M10 hr9 => ?_)
    refine re_if_eq (tgt := 46) X dX5_readMotion_36 (by decide) (fun _ => ?_) (fun _ => ?_)
    · refine re_aload_n X dX5_readMotion_46 rfl rfl ?_
      refine re_ldcS (k := 9) (tx := "rank") X (by decide +kernel) dX5_readMotion_47 ?_
      refine re_callVv X (lk_X5_expectWord l w 9 ho (by decide)) (ca_X5_expectWord (by decide) (by decide)) ml_RX5_112 im_X5_expectWord se_X5_expectWord cl_5 ho rfl rfl rfl (zle rfl) zRo dX5_readMotion_49 (fun r11 M12 hr11 => ?_)
      refine re_aload_n X dX5_readMotion_52 rfl rfl ?_
      refine re_getR X cl_5 (by decide) fl_RX5_15 ho rfl (zR_5_1 ho) dX5_readMotion_53 ?_
      refine re_getR X cl_6 (by decide) fl_RX5_116 (zQ_5_1 X.clo ho) rfl (zR_6_0 (zQ_5_1 X.clo ho)) dX5_readMotion_56 ?_
      refine re_iload_n X dX5_readMotion_59 rfl rfl ?_
      refine re_aload_n X dX5_readMotion_60 rfl rfl ?_
      refine re_iconst (v := 1) X dX5_readMotion_61 (by decide) ?_
      refine re_bipush (v := 99) X dX5_readMotion_62 (by decide) ?_
      refine re_callVi X (lk_X5_readNumber l w 1 99 ho) (ca_X5_readNumber (by decide) (by decide)) ml_RX5_63 im_X5_readNumber se_X5_readNumber cl_5 ho rfl rfl rfl (zle rfl) zRo dX5_readMotion_64 (fun r13 M14 hr13 => ?_)
      refine re_ck (fun hi16 => ?_)
      refine re_iast X (zQ_6_0 X.clo (zQ_5_1 X.clo ho)) hi16 (j := zIx r3) rfl dX5_readMotion_67 (fun M15 => ?_)
      refine re_aload_n X dX5_readMotion_68 rfl rfl ?_
      refine re_getR X cl_5 (by decide) fl_RX5_15 ho rfl (zR_5_1 ho) dX5_readMotion_69 ?_
      refine re_getR X cl_6 (by decide) fl_RX5_119 (zQ_5_1 X.clo ho) rfl (zR_6_2 (zQ_5_1 X.clo ho)) dX5_readMotion_72 ?_
      refine re_iload_n X dX5_readMotion_75 rfl rfl ?_
      refine re_aload_n X dX5_readMotion_76 rfl rfl ?_
      refine re_ldcS (k := 10) (tx := "second") X (by decide +kernel) dX5_readMotion_77 ?_
      refine re_callVz X (lk_X5_tookWord l w 10 ho (by decide)) (ca_X5_tookWord (by decide) (by decide)) ml_RX5_50 im_X5_tookWord se_X5_tookWord cl_5 ho rfl rfl rfl (zle rfl) zRo dX5_readMotion_79 (fun r17 M18 hr17 => ?_)
      refine re_ck (fun hi20 => ?_)
      refine re_zast X (zQ_6_2 X.clo (zQ_5_1 X.clo ho)) hi20 (j := zIx r3) rfl (zNar_b hr17) dX5_readMotion_82 (fun M19 => ?_)
      refine re_aload_n X dX5_readMotion_83 rfl rfl ?_
      refine re_getR X cl_5 (by decide) fl_RX5_15 ho rfl (zR_5_1 ho) dX5_readMotion_84 ?_
      refine re_getR X cl_6 (by decide) fl_RX5_125 (zQ_5_1 X.clo ho) rfl (zR_6_3 (zQ_5_1 X.clo ho)) dX5_readMotion_87 ?_
      refine re_iload_n X dX5_readMotion_90 rfl rfl ?_
      refine re_aload_n X dX5_readMotion_91 rfl rfl ?_
      refine re_ldcS (k := 11) (tx := "debate") X (by decide +kernel) dX5_readMotion_92 ?_
      refine re_callVz X (lk_X5_tookWord l w 11 ho (by decide)) (ca_X5_tookWord (by decide) (by decide)) ml_RX5_50 im_X5_tookWord se_X5_tookWord cl_5 ho rfl rfl rfl (zle rfl) zRo dX5_readMotion_94 (fun r21 M22 hr21 => ?_)
      refine re_ck (fun hi24 => ?_)
      refine re_zast X (zQ_6_3 X.clo (zQ_5_1 X.clo ho)) hi24 (j := zIx r3) rfl (zNar_b hr21) dX5_readMotion_97 (fun M23 => ?_)
      refine re_aload_n X dX5_readMotion_98 rfl rfl ?_
      refine re_ldcS (k := 12) (tx := "pass") X (by decide +kernel) dX5_readMotion_99 ?_
      refine re_callVv X (lk_X5_expectWord l w 12 ho (by decide)) (ca_X5_expectWord (by decide) (by decide)) ml_RX5_112 im_X5_expectWord se_X5_expectWord cl_5 ho rfl rfl rfl (zle rfl) zRo dX5_readMotion_101 (fun r25 M26 hr25 => ?_)
      refine re_aload_n X dX5_readMotion_104 rfl rfl ?_
      refine re_getR X cl_5 (by decide) fl_RX5_15 ho rfl (zR_5_1 ho) dX5_readMotion_105 ?_
      refine re_getR X cl_6 (by decide) fl_RX5_132 (zQ_5_1 X.clo ho) rfl (zR_6_1 (zQ_5_1 X.clo ho)) dX5_readMotion_108 ?_
      refine re_iload_n X dX5_readMotion_111 rfl rfl ?_
      refine re_aload_n X dX5_readMotion_112 rfl rfl ?_
      refine re_callVi X (lk_X5_readWay l w ho) (ca_X5_readWay (by decide) (by decide)) ml_RX5_135 im_X5_readWay se_X5_readWay cl_5 ho rfl rfl rfl (zle rfl) zRo dX5_readMotion_113 (fun r27 M28 hr27 => ?_)
      refine re_ck (fun hi30 => ?_)
      refine re_iast X (zQ_6_1 X.clo (zQ_5_1 X.clo ho)) hi30 (j := zIx r3) rfl dX5_readMotion_116 (fun M29 => ?_)
      exact re_vret X dX5_readMotion_117
    · refine re_aload_n X dX5_readMotion_39 rfl rfl ?_
      refine re_iconst (v := 3) X dX5_readMotion_40 (by decide) ?_
      refine re_iload_n X dX5_readMotion_41 rfl rfl ?_
      refine re_callVv X (lk_X5_fail l w 3 (M2 13 2) ho) (ca_X5_fail (by decide) (by decide)) ml_RX5_96 im_X5_fail se_X5_fail cl_5 ho rfl rfl rfl (zle rfl) zRo dX5_readMotion_42 (fun r31 M32 hr31 => ?_)
      exact re_vret X dX5_readMotion_45
theorem ca_X5_readMotion {R : Room} (h1 : rm_X5_readMotion.frames + 1 ≤ R.frames) (h2 : 8 + (3 + 11) + rm_X5_readMotion.locals ≤ R.locals) : zCa yX5_readMotion cX5_readMotion 3 none rm_X5_readMotion R 0 := ⟨cd_X5_readMotion, iz_RX5, ⟨by decide, by decide, by decide⟩, rfl, rfl, h1, h2⟩
/-! DebateHouse$Reader.tellOnce -/
abbrev rm_X5_tellOnce : Room := { frames := 1, cells := 0, slots := 0, locals := 22 }
def f_X5_tellOnce (u1 : Int32) (u2 : Int32) (M : zMem) : zTr := if ((M 13 4) &&& u1) = 0 then zLt (zUp M 13 4 ((M 13 4) ||| u1)) (fun M1 => some (0, M1)) else zBd (f_X5_fail 3 u2 M) (fun _ M3 => zLt (zUp M3 13 4 ((M3 13 4) ||| u1)) (fun M4 => some (0, M4)))
set_option maxRecDepth 100000 in
theorem lk_X5_tellOnce (l : Launch) (w : zWD) (u1 : Int32) (u2 : Int32) (ho : zKd w 13 = (5, 5)) : zMt l w yX5_tellOnce cX5_tellOnce 3 none rm_X5_tellOnce 0 [.ref (zA w 13), .int u1, .int u2] (fun M => f_X5_tellOnce u1 u2 M) := by
  refine zMt.of (by decide) [some (.ref (zA w 13)), some (.int u1), some (.int u2)] rfl (zle rfl) (by intro v hv; simp only [List.mem_cons, List.not_mem_nil, or_false] at hv; rcases hv with rfl | rfl | rfl <;> rfl) ?_
  intro p e s m args below meth c X M
  unfold f_X5_tellOnce
  refine re_aload_n X dX5_tellOnce_0 rfl rfl ?_
  refine re_getI X cl_5 (by decide) fl_RX5_26 ho rfl dX5_tellOnce_1 ?_
  refine re_iload_n X dX5_tellOnce_4 rfl rfl ?_
  refine re_iand X dX5_tellOnce_5 ?_
  refine re_if_eq (tgt := 15) X dX5_tellOnce_6 (by decide) (fun _ => ?_) (fun _ => ?_)
  · refine re_aload_n X dX5_tellOnce_15 rfl rfl ?_
    refine re_dup X dX5_tellOnce_16 rfl ?_
    refine re_getI X cl_5 (by decide) fl_RX5_26 ho rfl dX5_tellOnce_17 ?_
    refine re_iload_n X dX5_tellOnce_20 rfl rfl ?_
    refine re_ior X dX5_tellOnce_21 ?_
    refine re_putI X cl_5 (by decide) fl_RX5_26 ho rfl rfl rfl dX5_tellOnce_22 (fun M1 => ?_)
    exact re_vret X dX5_tellOnce_25
  · refine re_aload_n X dX5_tellOnce_9 rfl rfl ?_
    refine re_iconst (v := 3) X dX5_tellOnce_10 (by decide) ?_
    refine re_iload_n X dX5_tellOnce_11 rfl rfl ?_
    refine re_callVv X (lk_X5_fail l w 3 u2 ho) (ca_X5_fail (by decide) (by decide)) ml_RX5_96 im_X5_fail se_X5_fail cl_5 ho rfl rfl rfl (zle rfl) zRo dX5_tellOnce_12 (fun r2 M3 hr2 => ?_)
    refine re_aload_n X dX5_tellOnce_15 rfl rfl ?_
    refine re_dup X dX5_tellOnce_16 rfl ?_
    refine re_getI X cl_5 (by decide) fl_RX5_26 ho rfl dX5_tellOnce_17 ?_
    refine re_iload_n X dX5_tellOnce_20 rfl rfl ?_
    refine re_ior X dX5_tellOnce_21 ?_
    refine re_putI X cl_5 (by decide) fl_RX5_26 ho rfl rfl rfl dX5_tellOnce_22 (fun M4 => ?_)
    exact re_vret X dX5_tellOnce_25
theorem ca_X5_tellOnce {R : Room} (h1 : rm_X5_tellOnce.frames + 1 ≤ R.frames) (h2 : 8 + (3 + 11) + rm_X5_tellOnce.locals ≤ R.locals) : zCa yX5_tellOnce cX5_tellOnce 3 none rm_X5_tellOnce R 2 := ⟨cd_X5_tellOnce, iz_RX5, ⟨by decide, by decide, by decide⟩, rfl, rfl, h1, h2⟩
/-! DebateHouse$Reader.readChoice -/
abbrev rm_X5_readChoice : Room := { frames := 6, cells := 0, slots := 0, locals := 129 }
def f_X5_readChoice (u1 : Int32) (u2 : Int32) (M : zMem) : zTr := zBd (f_X5_tookWord u1 M) (fun r1 M2 => if r1 = 0 then zBd (f_X5_expectWord u2 M2) (fun _ M4 => some (0, M4)) else some (1, M2))
set_option maxRecDepth 100000 in
theorem lk_X5_readChoice (l : Launch) (w : zWD) (u1 : Int32) (u2 : Int32) (ho : zKd w 13 = (5, 5)) (hu1 : zIx u1 < zNS) (hu2 : zIx u2 < zNS) : zMt l w yX5_readChoice cX5_readChoice 3 (some .boolean) rm_X5_readChoice 2 [.ref (zA w 13), .ref (zK w (zIx u1)), .ref (zK w (zIx u2))] (fun M => f_X5_readChoice u1 u2 M) := by
  refine zMt.of (by decide) [some (.ref (zA w 13)), some (.ref (zK w (zIx u1))), some (.ref (zK w (zIx u2)))] rfl (zle rfl) (by intro v hv; simp only [List.mem_cons, List.not_mem_nil, or_false] at hv; rcases hv with rfl | rfl | rfl <;> rfl) ?_
  intro p e s m args below meth c X M
  unfold f_X5_readChoice
  refine re_aload_n X dX5_readChoice_0 rfl rfl ?_
  refine re_aload_n X dX5_readChoice_1 rfl rfl ?_
  refine re_callVz X (lk_X5_tookWord l w u1 ho hu1) (ca_X5_tookWord (by decide) (by decide)) ml_RX5_50 im_X5_tookWord se_X5_tookWord cl_5 ho rfl rfl rfl (zle rfl) zRo dX5_readChoice_2 (fun r1 M2 hr1 => ?_)
  refine re_if_eq (tgt := 10) X dX5_readChoice_5 (by decide) (fun _ => ?_) (fun _ => ?_)
  · refine re_aload_n X dX5_readChoice_10 rfl rfl ?_
    refine re_aload_n X dX5_readChoice_11 rfl rfl ?_
    refine re_callVv X (lk_X5_expectWord l w u2 ho hu2) (ca_X5_expectWord (by decide) (by decide)) ml_RX5_112 im_X5_expectWord se_X5_expectWord cl_5 ho rfl rfl rfl (zle rfl) zRo dX5_readChoice_12 (fun r3 M4 hr3 => ?_)
    refine re_iconst (v := 0) X dX5_readChoice_15 (by decide) ?_
    exact re_zret X (Or.inl rfl) dX5_readChoice_16
  · refine re_iconst (v := 1) X dX5_readChoice_8 (by decide) ?_
    exact re_zret X (Or.inr rfl) dX5_readChoice_9
theorem ca_X5_readChoice {R : Room} (h1 : rm_X5_readChoice.frames + 1 ≤ R.frames) (h2 : 8 + (3 + 11) + rm_X5_readChoice.locals ≤ R.locals) : zCa yX5_readChoice cX5_readChoice 3 (some .boolean) rm_X5_readChoice R 2 := ⟨cd_X5_readChoice, iz_RX5, ⟨by decide, by decide, by decide⟩, rfl, rfl, h1, h2⟩
/-! DebateHouse$Reader.readClause -/
abbrev rm_X5_readClause : Room := { frames := 7, cells := 0, slots := 0, locals := 151 }
def f_X5_readClause  (M : zMem) : zTr := zBd (f_X5_tookWord 0 M) (fun r1 M2 => if r1 = 0 then zBd (f_X5_tookWord 17 M2) (fun r3 M4 => if r3 = 0 then zBd (f_X5_tookWord 18 M4) (fun r5 M6 => if r5 = 0 then zBd (f_X5_tookWord 19 M6) (fun r7 M8 => if r7 = 0 then zBd (f_X5_tookWord 22 M8) (fun r9 M10 => if r9 = 0 then zBd (f_X5_fail 1 (M 13 2) M10) (fun _ M12 => some (0, M12)) else zBd (f_X5_tellOnce 8 (M 13 2) M10) (fun _ M14 => zBd (f_X5_readChoice 23 24 M14) (fun r15 M16 => zLt (zUp M16 8 7 r15) (fun M17 => some (0, M17))))) else zBd (f_X5_tellOnce 4 (M 13 2) M8) (fun _ M19 => zBd (f_X5_readChoice 20 21 M19) (fun r20 M21 => zLt (zUp M21 8 6 r20) (fun M22 => some (0, M22))))) else zBd (f_X5_tellOnce 2 (M 13 2) M6) (fun _ M24 => zBd (f_X5_readNumber 0 24 M24) (fun r25 M26 => zLt (zUp M26 8 5 r25) (fun M27 => some (0, M27))))) else zBd (f_X5_tellOnce 1 (M 13 2) M4) (fun _ M29 => zBd (f_X5_readNumber 1 9999 M29) (fun r30 M31 => zLt (zUp M31 8 4 r30) (fun M32 => some (0, M32))))) else zBd (f_X5_readMotion M2) (fun _ M34 => some (0, M34)))
set_option maxRecDepth 100000 in
theorem lk_X5_readClause (l : Launch) (w : zWD)  (ho : zKd w 13 = (5, 5)) : zMt l w yX5_readClause cX5_readClause 2 none rm_X5_readClause 0 [.ref (zA w 13)] (fun M => f_X5_readClause M) := by
  refine zMt.of (by decide) [some (.ref (zA w 13)), none] rfl (zle rfl) (by intro v hv; simp only [List.mem_cons, List.not_mem_nil, or_false] at hv; rcases hv with rfl <;> rfl) ?_
  intro p e s m args below meth c X M
  unfold f_X5_readClause
  refine re_aload_n X dX5_readClause_0 rfl rfl ?_
  refine re_getI X cl_5 (by decide) fl_RX5_19 ho rfl dX5_readClause_1 ?_
  refine re_istore_n (lv' := [some (.ref (zA w 13)), some (.int (M 13 2))]) X dX5_readClause_4 rfl (zlt rfl) rfl ?_
  refine re_aload_n X dX5_readClause_5 rfl rfl ?_
  refine re_ldcS (k := 0) (tx := "motion") X (by decide +kernel) dX5_readClause_6 ?_
  refine re_callVz X (lk_X5_tookWord l w 0 ho (by decide)) (ca_X5_tookWord (by decide) (by decide)) ml_RX5_50 im_X5_tookWord se_X5_tookWord cl_5 ho rfl rfl rfl (zle rfl) zRo dX5_readClause_8 (fun r1 M2 hr1 => ?_)
  refine re_if_eq (tgt := 21) X dX5_readClause_11 (by decide) (fun _ => ?_) (fun _ => ?_)
  · refine re_aload_n X dX5_readClause_21 rfl rfl ?_
    refine re_ldcS (k := 17) (tx := "time") X (by decide +kernel) dX5_readClause_22 ?_
    refine re_callVz X (lk_X5_tookWord l w 17 ho (by decide)) (ca_X5_tookWord (by decide) (by decide)) ml_RX5_50 im_X5_tookWord se_X5_tookWord cl_5 ho rfl rfl rfl (zle rfl) zRo dX5_readClause_24 (fun r3 M4 hr3 => ?_)
    refine re_if_eq (tgt := 54) X dX5_readClause_27 (by decide) (fun _ => ?_) (fun _ => ?_)
    · refine re_aload_n X dX5_readClause_54 rfl rfl ?_
      refine re_ldcS (k := 18) (tx := "quorum") X (by decide +kernel) dX5_readClause_55 ?_
      refine re_callVz X (lk_X5_tookWord l w 18 ho (by decide)) (ca_X5_tookWord (by decide) (by decide)) ml_RX5_50 im_X5_tookWord se_X5_tookWord cl_5 ho rfl rfl rfl (zle rfl) zRo dX5_readClause_57 (fun r5 M6 hr5 => ?_)
      refine re_if_eq (tgt := 86) X dX5_readClause_60 (by decide) (fun _ => ?_) (fun _ => ?_)
      · refine re_aload_n X dX5_readClause_86 rfl rfl ?_
        refine re_ldcS (k := 19) (tx := "turns") X (by decide +kernel) dX5_readClause_87 ?_
        refine re_callVz X (lk_X5_tookWord l w 19 ho (by decide)) (ca_X5_tookWord (by decide) (by decide)) ml_RX5_50 im_X5_tookWord se_X5_tookWord cl_5 ho rfl rfl rfl (zle rfl) zRo dX5_readClause_89 (fun r7 M8 hr7 => ?_)
        refine re_if_eq (tgt := 119) X dX5_readClause_92 (by decide) (fun _ => ?_) (fun _ => ?_)
        · refine re_aload_n X dX5_readClause_119 rfl rfl ?_
          refine re_ldcS (k := 22) (tx := "yields") X (by decide +kernel) dX5_readClause_120 ?_
          refine re_callVz X (lk_X5_tookWord l w 22 ho (by decide)) (ca_X5_tookWord (by decide) (by decide)) ml_RX5_50 im_X5_tookWord se_X5_tookWord cl_5 ho rfl rfl rfl (zle rfl) zRo dX5_readClause_122 (fun r9 M10 hr9 => ?_)
          refine re_if_eq (tgt := 153) X dX5_readClause_125 (by decide) (fun _ => ?_) (fun _ => ?_)
          · refine re_aload_n X dX5_readClause_153 rfl rfl ?_
            refine re_iconst (v := 1) X dX5_readClause_154 (by decide) ?_
            refine re_iload_n X dX5_readClause_155 rfl rfl ?_
            refine re_callVv X (lk_X5_fail l w 1 (M 13 2) ho) (ca_X5_fail (by decide) (by decide)) ml_RX5_96 im_X5_fail se_X5_fail cl_5 ho rfl rfl rfl (zle rfl) zRo dX5_readClause_156 (fun r11 M12 hr11 => ?_)
            exact re_vret X dX5_readClause_159
          · refine re_aload_n X dX5_readClause_128 rfl rfl ?_
            refine re_bipush (v := 8) X dX5_readClause_129 (by decide) ?_
            refine re_iload_n X dX5_readClause_131 rfl rfl ?_
            refine re_callVv X (lk_X5_tellOnce l w 8 (M 13 2) ho) (ca_X5_tellOnce (by decide) (by decide)) ml_RX5_59 im_X5_tellOnce se_X5_tellOnce cl_5 ho rfl rfl rfl (zle rfl) zRo dX5_readClause_132 (fun r13 M14 hr13 => ?_)
            refine re_aload_n X dX5_readClause_135 rfl rfl ?_
            refine re_getR X cl_5 (by decide) fl_RX5_15 ho rfl (zR_5_1 ho) dX5_readClause_136 ?_
            refine re_aload_n X dX5_readClause_139 rfl rfl ?_
            refine re_ldcS (k := 23) (tx := "yes") X (by decide +kernel) dX5_readClause_140 ?_
            refine re_ldcS (k := 24) (tx := "no") X (by decide +kernel) dX5_readClause_142 ?_
            refine re_callVz X (lk_X5_readChoice l w 23 24 ho (by decide) (by decide)) (ca_X5_readChoice (by decide) (by decide)) ml_RX5_79 im_X5_readChoice se_X5_readChoice cl_5 ho rfl rfl rfl (zle rfl) zRo dX5_readClause_144 (fun r15 M16 hr15 => ?_)
            refine re_putZ X cl_6 (by decide) fl_RX5_93 (zQ_5_1 X.clo ho) rfl rfl rfl hr15 dX5_readClause_147 (fun M17 => ?_)
            refine re_goto (tgt := 159) X dX5_readClause_150 (by decide) ?_
            exact re_vret X dX5_readClause_159
        · refine re_aload_n X dX5_readClause_95 rfl rfl ?_
          refine re_iconst (v := 4) X dX5_readClause_96 (by decide) ?_
          refine re_iload_n X dX5_readClause_97 rfl rfl ?_
          refine re_callVv X (lk_X5_tellOnce l w 4 (M 13 2) ho) (ca_X5_tellOnce (by decide) (by decide)) ml_RX5_59 im_X5_tellOnce se_X5_tellOnce cl_5 ho rfl rfl rfl (zle rfl) zRo dX5_readClause_98 (fun r18 M19 hr18 => ?_)
          refine re_aload_n X dX5_readClause_101 rfl rfl ?_
          refine re_getR X cl_5 (by decide) fl_RX5_15 ho rfl (zR_5_1 ho) dX5_readClause_102 ?_
          refine re_aload_n X dX5_readClause_105 rfl rfl ?_
          refine re_ldcS (k := 20) (tx := "schools") X (by decide +kernel) dX5_readClause_106 ?_
          refine re_ldcS (k := 21) (tx := "members") X (by decide +kernel) dX5_readClause_108 ?_
          refine re_callVz X (lk_X5_readChoice l w 20 21 ho (by decide) (by decide)) (ca_X5_readChoice (by decide) (by decide)) ml_RX5_79 im_X5_readChoice se_X5_readChoice cl_5 ho rfl rfl rfl (zle rfl) zRo dX5_readClause_110 (fun r20 M21 hr20 => ?_)
          refine re_putZ X cl_6 (by decide) fl_RX5_83 (zQ_5_1 X.clo ho) rfl rfl rfl hr20 dX5_readClause_113 (fun M22 => ?_)
          refine re_goto (tgt := 159) X dX5_readClause_116 (by decide) ?_
          exact re_vret X dX5_readClause_159
      · refine re_aload_n X dX5_readClause_63 rfl rfl ?_
        refine re_iconst (v := 2) X dX5_readClause_64 (by decide) ?_
        refine re_iload_n X dX5_readClause_65 rfl rfl ?_
        refine re_callVv X (lk_X5_tellOnce l w 2 (M 13 2) ho) (ca_X5_tellOnce (by decide) (by decide)) ml_RX5_59 im_X5_tellOnce se_X5_tellOnce cl_5 ho rfl rfl rfl (zle rfl) zRo dX5_readClause_66 (fun r23 M24 hr23 => ?_)
        refine re_aload_n X dX5_readClause_69 rfl rfl ?_
        refine re_getR X cl_5 (by decide) fl_RX5_15 ho rfl (zR_5_1 ho) dX5_readClause_70 ?_
        refine re_aload_n X dX5_readClause_73 rfl rfl ?_
        refine re_iconst (v := 0) X dX5_readClause_74 (by decide) ?_
        refine re_bipush (v := 24) X dX5_readClause_75 (by decide) ?_
        refine re_callVi X (lk_X5_readNumber l w 0 24 ho) (ca_X5_readNumber (by decide) (by decide)) ml_RX5_63 im_X5_readNumber se_X5_readNumber cl_5 ho rfl rfl rfl (zle rfl) zRo dX5_readClause_77 (fun r25 M26 hr25 => ?_)
        refine re_putI X cl_6 (by decide) fl_RX5_71 (zQ_5_1 X.clo ho) rfl rfl rfl dX5_readClause_80 (fun M27 => ?_)
        refine re_goto (tgt := 159) X dX5_readClause_83 (by decide) ?_
        exact re_vret X dX5_readClause_159
    · refine re_aload_n X dX5_readClause_30 rfl rfl ?_
      refine re_iconst (v := 1) X dX5_readClause_31 (by decide) ?_
      refine re_iload_n X dX5_readClause_32 rfl rfl ?_
      refine re_callVv X (lk_X5_tellOnce l w 1 (M 13 2) ho) (ca_X5_tellOnce (by decide) (by decide)) ml_RX5_59 im_X5_tellOnce se_X5_tellOnce cl_5 ho rfl rfl rfl (zle rfl) zRo dX5_readClause_33 (fun r28 M29 hr28 => ?_)
      refine re_aload_n X dX5_readClause_36 rfl rfl ?_
      refine re_getR X cl_5 (by decide) fl_RX5_15 ho rfl (zR_5_1 ho) dX5_readClause_37 ?_
      refine re_aload_n X dX5_readClause_40 rfl rfl ?_
      refine re_iconst (v := 1) X dX5_readClause_41 (by decide) ?_
      refine re_sipush (v := 9999) X dX5_readClause_42 (by decide) ?_
      refine re_callVi X (lk_X5_readNumber l w 1 9999 ho) (ca_X5_readNumber (by decide) (by decide)) ml_RX5_63 im_X5_readNumber se_X5_readNumber cl_5 ho rfl rfl rfl (zle rfl) zRo dX5_readClause_45 (fun r30 M31 hr30 => ?_)
      refine re_putI X cl_6 (by decide) fl_RX5_67 (zQ_5_1 X.clo ho) rfl rfl rfl dX5_readClause_48 (fun M32 => ?_)
      refine re_goto (tgt := 159) X dX5_readClause_51 (by decide) ?_
      exact re_vret X dX5_readClause_159
  · refine re_aload_n X dX5_readClause_14 rfl rfl ?_
    refine re_callVv X (lk_X5_readMotion l w ho) (ca_X5_readMotion (by decide) (by decide)) ml_RX5_54 im_X5_readMotion se_X5_readMotion cl_5 ho rfl rfl rfl (zle rfl) zRo dX5_readClause_15 (fun r33 M34 hr33 => ?_)
    refine re_goto (tgt := 159) X dX5_readClause_18 (by decide) ?_
    exact re_vret X dX5_readClause_159
theorem ca_X5_readClause {R : Room} (h1 : rm_X5_readClause.frames + 1 ≤ R.frames) (h2 : 8 + (2 + 11) + rm_X5_readClause.locals ≤ R.locals) : zCa yX5_readClause cX5_readClause 2 none rm_X5_readClause R 0 := ⟨cd_X5_readClause, iz_RX5, ⟨by decide, by decide, by decide⟩, rfl, rfl, h1, h2⟩
/-! DebateHouse$Reader.expectSemicolon -/
abbrev rm_X5_expectSemicolon : Room := { frames := 2, cells := 0, slots := 0, locals := 41 }
def f_X5_expectSemicolon  (M : zMem) : zTr := zBd (f_X5_skipBlanks M) (fun _ M2 => zBd (f_X8_byteAt (M2 13 2) M2) (fun r3 M4 => if r3 = 59 then zLt (zUp M4 13 2 ((M4 13 2) + 1)) (fun M5 => some (0, M5)) else zBd (f_X5_fail 1 (M4 13 2) M4) (fun _ M7 => some (0, M7))))
set_option maxRecDepth 100000 in
theorem lk_X5_expectSemicolon (l : Launch) (w : zWD)  (ho : zKd w 13 = (5, 5)) : zMt l w yX5_expectSemicolon cX5_expectSemicolon 1 none rm_X5_expectSemicolon 0 [.ref (zA w 13)] (fun M => f_X5_expectSemicolon M) := by
  refine zMt.of (by decide) [some (.ref (zA w 13))] rfl (zle rfl) (by intro v hv; simp only [List.mem_cons, List.not_mem_nil, or_false] at hv; rcases hv with rfl <;> rfl) ?_
  intro p e s m args below meth c X M
  unfold f_X5_expectSemicolon
  refine re_aload_n X dX5_expectSemicolon_0 rfl rfl ?_
  refine re_callVv X (lk_X5_skipBlanks l w ho) (ca_X5_skipBlanks (by decide) (by decide)) ml_RX5_34 im_X5_skipBlanks se_X5_skipBlanks cl_5 ho rfl rfl rfl (zle rfl) zRo dX5_expectSemicolon_1 (fun r1 M2 hr1 => ?_)
  refine re_aload_n X dX5_expectSemicolon_4 rfl rfl ?_
  refine re_getR X cl_5 (by decide) fl_RX5_9 ho rfl (zR_5_0 ho) dX5_expectSemicolon_5 ?_
  refine re_aload_n X dX5_expectSemicolon_8 rfl rfl ?_
  refine re_getI X cl_5 (by decide) fl_RX5_19 ho rfl dX5_expectSemicolon_9 ?_
  refine re_callVi X (lk_X8_byteAt l w (M2 13 2) (zQ_5_0 X.clo ho)) (ca_X8_byteAt (by decide) (by decide)) ml_RX5_145 im_X8_byteAt se_X8_byteAt cl_8 (zQ_5_0 X.clo ho) rfl rfl rfl (zle rfl) zRo dX5_expectSemicolon_12 (fun r3 M4 hr3 => ?_)
  refine re_bipush (v := 59) X dX5_expectSemicolon_15 (by decide) ?_
  refine re_icmp_ne (tgt := 33) X dX5_expectSemicolon_17 (by decide) (fun _ => ?_) (fun _ => ?_)
  · refine re_aload_n X dX5_expectSemicolon_20 rfl rfl ?_
    refine re_dup X dX5_expectSemicolon_21 rfl ?_
    refine re_getI X cl_5 (by decide) fl_RX5_19 ho rfl dX5_expectSemicolon_22 ?_
    refine re_iconst (v := 1) X dX5_expectSemicolon_25 (by decide) ?_
    refine re_iadd X dX5_expectSemicolon_26 ?_
    refine re_putI X cl_5 (by decide) fl_RX5_19 ho rfl rfl rfl dX5_expectSemicolon_27 (fun M5 => ?_)
    refine re_goto (tgt := 42) X dX5_expectSemicolon_30 (by decide) ?_
    exact re_vret X dX5_expectSemicolon_42
  · refine re_aload_n X dX5_expectSemicolon_33 rfl rfl ?_
    refine re_iconst (v := 1) X dX5_expectSemicolon_34 (by decide) ?_
    refine re_aload_n X dX5_expectSemicolon_35 rfl rfl ?_
    refine re_getI X cl_5 (by decide) fl_RX5_19 ho rfl dX5_expectSemicolon_36 ?_
    refine re_callVv X (lk_X5_fail l w 1 (M4 13 2) ho) (ca_X5_fail (by decide) (by decide)) ml_RX5_96 im_X5_fail se_X5_fail cl_5 ho rfl rfl rfl (zle rfl) zRo dX5_expectSemicolon_39 (fun r6 M7 hr6 => ?_)
    exact re_vret X dX5_expectSemicolon_42
theorem ca_X5_expectSemicolon {R : Room} (h1 : rm_X5_expectSemicolon.frames + 1 ≤ R.frames) (h2 : 8 + (1 + 11) + rm_X5_expectSemicolon.locals ≤ R.locals) : zCa yX5_expectSemicolon cX5_expectSemicolon 1 none rm_X5_expectSemicolon R 0 := ⟨cd_X5_expectSemicolon, iz_RX5, ⟨by decide, by decide, by decide⟩, rfl, rfl, h1, h2⟩
/-! DebateHouse$Reader.readTape -/
abbrev rm_X5_readTape : Room := { frames := 8, cells := 0, slots := 0, locals := 172 }
def f_X5_readTape_L28   : Nat → Int32 → zMem → zTr
  | 0, _, _ => none
  | n + 1, x1, M => if 600 ≤ x1 then some (M 13 3, M) else if (M 13 3) = 0 then (if (M 1 1) ≤ (M 13 2) then some (M 13 3, M) else zBd (f_X5_readClause M) (fun _ M9 => zBd (f_X5_expectSemicolon M9) (fun _ M11 => zBd (f_X5_skipBlanks M11) (fun _ M13 => f_X5_readTape_L28 n (x1 + 1) M13)))) else some (M 13 3, M)
def f_X5_readTape  (M : zMem) : zTr := zLt (zUp M 13 2 0) (fun M1 => zLt (zUp M1 13 3 0) (fun M2 => zLt (zUp M2 13 4 0) (fun M3 => zBd (f_X6_clear 8 M3) (fun _ M5 => zBd (f_X5_skipBlanks M5) (fun _ M7 => f_X5_readTape_L28 zFu 0 M7)))))
set_option maxRecDepth 100000 in
theorem lb_X5_readTape_28 {p : Program} {l : Launch} {e : Env} {s : State} {m : MethodId} {args : Array Value} {below : List Frame} {meth : Method} {c : Code} {w : zWD} (X : zCx p s m args meth c w (zFree w) RX5 cX5_readTape 2 (some .int)) (ho : zKd w 13 = (5, 5)) : ∀ (n : Nat) (x1 : Int32) (M : zMem), zRm p l e rm_X5_readTape s m args below meth c w 1 28 [some (.ref (zA w 13)), some (.int x1)] [] M (f_X5_readTape_L28 n x1 M) := by
  intro n
  induction n with
  | zero => intro x1 M; exact re_none
  | succ n ih =>
    intro x1 M
    rw [f_X5_readTape_L28]
    refine re_iload_n X dX5_readTape_28 rfl rfl ?_
    refine re_sipush (v := 600) X dX5_readTape_29 (by decide) ?_
    refine re_icmp_ge (tgt := 74) X dX5_readTape_32 (by decide) (fun _ => ?_) (fun _ => ?_)
    · refine re_aload_n X dX5_readTape_74 rfl rfl ?_
      refine re_getI X cl_5 (by decide) fl_RX5_23 ho rfl dX5_readTape_75 ?_
      exact re_iret X dX5_readTape_78
    · refine re_aload_n X dX5_readTape_35 rfl rfl ?_
      refine re_getI X cl_5 (by decide) fl_RX5_23 ho rfl dX5_readTape_36 ?_
      refine re_if_ne (tgt := 74) X dX5_readTape_39 (by decide) (fun _ => ?_) (fun _ => ?_)
      · refine re_aload_n X dX5_readTape_42 rfl rfl ?_
        refine re_getI X cl_5 (by decide) fl_RX5_19 ho rfl dX5_readTape_43 ?_
        refine re_aload_n X dX5_readTape_46 rfl rfl ?_
        refine re_getR X cl_5 (by decide) fl_RX5_9 ho rfl (zR_5_0 ho) dX5_readTape_47 ?_
        refine re_getI X cl_8 (by decide) fl_RX5_37 (zQ_5_0 X.clo ho) rfl dX5_readTape_50 ?_
        refine re_icmp_ge (tgt := 74) X dX5_readTape_53 (by decide) (fun _ => ?_) (fun _ => ?_)
        · refine re_aload_n X dX5_readTape_74 rfl rfl ?_
          refine re_getI X cl_5 (by decide) fl_RX5_23 ho rfl dX5_readTape_75 ?_
          exact re_iret X dX5_readTape_78
        · refine re_aload_n X dX5_readTape_56 rfl rfl ?_
          refine re_callVv X (lk_X5_readClause l w ho) (ca_X5_readClause (by decide) (by decide)) ml_RX5_42 im_X5_readClause se_X5_readClause cl_5 ho rfl rfl rfl (zle rfl) zRo dX5_readTape_57 (fun r8 M9 hr8 => ?_)
          refine re_aload_n X dX5_readTape_60 rfl rfl ?_
          refine re_callVv X (lk_X5_expectSemicolon l w ho) (ca_X5_expectSemicolon (by decide) (by decide)) ml_RX5_45 im_X5_expectSemicolon se_X5_expectSemicolon cl_5 ho rfl rfl rfl (zle rfl) zRo dX5_readTape_61 (fun r10 M11 hr10 => ?_)
          refine re_aload_n X dX5_readTape_64 rfl rfl ?_
          refine re_callVv X (lk_X5_skipBlanks l w ho) (ca_X5_skipBlanks (by decide) (by decide)) ml_RX5_34 im_X5_skipBlanks se_X5_skipBlanks cl_5 ho rfl rfl rfl (zle rfl) zRo dX5_readTape_65 (fun r12 M13 hr12 => ?_)
          refine re_iinc (v := 1) (lv' := [some (.ref (zA w 13)), some (.int (x1 + 1))]) X dX5_readTape_68 rfl (by decide) rfl ?_
          refine re_goto (tgt := 28) X dX5_readTape_71 (by decide) ?_
          exact ih (x1 + 1) M13
      · refine re_aload_n X dX5_readTape_74 rfl rfl ?_
        refine re_getI X cl_5 (by decide) fl_RX5_23 ho rfl dX5_readTape_75 ?_
        exact re_iret X dX5_readTape_78

set_option maxRecDepth 100000 in
theorem lk_X5_readTape (l : Launch) (w : zWD)  (ho : zKd w 13 = (5, 5)) : zMt l w yX5_readTape cX5_readTape 2 (some .int) rm_X5_readTape 1 [.ref (zA w 13)] (fun M => f_X5_readTape M) := by
  refine zMt.of (by decide) [some (.ref (zA w 13)), none] rfl (zle rfl) (by intro v hv; simp only [List.mem_cons, List.not_mem_nil, or_false] at hv; rcases hv with rfl <;> rfl) ?_
  intro p e s m args below meth c X M
  unfold f_X5_readTape
  refine re_aload_n X dX5_readTape_0 rfl rfl ?_
  refine re_iconst (v := 0) X dX5_readTape_1 (by decide) ?_
  refine re_putI X cl_5 (by decide) fl_RX5_19 ho rfl rfl rfl dX5_readTape_2 (fun M1 => ?_)
  refine re_aload_n X dX5_readTape_5 rfl rfl ?_
  refine re_iconst (v := 0) X dX5_readTape_6 (by decide) ?_
  refine re_putI X cl_5 (by decide) fl_RX5_23 ho rfl rfl rfl dX5_readTape_7 (fun M2 => ?_)
  refine re_aload_n X dX5_readTape_10 rfl rfl ?_
  refine re_iconst (v := 0) X dX5_readTape_11 (by decide) ?_
  refine re_putI X cl_5 (by decide) fl_RX5_26 ho rfl rfl rfl dX5_readTape_12 (fun M3 => ?_)
  refine re_aload_n X dX5_readTape_15 rfl rfl ?_
  refine re_getR X cl_5 (by decide) fl_RX5_15 ho rfl (zR_5_1 ho) dX5_readTape_16 ?_
  refine re_callVv X (lk_X6_clear l w 8 (zQ_5_1 X.clo ho)) (ca_X6_clear (by decide) (by decide)) ml_RX5_29 im_X6_clear se_X6_clear cl_6 (zQ_5_1 X.clo ho) rfl rfl rfl (zle rfl) zRo dX5_readTape_19 (fun r4 M5 hr4 => ?_)
  refine re_aload_n X dX5_readTape_22 rfl rfl ?_
  refine re_callVv X (lk_X5_skipBlanks l w ho) (ca_X5_skipBlanks (by decide) (by decide)) ml_RX5_34 im_X5_skipBlanks se_X5_skipBlanks cl_5 ho rfl rfl rfl (zle rfl) zRo dX5_readTape_23 (fun r6 M7 hr6 => ?_)
  refine re_iconst (v := 0) X dX5_readTape_26 (by decide) ?_
  refine re_istore_n (lv' := [some (.ref (zA w 13)), some (.int 0)]) X dX5_readTape_27 rfl (zlt rfl) rfl ?_
  exact lb_X5_readTape_28 X ho zFu 0 M7
theorem ca_X5_readTape {R : Room} (h1 : rm_X5_readTape.frames + 1 ≤ R.frames) (h2 : 8 + (2 + 11) + rm_X5_readTape.locals ≤ R.locals) : zCa yX5_readTape cX5_readTape 2 (some .int) rm_X5_readTape R 0 := ⟨cd_X5_readTape, iz_RX5, ⟨by decide, by decide, by decide⟩, rfl, rfl, h1, h2⟩
