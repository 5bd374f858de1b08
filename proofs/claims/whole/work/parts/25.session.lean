/-! DebateHouse$Session.startAnew -/
abbrev rm_X7_startAnew : Room := { frames := 2, cells := 0, slots := 0, locals := 41 }
def f_X7_startAnew (o : Nat) (M : zMem) : zTr := zBd (f_X0_clear (o + 1) M) (fun _ M2 => zLt (zUp M2 (o + 4) 8 0) (fun M3 => zBd (f_X4_takeAway (o + 12) M3) (fun _ M5 => zLt (zUp M5 o 9 0) (fun M6 => zLt (zUp M6 o 10 (-1)) (fun M7 => zLt (zUp M7 o 11 0) (fun M8 => zLt (zUp M8 o 12 (M8 3 4)) (fun M9 => zLt (zUp M9 o 13 0) (fun M10 => zLt (zUp M10 o 14 0) (fun M11 => zLt (zUp M11 o 15 0) (fun M12 => some (0, M12)))))))))))
set_option maxRecDepth 100000 in
theorem lk_X7_startAnew (l : Launch) (w : zWD) (o : Nat) (ho : zKd w o = (7, 16)) : zMt l w yX7_startAnew cX7_startAnew 1 none rm_X7_startAnew 0 [.ref (zA w o)] (fun M => f_X7_startAnew o M) := by
  refine zMt.of (by decide) [some (.ref (zA w o))] rfl (zle rfl) (by intro v hv; simp only [List.mem_cons, List.not_mem_nil, or_false] at hv; rcases hv with rfl <;> rfl) ?_
  intro p e s m args below meth c X M
  unfold f_X7_startAnew
  refine re_aload_n X dX7_startAnew_0 rfl rfl ?_
  refine re_getR X cl_7 (by decide) fl_RX7_38 ho rfl (zR_7_2 ho) dX7_startAnew_1 ?_
  refine re_callVv X (lk_X0_clear l w (o + 1) (zQ_7_2 X.clo ho)) (ca_X0_clear (by decide) (by decide)) ml_RX7_61 im_X0_clear se_X0_clear cl_0 (zQ_7_2 X.clo ho) rfl rfl rfl (zle rfl) zRo dX7_startAnew_4 (fun r1 M2 hr1 => ?_)
  refine re_aload_n X dX7_startAnew_7 rfl rfl ?_
  refine re_getR X cl_7 (by decide) fl_RX7_47 ho rfl (zR_7_3 ho) dX7_startAnew_8 ?_
  refine re_iconst (v := 0) X dX7_startAnew_11 (by decide) ?_
  refine re_putI X cl_3 (by decide) fl_RX7_64 (zQ_7_3 X.clo ho) rfl rfl rfl dX7_startAnew_12 (fun M3 => ?_)
  refine re_aload_n X dX7_startAnew_15 rfl rfl ?_
  refine re_getR X cl_7 (by decide) fl_RX7_54 ho rfl (zR_7_4 ho) dX7_startAnew_16 ?_
  refine re_callVv X (lk_X4_takeAway l w (o + 12) (zQ_7_4 X.clo ho)) (ca_X4_takeAway (by decide) (by decide)) ml_RX7_68 im_X4_takeAway se_X4_takeAway cl_4 (zQ_7_4 X.clo ho) rfl rfl rfl (zle rfl) zRo dX7_startAnew_19 (fun r4 M5 hr4 => ?_)
  refine re_aload_n X dX7_startAnew_22 rfl rfl ?_
  refine re_iconst (v := 0) X dX7_startAnew_23 (by decide) ?_
  refine re_putI X cl_7 (by decide) fl_RX7_71 ho rfl rfl rfl dX7_startAnew_24 (fun M6 => ?_)
  refine re_aload_n X dX7_startAnew_27 rfl rfl ?_
  refine re_iconst (v := -1) X dX7_startAnew_28 (by decide) ?_
  refine re_putI X cl_7 (by decide) fl_RX7_74 ho rfl rfl rfl dX7_startAnew_29 (fun M7 => ?_)
  refine re_aload_n X dX7_startAnew_32 rfl rfl ?_
  refine re_iconst (v := 0) X dX7_startAnew_33 (by decide) ?_
  refine re_putI X cl_7 (by decide) fl_RX7_77 ho rfl rfl rfl dX7_startAnew_34 (fun M8 => ?_)
  refine re_aload_n X dX7_startAnew_37 rfl rfl ?_
  refine re_aload_n X dX7_startAnew_38 rfl rfl ?_
  refine re_getR X cl_7 (by decide) fl_RX7_25 ho rfl (zR_7_0 ho) dX7_startAnew_39 ?_
  refine re_getI X cl_6 (by decide) fl_RX7_80 (zQ_7_0 X.clo ho) rfl dX7_startAnew_42 ?_
  refine re_putI X cl_7 (by decide) fl_RX7_85 ho rfl rfl rfl dX7_startAnew_45 (fun M9 => ?_)
  refine re_aload_n X dX7_startAnew_48 rfl rfl ?_
  refine re_iconst (v := 0) X dX7_startAnew_49 (by decide) ?_
  refine re_putI X cl_7 (by decide) fl_RX7_86 ho rfl rfl rfl dX7_startAnew_50 (fun M10 => ?_)
  refine re_aload_n X dX7_startAnew_53 rfl rfl ?_
  refine re_iconst (v := 0) X dX7_startAnew_54 (by decide) ?_
  refine re_putI X cl_7 (by decide) fl_RX7_89 ho rfl rfl rfl dX7_startAnew_55 (fun M11 => ?_)
  refine re_aload_n X dX7_startAnew_58 rfl rfl ?_
  refine re_iconst (v := 0) X dX7_startAnew_59 (by decide) ?_
  refine re_putZ X cl_7 (by decide) fl_RX7_92 ho rfl rfl rfl (Or.inl rfl) dX7_startAnew_60 (fun M12 => ?_)
  exact re_vret X dX7_startAnew_63
theorem ca_X7_startAnew {R : Room} (h1 : rm_X7_startAnew.frames + 1 ≤ R.frames) (h2 : 8 + (1 + 11) + rm_X7_startAnew.locals ≤ R.locals) : zCa yX7_startAnew cX7_startAnew 1 none rm_X7_startAnew R 0 := ⟨cd_X7_startAnew, iz_RX7, ⟨by decide, by decide, by decide⟩, rfl, rfl, h1, h2⟩
/-! DebateHouse$Session.numbersAreAsTold -/
abbrev rm_X7_numbersAreAsTold : Room := { frames := 1, cells := 0, slots := 0, locals := 20 }
def f_X7_numbersAreAsTold (o : Nat) (u1 : Int32) (M : zMem) : zTr := zCk (zIn u1 300) (zCk (zIn u1 300) (zCk (zIn u1 300) (if (M 16 (zIx u1)) = 3 then some (1, M) else if (M 16 (zIx u1)) = 4 then (if (M 19 (zIx u1)) < 1 then some (0, M) else if 9999 < (M 19 (zIx u1)) then some (0, M) else some (1, M)) else if (M 16 (zIx u1)) = 5 then zCk (zIn u1 300) (zBd (f_X9_isMember (M 17 (zIx u1)) M) (fun r8 M9 => some (r8, M9))) else if (M 16 (zIx u1)) = 6 then zCk (zIn u1 300) (zBd (f_X9_isMember (M 17 (zIx u1)) M) (fun r12 M13 => if r12 = 0 then some (0, M13) else zCk (zIn u1 300) (zBd (f_X9_isKind (M13 18 (zIx u1)) M13) (fun r15 M16 => if r15 = 0 then some (0, M16) else if (M 19 (zIx u1)) < 0 then some (0, M16) else if 999 < (M 19 (zIx u1)) then some (0, M16) else if (M 20 (zIx u1)) < 0 then some (0, M16) else if 999 < (M 20 (zIx u1)) then some (0, M16) else some (1, M16))))) else if (M 16 (zIx u1)) = 7 then zCk (zIn u1 300) (zBd (f_X9_isMember (M 17 (zIx u1)) M) (fun r19 M20 => some (r19, M20))) else if (M 16 (zIx u1)) = 8 then (if ((M 19 (zIx u1)) &&& (M 20 (zIx u1))) = 0 then (if (((M 19 (zIx u1)) ||| (M 20 (zIx u1))) &&& ((M o 11) ^^^ (-1))) = 0 then some (1, M) else some (0, M)) else some (0, M)) else if (M 16 (zIx u1)) = 9 then (if (M 19 (zIx u1)) = 0 then some (1, M) else if (M 19 (zIx u1)) = 1 then some (1, M) else some (0, M)) else zCk (zIn u1 300) (zBd (f_X9_isMember (M 17 (zIx u1)) M) (fun r24 M25 => some (r24, M25))))))
set_option maxRecDepth 100000 in
theorem lk_X7_numbersAreAsTold (l : Launch) (w : zWD) (o : Nat) (u1 : Int32) (ho : zKd w o = (7, 16)) : zMt l w yX7_numbersAreAsTold cX7_numbersAreAsTold 4 (some .boolean) rm_X7_numbersAreAsTold 2 [.ref (zA w o), .int u1] (fun M => f_X7_numbersAreAsTold o u1 M) := by
  refine zMt.of (by decide) [some (.ref (zA w o)), some (.int u1), none, none] rfl (zle rfl) (by intro v hv; simp only [List.mem_cons, List.not_mem_nil, or_false] at hv; rcases hv with rfl | rfl <;> rfl) ?_
  intro p e s m args below meth c X M
  unfold f_X7_numbersAreAsTold
  refine re_aload_n X dX7_numbersAreAsTold_0 rfl rfl ?_
  refine re_getR X cl_7 (by decide) fl_RX7_29 ho rfl (zR_7_1 ho) dX7_numbersAreAsTold_1 ?_
  refine re_getR X cl_2 (by decide) fl_RX7_159 (zQ_7_1 X.clo ho) rfl (zR_2_3 (zQ_7_1 X.clo ho)) dX7_numbersAreAsTold_4 ?_
  refine re_iload_n X dX7_numbersAreAsTold_7 rfl rfl ?_
  refine re_ck (fun hi1 => ?_)
  refine re_iald X (zQ_2_3 X.clo (zQ_7_1 X.clo ho)) hi1 (j := zIx u1) rfl dX7_numbersAreAsTold_8 ?_
  refine re_istore_n (lv' := [some (.ref (zA w o)), some (.int u1), some (.int (M 19 (zIx u1))), none]) X dX7_numbersAreAsTold_9 rfl (zlt rfl) rfl ?_
  refine re_aload_n X dX7_numbersAreAsTold_10 rfl rfl ?_
  refine re_getR X cl_7 (by decide) fl_RX7_29 ho rfl (zR_7_1 ho) dX7_numbersAreAsTold_11 ?_
  refine re_getR X cl_2 (by decide) fl_RX7_162 (zQ_7_1 X.clo ho) rfl (zR_2_4 (zQ_7_1 X.clo ho)) dX7_numbersAreAsTold_14 ?_
  refine re_iload_n X dX7_numbersAreAsTold_17 rfl rfl ?_
  refine re_ck (fun hi2 => ?_)
  refine re_iald X (zQ_2_4 X.clo (zQ_7_1 X.clo ho)) hi2 (j := zIx u1) rfl dX7_numbersAreAsTold_18 ?_
  refine re_istore_n (lv' := [some (.ref (zA w o)), some (.int u1), some (.int (M 19 (zIx u1))), some (.int (M 20 (zIx u1)))]) X dX7_numbersAreAsTold_19 rfl (zlt rfl) rfl ?_
  refine re_aload_n X dX7_numbersAreAsTold_20 rfl rfl ?_
  refine re_getR X cl_7 (by decide) fl_RX7_29 ho rfl (zR_7_1 ho) dX7_numbersAreAsTold_21 ?_
  refine re_getR X cl_2 (by decide) fl_RX7_115 (zQ_7_1 X.clo ho) rfl (zR_2_0 (zQ_7_1 X.clo ho)) dX7_numbersAreAsTold_24 ?_
  refine re_iload_n X dX7_numbersAreAsTold_27 rfl rfl ?_
  refine re_ck (fun hi3 => ?_)
  refine re_iald X (zQ_2_0 X.clo (zQ_7_1 X.clo ho)) hi3 (j := zIx u1) rfl dX7_numbersAreAsTold_28 ?_
  refine re_if (fun e4 => ?_) (fun e4 => ?_)
  · refine re_sw_in (v := 3) (off := 43) (tgt := 72) X dX7_numbersAreAsTold_29 e4 (by decide) (by decide) (by decide +kernel) (by decide) ?_
    refine re_iconst (v := 1) X dX7_numbersAreAsTold_72 (by decide) ?_
    exact re_zret X (Or.inr rfl) dX7_numbersAreAsTold_73
  refine re_if (fun e5 => ?_) (fun e5 => ?_)
  · refine re_sw_in (v := 4) (off := 45) (tgt := 74) X dX7_numbersAreAsTold_29 e5 (by decide) (by decide) (by decide +kernel) (by decide) ?_
    refine re_iload_n X dX7_numbersAreAsTold_74 rfl rfl ?_
    refine re_iconst (v := 1) X dX7_numbersAreAsTold_75 (by decide) ?_
    refine re_icmp_lt (tgt := 90) X dX7_numbersAreAsTold_76 (by decide) (fun _ => ?_) (fun _ => ?_)
    · refine re_iconst (v := 0) X dX7_numbersAreAsTold_90 (by decide) ?_
      exact re_zret X (Or.inl rfl) dX7_numbersAreAsTold_91
    · refine re_iload_n X dX7_numbersAreAsTold_79 rfl rfl ?_
      refine re_sipush (v := 9999) X dX7_numbersAreAsTold_80 (by decide) ?_
      refine re_icmp_gt (tgt := 90) X dX7_numbersAreAsTold_83 (by decide) (fun _ => ?_) (fun _ => ?_)
      · refine re_iconst (v := 0) X dX7_numbersAreAsTold_90 (by decide) ?_
        exact re_zret X (Or.inl rfl) dX7_numbersAreAsTold_91
      · refine re_iconst (v := 1) X dX7_numbersAreAsTold_86 (by decide) ?_
        refine re_goto (tgt := 91) X dX7_numbersAreAsTold_87 (by decide) ?_
        exact re_zret X (Or.inr rfl) dX7_numbersAreAsTold_91
  refine re_if (fun e6 => ?_) (fun e6 => ?_)
  · refine re_sw_in (v := 5) (off := 161) (tgt := 190) X dX7_numbersAreAsTold_29 e6 (by decide) (by decide) (by decide +kernel) (by decide) ?_
    refine re_aload_n X dX7_numbersAreAsTold_190 rfl rfl ?_
    refine re_getR X cl_7 (by decide) fl_RX7_29 ho rfl (zR_7_1 ho) dX7_numbersAreAsTold_191 ?_
    refine re_getR X cl_2 (by decide) fl_RX7_150 (zQ_7_1 X.clo ho) rfl (zR_2_1 (zQ_7_1 X.clo ho)) dX7_numbersAreAsTold_194 ?_
    refine re_iload_n X dX7_numbersAreAsTold_197 rfl rfl ?_
    refine re_ck (fun hi7 => ?_)
    refine re_iald X (zQ_2_1 X.clo (zQ_7_1 X.clo ho)) hi7 (j := zIx u1) rfl dX7_numbersAreAsTold_198 ?_
    refine re_callNz X (lk_X9_isMember l w (M 17 (zIx u1))) (ca_X9_isMember (by decide) (by decide)) (zN_7) sm_X9_isMember rfl rfl rfl (zle rfl) zRo dX7_numbersAreAsTold_199 (fun r8 M9 hr8 => ?_)
    exact re_zret X hr8 dX7_numbersAreAsTold_202
  refine re_if (fun e10 => ?_) (fun e10 => ?_)
  · refine re_sw_in (v := 6) (off := 63) (tgt := 92) X dX7_numbersAreAsTold_29 e10 (by decide) (by decide) (by decide +kernel) (by decide) ?_
    refine re_aload_n X dX7_numbersAreAsTold_92 rfl rfl ?_
    refine re_getR X cl_7 (by decide) fl_RX7_29 ho rfl (zR_7_1 ho) dX7_numbersAreAsTold_93 ?_
    refine re_getR X cl_2 (by decide) fl_RX7_150 (zQ_7_1 X.clo ho) rfl (zR_2_1 (zQ_7_1 X.clo ho)) dX7_numbersAreAsTold_96 ?_
    refine re_iload_n X dX7_numbersAreAsTold_99 rfl rfl ?_
    refine re_ck (fun hi11 => ?_)
    refine re_iald X (zQ_2_1 X.clo (zQ_7_1 X.clo ho)) hi11 (j := zIx u1) rfl dX7_numbersAreAsTold_100 ?_
    refine re_callNz X (lk_X9_isMember l w (M 17 (zIx u1))) (ca_X9_isMember (by decide) (by decide)) (zN_7) sm_X9_isMember rfl rfl rfl (zle rfl) zRo dX7_numbersAreAsTold_101 (fun r12 M13 hr12 => ?_)
    refine re_if_eq (tgt := 148) X dX7_numbersAreAsTold_104 (by decide) (fun _ => ?_) (fun _ => ?_)
    · refine re_iconst (v := 0) X dX7_numbersAreAsTold_148 (by decide) ?_
      exact re_zret X (Or.inl rfl) dX7_numbersAreAsTold_149
    · refine re_aload_n X dX7_numbersAreAsTold_107 rfl rfl ?_
      refine re_getR X cl_7 (by decide) fl_RX7_29 ho rfl (zR_7_1 ho) dX7_numbersAreAsTold_108 ?_
      refine re_getR X cl_2 (by decide) fl_RX7_165 (zQ_7_1 X.clo ho) rfl (zR_2_2 (zQ_7_1 X.clo ho)) dX7_numbersAreAsTold_111 ?_
      refine re_iload_n X dX7_numbersAreAsTold_114 rfl rfl ?_
      refine re_ck (fun hi14 => ?_)
      refine re_iald X (zQ_2_2 X.clo (zQ_7_1 X.clo ho)) hi14 (j := zIx u1) rfl dX7_numbersAreAsTold_115 ?_
      refine re_callNz X (lk_X9_isKind l w (M13 18 (zIx u1))) (ca_X9_isKind (by decide) (by decide)) (zN_8) sm_X9_isKind rfl rfl rfl (zle rfl) zRo dX7_numbersAreAsTold_116 (fun r15 M16 hr15 => ?_)
      refine re_if_eq (tgt := 148) X dX7_numbersAreAsTold_119 (by decide) (fun _ => ?_) (fun _ => ?_)
      · refine re_iconst (v := 0) X dX7_numbersAreAsTold_148 (by decide) ?_
        exact re_zret X (Or.inl rfl) dX7_numbersAreAsTold_149
      · refine re_iload_n X dX7_numbersAreAsTold_122 rfl rfl ?_
        refine re_if_lt (tgt := 148) X dX7_numbersAreAsTold_123 (by decide) (fun _ => ?_) (fun _ => ?_)
        · refine re_iconst (v := 0) X dX7_numbersAreAsTold_148 (by decide) ?_
          exact re_zret X (Or.inl rfl) dX7_numbersAreAsTold_149
        · refine re_iload_n X dX7_numbersAreAsTold_126 rfl rfl ?_
          refine re_sipush (v := 999) X dX7_numbersAreAsTold_127 (by decide) ?_
          refine re_icmp_gt (tgt := 148) X dX7_numbersAreAsTold_130 (by decide) (fun _ => ?_) (fun _ => ?_)
          · refine re_iconst (v := 0) X dX7_numbersAreAsTold_148 (by decide) ?_
            exact re_zret X (Or.inl rfl) dX7_numbersAreAsTold_149
          · refine re_iload_n X dX7_numbersAreAsTold_133 rfl rfl ?_
            refine re_if_lt (tgt := 148) X dX7_numbersAreAsTold_134 (by decide) (fun _ => ?_) (fun _ => ?_)
            · refine re_iconst (v := 0) X dX7_numbersAreAsTold_148 (by decide) ?_
              exact re_zret X (Or.inl rfl) dX7_numbersAreAsTold_149
            · refine re_iload_n X dX7_numbersAreAsTold_137 rfl rfl ?_
              refine re_sipush (v := 999) X dX7_numbersAreAsTold_138 (by decide) ?_
              refine re_icmp_gt (tgt := 148) X dX7_numbersAreAsTold_141 (by decide) (fun _ => ?_) (fun _ => ?_)
              · refine re_iconst (v := 0) X dX7_numbersAreAsTold_148 (by decide) ?_
                exact re_zret X (Or.inl rfl) dX7_numbersAreAsTold_149
              · refine re_iconst (v := 1) X dX7_numbersAreAsTold_144 (by decide) ?_
                refine re_goto (tgt := 149) X dX7_numbersAreAsTold_145 (by decide) ?_
                exact re_zret X (Or.inr rfl) dX7_numbersAreAsTold_149
  refine re_if (fun e17 => ?_) (fun e17 => ?_)
  · refine re_sw_in (v := 7) (off := 161) (tgt := 190) X dX7_numbersAreAsTold_29 e17 (by decide) (by decide) (by decide +kernel) (by decide) ?_
    refine re_aload_n X dX7_numbersAreAsTold_190 rfl rfl ?_
    refine re_getR X cl_7 (by decide) fl_RX7_29 ho rfl (zR_7_1 ho) dX7_numbersAreAsTold_191 ?_
    refine re_getR X cl_2 (by decide) fl_RX7_150 (zQ_7_1 X.clo ho) rfl (zR_2_1 (zQ_7_1 X.clo ho)) dX7_numbersAreAsTold_194 ?_
    refine re_iload_n X dX7_numbersAreAsTold_197 rfl rfl ?_
    refine re_ck (fun hi18 => ?_)
    refine re_iald X (zQ_2_1 X.clo (zQ_7_1 X.clo ho)) hi18 (j := zIx u1) rfl dX7_numbersAreAsTold_198 ?_
    refine re_callNz X (lk_X9_isMember l w (M 17 (zIx u1))) (ca_X9_isMember (by decide) (by decide)) (zN_7) sm_X9_isMember rfl rfl rfl (zle rfl) zRo dX7_numbersAreAsTold_199 (fun r19 M20 hr19 => ?_)
    exact re_zret X hr19 dX7_numbersAreAsTold_202
  refine re_if (fun e21 => ?_) (fun e21 => ?_)
  · refine re_sw_in (v := 8) (off := 121) (tgt := 150) X dX7_numbersAreAsTold_29 e21 (by decide) (by decide) (by decide +kernel) (by decide) ?_
    refine re_iload_n X dX7_numbersAreAsTold_150 rfl rfl ?_
    refine re_iload_n X dX7_numbersAreAsTold_151 rfl rfl ?_
    refine re_iand X dX7_numbersAreAsTold_152 ?_
    refine re_if_ne (tgt := 173) X dX7_numbersAreAsTold_153 (by decide) (fun _ => ?_) (fun _ => ?_)
    · refine re_iload_n X dX7_numbersAreAsTold_156 rfl rfl ?_
      refine re_iload_n X dX7_numbersAreAsTold_157 rfl rfl ?_
      refine re_ior X dX7_numbersAreAsTold_158 ?_
      refine re_aload_n X dX7_numbersAreAsTold_159 rfl rfl ?_
      refine re_getI X cl_7 (by decide) fl_RX7_77 ho rfl dX7_numbersAreAsTold_160 ?_
      refine re_iconst (v := -1) X dX7_numbersAreAsTold_163 (by decide) ?_
      refine re_ixor X dX7_numbersAreAsTold_164 ?_
      refine re_iand X dX7_numbersAreAsTold_165 ?_
      refine re_if_ne (tgt := 173) X dX7_numbersAreAsTold_166 (by decide) (fun _ => ?_) (fun _ => ?_)
      · refine re_iconst (v := 1) X dX7_numbersAreAsTold_169 (by decide) ?_
        refine re_goto (tgt := 174) X dX7_numbersAreAsTold_170 (by decide) ?_
        exact re_zret X (Or.inr rfl) dX7_numbersAreAsTold_174
      · refine re_iconst (v := 0) X dX7_numbersAreAsTold_173 (by decide) ?_
        exact re_zret X (Or.inl rfl) dX7_numbersAreAsTold_174
    · refine re_iconst (v := 0) X dX7_numbersAreAsTold_173 (by decide) ?_
      exact re_zret X (Or.inl rfl) dX7_numbersAreAsTold_174
  refine re_if (fun e22 => ?_) (fun e22 => ?_)
  · refine re_sw_in (v := 9) (off := 146) (tgt := 175) X dX7_numbersAreAsTold_29 e22 (by decide) (by decide) (by decide +kernel) (by decide) ?_
    refine re_iload_n X dX7_numbersAreAsTold_175 rfl rfl ?_
    refine re_if_eq (tgt := 184) X dX7_numbersAreAsTold_176 (by decide) (fun _ => ?_) (fun _ => ?_)
    · refine re_iconst (v := 1) X dX7_numbersAreAsTold_184 (by decide) ?_
      refine re_goto (tgt := 189) X dX7_numbersAreAsTold_185 (by decide) ?_
      exact re_zret X (Or.inr rfl) dX7_numbersAreAsTold_189
    · refine re_iload_n X dX7_numbersAreAsTold_179 rfl rfl ?_
      refine re_iconst (v := 1) X dX7_numbersAreAsTold_180 (by decide) ?_
      refine re_icmp_ne (tgt := 188) X dX7_numbersAreAsTold_181 (by decide) (fun _ => ?_) (fun _ => ?_)
      · refine re_iconst (v := 1) X dX7_numbersAreAsTold_184 (by decide) ?_
        refine re_goto (tgt := 189) X dX7_numbersAreAsTold_185 (by decide) ?_
        exact re_zret X (Or.inr rfl) dX7_numbersAreAsTold_189
      · refine re_iconst (v := 0) X dX7_numbersAreAsTold_188 (by decide) ?_
        exact re_zret X (Or.inl rfl) dX7_numbersAreAsTold_189
  refine re_sw_out (tgt := 190) X dX7_numbersAreAsTold_29 (by
      have e4 := lv_neT (a := 3) e4 (by decide)
      have e5 := lv_neT (a := 4) e5 (by decide)
      have e6 := lv_neT (a := 5) e6 (by decide)
      have e10 := lv_neT (a := 6) e10 (by decide)
      have e17 := lv_neT (a := 7) e17 (by decide)
      have e21 := lv_neT (a := 8) e21 (by decide)
      have e22 := lv_neT (a := 9) e22 (by decide)
      omega) (by decide) ?_
  refine re_aload_n X dX7_numbersAreAsTold_190 rfl rfl ?_
  refine re_getR X cl_7 (by decide) fl_RX7_29 ho rfl (zR_7_1 ho) dX7_numbersAreAsTold_191 ?_
  refine re_getR X cl_2 (by decide) fl_RX7_150 (zQ_7_1 X.clo ho) rfl (zR_2_1 (zQ_7_1 X.clo ho)) dX7_numbersAreAsTold_194 ?_
  refine re_iload_n X dX7_numbersAreAsTold_197 rfl rfl ?_
  refine re_ck (fun hi23 => ?_)
  refine re_iald X (zQ_2_1 X.clo (zQ_7_1 X.clo ho)) hi23 (j := zIx u1) rfl dX7_numbersAreAsTold_198 ?_
  refine re_callNz X (lk_X9_isMember l w (M 17 (zIx u1))) (ca_X9_isMember (by decide) (by decide)) (zN_7) sm_X9_isMember rfl rfl rfl (zle rfl) zRo dX7_numbersAreAsTold_199 (fun r24 M25 hr24 => ?_)
  exact re_zret X hr24 dX7_numbersAreAsTold_202
theorem ca_X7_numbersAreAsTold {R : Room} (h1 : rm_X7_numbersAreAsTold.frames + 1 ≤ R.frames) (h2 : 8 + (4 + 11) + rm_X7_numbersAreAsTold.locals ≤ R.locals) : zCa yX7_numbersAreAsTold cX7_numbersAreAsTold 4 (some .boolean) rm_X7_numbersAreAsTold R 1 := ⟨cd_X7_numbersAreAsTold, iz_RX7, ⟨by decide, by decide, by decide⟩, rfl, rfl, h1, h2⟩
/-! DebateHouse$Session.isOfMember -/
abbrev rm_X7_isOfMember : Room := { frames := 0, cells := 0, slots := 0, locals := 0 }
def f_X7_isOfMember (u1 : Int32) (M : zMem) : zTr := if u1 = 3 then some (0, M) else if u1 = 4 then some (0, M) else if u1 = 8 then some (0, M) else if u1 = 9 then some (0, M) else some (1, M)
set_option maxRecDepth 100000 in
theorem lk_X7_isOfMember (l : Launch) (w : zWD) (u1 : Int32)  : zMt l w yX7_isOfMember cX7_isOfMember 1 (some .boolean) rm_X7_isOfMember 2 [.int u1] (fun M => f_X7_isOfMember u1 M) := by
  refine zMt.of (by decide) [some (.int u1)] rfl (zle rfl) (by intro v hv; simp only [List.mem_cons, List.not_mem_nil, or_false] at hv; rcases hv with rfl <;> rfl) ?_
  intro p e s m args below meth c X M
  unfold f_X7_isOfMember
  refine re_iload_n X dX7_isOfMember_0 rfl rfl ?_
  refine re_iconst (v := 3) X dX7_isOfMember_1 (by decide) ?_
  refine re_icmp_eq (tgt := 26) X dX7_isOfMember_2 (by decide) (fun _ => ?_) (fun _ => ?_)
  · refine re_iconst (v := 0) X dX7_isOfMember_26 (by decide) ?_
    exact re_zret X (Or.inl rfl) dX7_isOfMember_27
  · refine re_iload_n X dX7_isOfMember_5 rfl rfl ?_
    refine re_iconst (v := 4) X dX7_isOfMember_6 (by decide) ?_
    refine re_icmp_eq (tgt := 26) X dX7_isOfMember_7 (by decide) (fun _ => ?_) (fun _ => ?_)
    · refine re_iconst (v := 0) X dX7_isOfMember_26 (by decide) ?_
      exact re_zret X (Or.inl rfl) dX7_isOfMember_27
    · refine re_iload_n X dX7_isOfMember_10 rfl rfl ?_
      refine re_bipush (v := 8) X dX7_isOfMember_11 (by decide) ?_
      refine re_icmp_eq (tgt := 26) X dX7_isOfMember_13 (by decide) (fun _ => ?_) (fun _ => ?_)
      · refine re_iconst (v := 0) X dX7_isOfMember_26 (by decide) ?_
        exact re_zret X (Or.inl rfl) dX7_isOfMember_27
      · refine re_iload_n X dX7_isOfMember_16 rfl rfl ?_
        refine re_bipush (v := 9) X dX7_isOfMember_17 (by decide) ?_
        refine re_icmp_eq (tgt := 26) X dX7_isOfMember_19 (by decide) (fun _ => ?_) (fun _ => ?_)
        · refine re_iconst (v := 0) X dX7_isOfMember_26 (by decide) ?_
          exact re_zret X (Or.inl rfl) dX7_isOfMember_27
        · refine re_iconst (v := 1) X dX7_isOfMember_22 (by decide) ?_
          refine re_goto (tgt := 27) X dX7_isOfMember_23 (by decide) ?_
          exact re_zret X (Or.inr rfl) dX7_isOfMember_27
theorem ca_X7_isOfMember {R : Room} (h1 : rm_X7_isOfMember.frames + 1 ≤ R.frames) (h2 : 8 + (1 + 11) + rm_X7_isOfMember.locals ≤ R.locals) : zCa yX7_isOfMember cX7_isOfMember 1 (some .boolean) rm_X7_isOfMember R 1 := ⟨cd_X7_isOfMember, iz_RX7, ⟨by decide, by decide, by decide⟩, rfl, rfl, h1, h2⟩
/-! DebateHouse$Session.isThere -/
abbrev rm_X7_isThere : Room := { frames := 1, cells := 0, slots := 0, locals := 20 }
def f_X7_isThere (o : Nat) (u1 : Int32) (M : zMem) : zTr := zBd (f_X9_isMember u1 M) (fun r1 M2 => if r1 = 0 then some (0, M2) else if ((zUsr (M2 o 11) u1) &&& 1) = 1 then some (1, M2) else some (0, M2))
set_option maxRecDepth 100000 in
theorem lk_X7_isThere (l : Launch) (w : zWD) (o : Nat) (u1 : Int32) (ho : zKd w o = (7, 16)) : zMt l w yX7_isThere cX7_isThere 2 (some .boolean) rm_X7_isThere 2 [.ref (zA w o), .int u1] (fun M => f_X7_isThere o u1 M) := by
  refine zMt.of (by decide) [some (.ref (zA w o)), some (.int u1)] rfl (zle rfl) (by intro v hv; simp only [List.mem_cons, List.not_mem_nil, or_false] at hv; rcases hv with rfl | rfl <;> rfl) ?_
  intro p e s m args below meth c X M
  unfold f_X7_isThere
  refine re_iload_n X dX7_isThere_0 rfl rfl ?_
  refine re_callNz X (lk_X9_isMember l w u1) (ca_X9_isMember (by decide) (by decide)) (zN_7) sm_X9_isMember rfl rfl rfl (zle rfl) zRo dX7_isThere_1 (fun r1 M2 hr1 => ?_)
  refine re_if_eq (tgt := 23) X dX7_isThere_4 (by decide) (fun _ => ?_) (fun _ => ?_)
  · refine re_iconst (v := 0) X dX7_isThere_23 (by decide) ?_
    exact re_zret X (Or.inl rfl) dX7_isThere_24
  · refine re_aload_n X dX7_isThere_7 rfl rfl ?_
    refine re_getI X cl_7 (by decide) fl_RX7_77 ho rfl dX7_isThere_8 ?_
    refine re_iload_n X dX7_isThere_11 rfl rfl ?_
    refine re_iushr X dX7_isThere_12 ?_
    refine re_iconst (v := 1) X dX7_isThere_13 (by decide) ?_
    refine re_iand X dX7_isThere_14 ?_
    refine re_iconst (v := 1) X dX7_isThere_15 (by decide) ?_
    refine re_icmp_ne (tgt := 23) X dX7_isThere_16 (by decide) (fun _ => ?_) (fun _ => ?_)
    · refine re_iconst (v := 1) X dX7_isThere_19 (by decide) ?_
      refine re_goto (tgt := 24) X dX7_isThere_20 (by decide) ?_
      exact re_zret X (Or.inr rfl) dX7_isThere_24
    · refine re_iconst (v := 0) X dX7_isThere_23 (by decide) ?_
      exact re_zret X (Or.inl rfl) dX7_isThere_24
theorem ca_X7_isThere {R : Room} (h1 : rm_X7_isThere.frames + 1 ≤ R.frames) (h2 : 8 + (2 + 11) + rm_X7_isThere.locals ≤ R.locals) : zCa yX7_isThere cX7_isThere 2 (some .boolean) rm_X7_isThere R 1 := ⟨cd_X7_isThere, iz_RX7, ⟨by decide, by decide, by decide⟩, rfl, rfl, h1, h2⟩
/-! DebateHouse$Session.refusalAtLarge -/
abbrev rm_X7_refusalAtLarge : Room := { frames := 2, cells := 0, slots := 0, locals := 43 }
def f_X7_refusalAtLarge_B54 (o : Nat) (u1 : Int32)  (x2 : Int32) (M : zMem) : zTr := if x2 = 0 then some (0, M) else if x2 = 1 then some (0, M) else if (M o 15) = 0 then zBd (f_J6_bitCount_0f7a4 (M o 11) M) (fun r6 M7 => if (M7 3 5) ≤ r6 then (if (M7 o 13) ≤ 0 then some (0, M7) else if x2 = 4 then some (0, M7) else some (5, M7)) else some (4, M7)) else some (3, M)
def f_X7_refusalAtLarge_B49 (o : Nat) (u1 : Int32)  (x2 : Int32) (y0 : Int32) (y1 : Int32) (M : zMem) : zTr := if y1 = y0 then some (2, M) else f_X7_refusalAtLarge_B54 o u1 x2 M
def f_X7_refusalAtLarge (o : Nat) (u1 : Int32) (M : zMem) : zTr := zCk (zIn u1 300) (zBd (f_X7_numbersAreAsTold o u1 M) (fun r2 M3 => if r2 = 0 then some (1, M3) else zBd (f_X7_isOfMember (M 16 (zIx u1)) M3) (fun r4 M5 => if r4 = 0 then f_X7_refusalAtLarge_B54 o u1 (M 16 (zIx u1)) M5 else zCk (zIn u1 300) (zBd (f_X7_isThere o (M5 17 (zIx u1)) M5) (fun r9 M10 => if (M 16 (zIx u1)) = 0 then f_X7_refusalAtLarge_B49 o u1 (M 16 (zIx u1)) 1 r9 M10 else f_X7_refusalAtLarge_B49 o u1 (M 16 (zIx u1)) 0 r9 M10)))))
set_option maxRecDepth 100000 in
theorem lb_X7_refusalAtLarge_54 {p : Program} {l : Launch} {e : Env} {s : State} {m : MethodId} {args : Array Value} {below : List Frame} {meth : Method} {c : Code} {w : zWD} {o : Nat} {u1 : Int32} (X : zCx p s m args meth c w (zFree w) RX7 cX7_refusalAtLarge 3 (some .int)) (ho : zKd w o = (7, 16)) : ∀ (x2 : Int32) (M : zMem), zRm p l e rm_X7_refusalAtLarge s m args below meth c w 1 54 [some (.ref (zA w o)), none, some (.int x2)] [] M (f_X7_refusalAtLarge_B54 o u1 x2 M) := by
  intro x2 M
  unfold f_X7_refusalAtLarge_B54
  refine re_iload_n X dX7_refusalAtLarge_54 rfl rfl ?_
  refine re_if_eq (tgt := 63) X dX7_refusalAtLarge_55 (by decide) (fun _ => ?_) (fun _ => ?_)
  · refine re_iconst (v := 0) X dX7_refusalAtLarge_63 (by decide) ?_
    exact re_iret X dX7_refusalAtLarge_64
  · refine re_iload_n X dX7_refusalAtLarge_58 rfl rfl ?_
    refine re_iconst (v := 1) X dX7_refusalAtLarge_59 (by decide) ?_
    refine re_icmp_ne (tgt := 65) X dX7_refusalAtLarge_60 (by decide) (fun _ => ?_) (fun _ => ?_)
    · refine re_iconst (v := 0) X dX7_refusalAtLarge_63 (by decide) ?_
      exact re_iret X dX7_refusalAtLarge_64
    · refine re_aload_n X dX7_refusalAtLarge_65 rfl rfl ?_
      refine re_getI X cl_7 (by decide) fl_RX7_92 ho rfl dX7_refusalAtLarge_66 ?_
      refine re_if_eq (tgt := 74) X dX7_refusalAtLarge_69 (by decide) (fun _ => ?_) (fun _ => ?_)
      · refine re_aload_n X dX7_refusalAtLarge_74 rfl rfl ?_
        refine re_getI X cl_7 (by decide) fl_RX7_77 ho rfl dX7_refusalAtLarge_75 ?_
        refine re_callSi X (lk_J6_bitCount_0f7a4 l w (M o 11)) (ca_J6_bitCount_0f7a4 (by decide) (by decide)) ml_RX7_123 sm_J6_bitCount_0f7a4 rfl rfl rfl (zle rfl) zRo dX7_refusalAtLarge_78 (fun r6 M7 hr6 => ?_)
        refine re_aload_n X dX7_refusalAtLarge_81 rfl rfl ?_
        refine re_getR X cl_7 (by decide) fl_RX7_25 ho rfl (zR_7_0 ho) dX7_refusalAtLarge_82 ?_
        refine re_getI X cl_6 (by decide) fl_RX7_156 (zQ_7_0 X.clo ho) rfl dX7_refusalAtLarge_85 ?_
        refine re_icmp_ge (tgt := 93) X dX7_refusalAtLarge_88 (by decide) (fun _ => ?_) (fun _ => ?_)
        · refine re_aload_n X dX7_refusalAtLarge_93 rfl rfl ?_
          refine re_getI X cl_7 (by decide) fl_RX7_86 ho rfl dX7_refusalAtLarge_94 ?_
          refine re_if_le (tgt := 109) X dX7_refusalAtLarge_97 (by decide) (fun _ => ?_) (fun _ => ?_)
          · refine re_iconst (v := 0) X dX7_refusalAtLarge_109 (by decide) ?_
            exact re_iret X dX7_refusalAtLarge_110
          · refine re_iload_n X dX7_refusalAtLarge_100 rfl rfl ?_
            refine re_iconst (v := 4) X dX7_refusalAtLarge_101 (by decide) ?_
            refine re_icmp_eq (tgt := 109) X dX7_refusalAtLarge_102 (by decide) (fun _ => ?_) (fun _ => ?_)
            · refine re_iconst (v := 0) X dX7_refusalAtLarge_109 (by decide) ?_
              exact re_iret X dX7_refusalAtLarge_110
            · refine re_iconst (v := 5) X dX7_refusalAtLarge_105 (by decide) ?_
              refine re_goto (tgt := 110) X dX7_refusalAtLarge_106 (by decide) ?_
              exact re_iret X dX7_refusalAtLarge_110
        · refine re_iconst (v := 4) X dX7_refusalAtLarge_91 (by decide) ?_
          exact re_iret X dX7_refusalAtLarge_92
      · refine re_iconst (v := 3) X dX7_refusalAtLarge_72 (by decide) ?_
        exact re_iret X dX7_refusalAtLarge_73

set_option maxRecDepth 100000 in
theorem lb_X7_refusalAtLarge_49 {p : Program} {l : Launch} {e : Env} {s : State} {m : MethodId} {args : Array Value} {below : List Frame} {meth : Method} {c : Code} {w : zWD} {o : Nat} {u1 : Int32} (X : zCx p s m args meth c w (zFree w) RX7 cX7_refusalAtLarge 3 (some .int)) (ho : zKd w o = (7, 16)) : ∀ (x2 : Int32) (y0 : Int32) (y1 : Int32) (M : zMem), zRm p l e rm_X7_refusalAtLarge s m args below meth c w 1 49 [some (.ref (zA w o)), none, some (.int x2)] [.int y0, .int y1] M (f_X7_refusalAtLarge_B49 o u1 x2 y0 y1 M) := by
  intro x2 y0 y1 M
  unfold f_X7_refusalAtLarge_B49
  refine re_icmp_ne (tgt := 54) X dX7_refusalAtLarge_49 (by decide) (fun _ => ?_) (fun _ => ?_)
  · refine re_iconst (v := 2) X dX7_refusalAtLarge_52 (by decide) ?_
    exact re_iret X dX7_refusalAtLarge_53
  · exact lb_X7_refusalAtLarge_54 X ho x2 M

set_option maxRecDepth 100000 in
theorem lk_X7_refusalAtLarge (l : Launch) (w : zWD) (o : Nat) (u1 : Int32) (ho : zKd w o = (7, 16)) : zMt l w yX7_refusalAtLarge cX7_refusalAtLarge 3 (some .int) rm_X7_refusalAtLarge 1 [.ref (zA w o), .int u1] (fun M => f_X7_refusalAtLarge o u1 M) := by
  refine zMt.of (by decide) [some (.ref (zA w o)), some (.int u1), none] rfl (zle rfl) (by intro v hv; simp only [List.mem_cons, List.not_mem_nil, or_false] at hv; rcases hv with rfl | rfl <;> rfl) ?_
  intro p e s m args below meth c X M
  unfold f_X7_refusalAtLarge
  refine re_aload_n X dX7_refusalAtLarge_0 rfl rfl ?_
  refine re_getR X cl_7 (by decide) fl_RX7_29 ho rfl (zR_7_1 ho) dX7_refusalAtLarge_1 ?_
  refine re_getR X cl_2 (by decide) fl_RX7_115 (zQ_7_1 X.clo ho) rfl (zR_2_0 (zQ_7_1 X.clo ho)) dX7_refusalAtLarge_4 ?_
  refine re_iload_n X dX7_refusalAtLarge_7 rfl rfl ?_
  refine re_ck (fun hi1 => ?_)
  refine re_iald X (zQ_2_0 X.clo (zQ_7_1 X.clo ho)) hi1 (j := zIx u1) rfl dX7_refusalAtLarge_8 ?_
  refine re_istore_n (lv' := [some (.ref (zA w o)), some (.int u1), some (.int (M 16 (zIx u1)))]) X dX7_refusalAtLarge_9 rfl (zlt rfl) rfl ?_
  refine re_aload_n X dX7_refusalAtLarge_10 rfl rfl ?_
  refine re_iload_n X dX7_refusalAtLarge_11 rfl rfl ?_
  refine re_callVz X (lk_X7_numbersAreAsTold l w o u1 ho) (ca_X7_numbersAreAsTold (by decide) (by decide)) ml_RX7_144 im_X7_numbersAreAsTold se_X7_numbersAreAsTold cl_7 ho rfl rfl rfl (zle rfl) zRo dX7_refusalAtLarge_12 (fun r2 M3 hr2 => ?_)
  refine re_if_ne (tgt := 20) X dX7_refusalAtLarge_15 (by decide) (fun _ => ?_) (fun _ => ?_)
  · refine re_iconst (v := 1) X dX7_refusalAtLarge_18 (by decide) ?_
    exact re_iret X dX7_refusalAtLarge_19
  · refine re_iload_n X dX7_refusalAtLarge_20 rfl rfl ?_
    refine re_callSz X (lk_X7_isOfMember l w (M 16 (zIx u1))) (ca_X7_isOfMember (by decide) (by decide)) ml_RX7_147 sm_X7_isOfMember rfl rfl rfl (zle rfl) zRo dX7_refusalAtLarge_21 (fun r4 M5 hr4 => ?_)
    refine re_if_eq (tgt := 54) X dX7_refusalAtLarge_24 (by decide) (fun _ => ?_) (fun _ => ?_)
    · exact re_sub (lb_X7_refusalAtLarge_54 X ho (M 16 (zIx u1)) M5) ⟨rfl, ⟨rfl, trivial⟩⟩
    · refine re_aload_n X dX7_refusalAtLarge_27 rfl rfl ?_
      refine re_aload_n X dX7_refusalAtLarge_28 rfl rfl ?_
      refine re_getR X cl_7 (by decide) fl_RX7_29 ho rfl (zR_7_1 ho) dX7_refusalAtLarge_29 ?_
      refine re_getR X cl_2 (by decide) fl_RX7_150 (zQ_7_1 X.clo ho) rfl (zR_2_1 (zQ_7_1 X.clo ho)) dX7_refusalAtLarge_32 ?_
      refine re_iload_n X dX7_refusalAtLarge_35 rfl rfl ?_
      refine re_ck (fun hi8 => ?_)
      refine re_iald X (zQ_2_1 X.clo (zQ_7_1 X.clo ho)) hi8 (j := zIx u1) rfl dX7_refusalAtLarge_36 ?_
      refine re_callVz X (lk_X7_isThere l w o (M5 17 (zIx u1)) ho) (ca_X7_isThere (by decide) (by decide)) ml_RX7_153 im_X7_isThere se_X7_isThere cl_7 ho rfl rfl rfl (zle rfl) zRo dX7_refusalAtLarge_37 (fun r9 M10 hr9 => ?_)
      refine re_iload_n X dX7_refusalAtLarge_40 rfl rfl ?_
      refine re_if_ne (tgt := 48) X dX7_refusalAtLarge_41 (by decide) (fun _ => ?_) (fun _ => ?_)
      · refine re_iconst (v := 1) X dX7_refusalAtLarge_44 (by decide) ?_
        refine re_goto (tgt := 49) X dX7_refusalAtLarge_45 (by decide) ?_
        exact re_sub (lb_X7_refusalAtLarge_49 X ho (M 16 (zIx u1)) 1 r9 M10) ⟨rfl, ⟨rfl, trivial⟩⟩
      · refine re_iconst (v := 0) X dX7_refusalAtLarge_48 (by decide) ?_
        exact re_sub (lb_X7_refusalAtLarge_49 X ho (M 16 (zIx u1)) 0 r9 M10) ⟨rfl, ⟨rfl, trivial⟩⟩
theorem ca_X7_refusalAtLarge {R : Room} (h1 : rm_X7_refusalAtLarge.frames + 1 ≤ R.frames) (h2 : 8 + (3 + 11) + rm_X7_refusalAtLarge.locals ≤ R.locals) : zCa yX7_refusalAtLarge cX7_refusalAtLarge 3 (some .int) rm_X7_refusalAtLarge R 1 := ⟨cd_X7_refusalAtLarge, iz_RX7, ⟨by decide, by decide, by decide⟩, rfl, rfl, h1, h2⟩
/-! DebateHouse$Session.isWorked -/
abbrev rm_X7_isWorked : Room := { frames := 1, cells := 0, slots := 0, locals := 20 }
def f_X7_isWorked (o : Nat) (u1 : Int32) (M : zMem) : zTr := zBd (f_X9_isActNumber u1 M) (fun r1 M2 => if r1 = 0 then some (0, M2) else if (M2 o 9) ≤ u1 then some (0, M2) else some (1, M2))
set_option maxRecDepth 100000 in
theorem lk_X7_isWorked (l : Launch) (w : zWD) (o : Nat) (u1 : Int32) (ho : zKd w o = (7, 16)) : zMt l w yX7_isWorked cX7_isWorked 2 (some .boolean) rm_X7_isWorked 2 [.ref (zA w o), .int u1] (fun M => f_X7_isWorked o u1 M) := by
  refine zMt.of (by decide) [some (.ref (zA w o)), some (.int u1)] rfl (zle rfl) (by intro v hv; simp only [List.mem_cons, List.not_mem_nil, or_false] at hv; rcases hv with rfl | rfl <;> rfl) ?_
  intro p e s m args below meth c X M
  unfold f_X7_isWorked
  refine re_iload_n X dX7_isWorked_0 rfl rfl ?_
  refine re_callNz X (lk_X9_isActNumber l w u1) (ca_X9_isActNumber (by decide) (by decide)) (zN_6) sm_X9_isActNumber rfl rfl rfl (zle rfl) zRo dX7_isWorked_1 (fun r1 M2 hr1 => ?_)
  refine re_if_eq (tgt := 19) X dX7_isWorked_4 (by decide) (fun _ => ?_) (fun _ => ?_)
  · refine re_iconst (v := 0) X dX7_isWorked_19 (by decide) ?_
    exact re_zret X (Or.inl rfl) dX7_isWorked_20
  · refine re_iload_n X dX7_isWorked_7 rfl rfl ?_
    refine re_aload_n X dX7_isWorked_8 rfl rfl ?_
    refine re_getI X cl_7 (by decide) fl_RX7_71 ho rfl dX7_isWorked_9 ?_
    refine re_icmp_ge (tgt := 19) X dX7_isWorked_12 (by decide) (fun _ => ?_) (fun _ => ?_)
    · refine re_iconst (v := 0) X dX7_isWorked_19 (by decide) ?_
      exact re_zret X (Or.inl rfl) dX7_isWorked_20
    · refine re_iconst (v := 1) X dX7_isWorked_15 (by decide) ?_
      refine re_goto (tgt := 20) X dX7_isWorked_16 (by decide) ?_
      exact re_zret X (Or.inr rfl) dX7_isWorked_20
theorem ca_X7_isWorked {R : Room} (h1 : rm_X7_isWorked.frames + 1 ≤ R.frames) (h2 : 8 + (2 + 11) + rm_X7_isWorked.locals ≤ R.locals) : zCa yX7_isWorked cX7_isWorked 2 (some .boolean) rm_X7_isWorked R 1 := ⟨cd_X7_isWorked, iz_RX7, ⟨by decide, by decide, by decide⟩, rfl, rfl, h1, h2⟩
/-! DebateHouse$Session.mayAppeal -/
abbrev rm_X7_mayAppeal : Room := { frames := 2, cells := 0, slots := 0, locals := 41 }
def f_X7_mayAppeal (o : Nat) (M : zMem) : zTr := zBd (f_X7_isWorked o (M o 10) M) (fun r1 M2 => if r1 = 0 then some (0, M2) else zCk (zIn (M2 o 10) 300) (if (M2 (o + 19) (zIx (M2 o 10))) = 0 then some (1, M2) else some (0, M2)))
set_option maxRecDepth 100000 in
theorem lk_X7_mayAppeal (l : Launch) (w : zWD) (o : Nat) (ho : zKd w o = (7, 16)) : zMt l w yX7_mayAppeal cX7_mayAppeal 1 (some .boolean) rm_X7_mayAppeal 2 [.ref (zA w o)] (fun M => f_X7_mayAppeal o M) := by
  refine zMt.of (by decide) [some (.ref (zA w o))] rfl (zle rfl) (by intro v hv; simp only [List.mem_cons, List.not_mem_nil, or_false] at hv; rcases hv with rfl <;> rfl) ?_
  intro p e s m args below meth c X M
  unfold f_X7_mayAppeal
  refine re_aload_n X dX7_mayAppeal_0 rfl rfl ?_
  refine re_aload_n X dX7_mayAppeal_1 rfl rfl ?_
  refine re_getI X cl_7 (by decide) fl_RX7_74 ho rfl dX7_mayAppeal_2 ?_
  refine re_callVz X (lk_X7_isWorked l w o (M o 10) ho) (ca_X7_isWorked (by decide) (by decide)) ml_RX7_120 im_X7_isWorked se_X7_isWorked cl_7 ho rfl rfl rfl (zle rfl) zRo dX7_mayAppeal_5 (fun r1 M2 hr1 => ?_)
  refine re_if_eq (tgt := 27) X dX7_mayAppeal_8 (by decide) (fun _ => ?_) (fun _ => ?_)
  · refine re_iconst (v := 0) X dX7_mayAppeal_27 (by decide) ?_
    exact re_zret X (Or.inl rfl) dX7_mayAppeal_28
  · refine re_aload_n X dX7_mayAppeal_11 rfl rfl ?_
    refine re_getR X cl_7 (by decide) fl_RX7_22 ho rfl (zR_7_8 ho) dX7_mayAppeal_12 ?_
    refine re_aload_n X dX7_mayAppeal_15 rfl rfl ?_
    refine re_getI X cl_7 (by decide) fl_RX7_74 ho rfl dX7_mayAppeal_16 ?_
    refine re_ck (fun hi3 => ?_)
    refine re_zald X (zQ_7_8 X.clo ho) hi3 (j := zIx (M2 o 10)) rfl dX7_mayAppeal_19 ?_
    refine re_if_ne (tgt := 27) X dX7_mayAppeal_20 (by decide) (fun _ => ?_) (fun _ => ?_)
    · refine re_iconst (v := 1) X dX7_mayAppeal_23 (by decide) ?_
      refine re_goto (tgt := 28) X dX7_mayAppeal_24 (by decide) ?_
      exact re_zret X (Or.inr rfl) dX7_mayAppeal_28
    · refine re_iconst (v := 0) X dX7_mayAppeal_27 (by decide) ?_
      exact re_zret X (Or.inl rfl) dX7_mayAppeal_28
theorem ca_X7_mayAppeal {R : Room} (h1 : rm_X7_mayAppeal.frames + 1 ≤ R.frames) (h2 : 8 + (1 + 11) + rm_X7_mayAppeal.locals ≤ R.locals) : zCa yX7_mayAppeal cX7_mayAppeal 1 (some .boolean) rm_X7_mayAppeal R 0 := ⟨cd_X7_mayAppeal, iz_RX7, ⟨by decide, by decide, by decide⟩, rfl, rfl, h1, h2⟩
/-! DebateHouse$Session.mayMoveKind -/
abbrev rm_X7_mayMoveKind : Room := { frames := 3, cells := 0, slots := 0, locals := 66 }
def f_X7_mayMoveKind (o : Nat) (u1 : Int32) (u2 : Int32) (M : zMem) : zTr := if u1 = 0 then (if (M (o + 12) 3) = 0 then (if u2 < 1 then some (0, M) else if 20 < u2 then some (0, M) else some (1, M)) else some (0, M)) else if u1 = 1 then (if (M (o + 12) 3) = 0 then some (0, M) else zBd (f_X4_mayAmend (o + 12) u2 M) (fun r3 M4 => if r3 = 0 then some (0, M4) else some (1, M4))) else if u1 = 2 then (if (M (o + 12) 3) = 0 then some (0, M) else if (M (o + 4) 8) ≤ 0 then some (0, M) else some (1, M)) else if u1 = 3 then (if u2 ≤ 0 then some (0, M) else some (1, M)) else if u1 = 4 then zCk ((M (o + 12) 3) = 0 ∨ (M (o + 12) 3) = 1) (some (M (o + 12) 3, M)) else if u1 = 5 then (if u2 ≤ 0 then some (0, M) else some (1, M)) else some (1, M)
set_option maxRecDepth 100000 in
theorem lk_X7_mayMoveKind (l : Launch) (w : zWD) (o : Nat) (u1 : Int32) (u2 : Int32) (ho : zKd w o = (7, 16)) : zMt l w yX7_mayMoveKind cX7_mayMoveKind 3 (some .boolean) rm_X7_mayMoveKind 2 [.ref (zA w o), .int u1, .int u2] (fun M => f_X7_mayMoveKind o u1 u2 M) := by
  refine zMt.of (by decide) [some (.ref (zA w o)), some (.int u1), some (.int u2)] rfl (zle rfl) (by intro v hv; simp only [List.mem_cons, List.not_mem_nil, or_false] at hv; rcases hv with rfl | rfl | rfl <;> rfl) ?_
  intro p e s m args below meth c X M
  unfold f_X7_mayMoveKind
  refine re_iload_n X dX7_mayMoveKind_0 rfl rfl ?_
  refine re_if (fun e1 => ?_) (fun e1 => ?_)
  · refine re_sw_in (v := 0) (off := 39) (tgt := 40) X dX7_mayMoveKind_1 e1 (by decide) (by decide) (by decide +kernel) (by decide) ?_
    refine re_aload_n X dX7_mayMoveKind_40 rfl rfl ?_
    refine re_getR X cl_7 (by decide) fl_RX7_54 ho rfl (zR_7_4 ho) dX7_mayMoveKind_41 ?_
    refine re_getI X cl_4 (by decide) fl_RX7_137 (zQ_7_4 X.clo ho) rfl dX7_mayMoveKind_44 ?_
    refine re_if_ne (tgt := 65) X dX7_mayMoveKind_47 (by decide) (fun _ => ?_) (fun _ => ?_)
    · refine re_iload_n X dX7_mayMoveKind_50 rfl rfl ?_
      refine re_iconst (v := 1) X dX7_mayMoveKind_51 (by decide) ?_
      refine re_icmp_lt (tgt := 65) X dX7_mayMoveKind_52 (by decide) (fun _ => ?_) (fun _ => ?_)
      · refine re_iconst (v := 0) X dX7_mayMoveKind_65 (by decide) ?_
        exact re_zret X (Or.inl rfl) dX7_mayMoveKind_66
      · refine re_iload_n X dX7_mayMoveKind_55 rfl rfl ?_
        refine re_bipush (v := 20) X dX7_mayMoveKind_56 (by decide) ?_
        refine re_icmp_gt (tgt := 65) X dX7_mayMoveKind_58 (by decide) (fun _ => ?_) (fun _ => ?_)
        · refine re_iconst (v := 0) X dX7_mayMoveKind_65 (by decide) ?_
          exact re_zret X (Or.inl rfl) dX7_mayMoveKind_66
        · refine re_iconst (v := 1) X dX7_mayMoveKind_61 (by decide) ?_
          refine re_goto (tgt := 66) X dX7_mayMoveKind_62 (by decide) ?_
          exact re_zret X (Or.inr rfl) dX7_mayMoveKind_66
    · refine re_iconst (v := 0) X dX7_mayMoveKind_65 (by decide) ?_
      exact re_zret X (Or.inl rfl) dX7_mayMoveKind_66
  refine re_if (fun e2 => ?_) (fun e2 => ?_)
  · refine re_sw_in (v := 1) (off := 66) (tgt := 67) X dX7_mayMoveKind_1 e2 (by decide) (by decide) (by decide +kernel) (by decide) ?_
    refine re_aload_n X dX7_mayMoveKind_67 rfl rfl ?_
    refine re_getR X cl_7 (by decide) fl_RX7_54 ho rfl (zR_7_4 ho) dX7_mayMoveKind_68 ?_
    refine re_getI X cl_4 (by decide) fl_RX7_137 (zQ_7_4 X.clo ho) rfl dX7_mayMoveKind_71 ?_
    refine re_if_eq (tgt := 92) X dX7_mayMoveKind_74 (by decide) (fun _ => ?_) (fun _ => ?_)
    · refine re_iconst (v := 0) X dX7_mayMoveKind_92 (by decide) ?_
      exact re_zret X (Or.inl rfl) dX7_mayMoveKind_93
    · refine re_aload_n X dX7_mayMoveKind_77 rfl rfl ?_
      refine re_getR X cl_7 (by decide) fl_RX7_54 ho rfl (zR_7_4 ho) dX7_mayMoveKind_78 ?_
      refine re_iload_n X dX7_mayMoveKind_81 rfl rfl ?_
      refine re_callVz X (lk_X4_mayAmend l w (o + 12) u2 (zQ_7_4 X.clo ho)) (ca_X4_mayAmend (by decide) (by decide)) ml_RX7_206 im_X4_mayAmend se_X4_mayAmend cl_4 (zQ_7_4 X.clo ho) rfl rfl rfl (zle rfl) zRo dX7_mayMoveKind_82 (fun r3 M4 hr3 => ?_)
      refine re_if_eq (tgt := 92) X dX7_mayMoveKind_85 (by decide) (fun _ => ?_) (fun _ => ?_)
      · refine re_iconst (v := 0) X dX7_mayMoveKind_92 (by decide) ?_
        exact re_zret X (Or.inl rfl) dX7_mayMoveKind_93
      · refine re_iconst (v := 1) X dX7_mayMoveKind_88 (by decide) ?_
        refine re_goto (tgt := 93) X dX7_mayMoveKind_89 (by decide) ?_
        exact re_zret X (Or.inr rfl) dX7_mayMoveKind_93
  refine re_if (fun e5 => ?_) (fun e5 => ?_)
  · refine re_sw_in (v := 2) (off := 93) (tgt := 94) X dX7_mayMoveKind_1 e5 (by decide) (by decide) (by decide +kernel) (by decide) ?_
    refine re_aload_n X dX7_mayMoveKind_94 rfl rfl ?_
    refine re_getR X cl_7 (by decide) fl_RX7_54 ho rfl (zR_7_4 ho) dX7_mayMoveKind_95 ?_
    refine re_getI X cl_4 (by decide) fl_RX7_137 (zQ_7_4 X.clo ho) rfl dX7_mayMoveKind_98 ?_
    refine re_if_eq (tgt := 118) X dX7_mayMoveKind_101 (by decide) (fun _ => ?_) (fun _ => ?_)
    · refine re_iconst (v := 0) X dX7_mayMoveKind_118 (by decide) ?_
      exact re_zret X (Or.inl rfl) dX7_mayMoveKind_119
    · refine re_aload_n X dX7_mayMoveKind_104 rfl rfl ?_
      refine re_getR X cl_7 (by decide) fl_RX7_47 ho rfl (zR_7_3 ho) dX7_mayMoveKind_105 ?_
      refine re_getI X cl_3 (by decide) fl_RX7_64 (zQ_7_3 X.clo ho) rfl dX7_mayMoveKind_108 ?_
      refine re_if_le (tgt := 118) X dX7_mayMoveKind_111 (by decide) (fun _ => ?_) (fun _ => ?_)
      · refine re_iconst (v := 0) X dX7_mayMoveKind_118 (by decide) ?_
        exact re_zret X (Or.inl rfl) dX7_mayMoveKind_119
      · refine re_iconst (v := 1) X dX7_mayMoveKind_114 (by decide) ?_
        refine re_goto (tgt := 119) X dX7_mayMoveKind_115 (by decide) ?_
        exact re_zret X (Or.inr rfl) dX7_mayMoveKind_119
  refine re_if (fun e6 => ?_) (fun e6 => ?_)
  · refine re_sw_in (v := 3) (off := 127) (tgt := 128) X dX7_mayMoveKind_1 e6 (by decide) (by decide) (by decide +kernel) (by decide) ?_
    refine re_iload_n X dX7_mayMoveKind_128 rfl rfl ?_
    refine re_if_le (tgt := 136) X dX7_mayMoveKind_129 (by decide) (fun _ => ?_) (fun _ => ?_)
    · refine re_iconst (v := 0) X dX7_mayMoveKind_136 (by decide) ?_
      exact re_zret X (Or.inl rfl) dX7_mayMoveKind_137
    · refine re_iconst (v := 1) X dX7_mayMoveKind_132 (by decide) ?_
      refine re_goto (tgt := 137) X dX7_mayMoveKind_133 (by decide) ?_
      exact re_zret X (Or.inr rfl) dX7_mayMoveKind_137
  refine re_if (fun e7 => ?_) (fun e7 => ?_)
  · refine re_sw_in (v := 4) (off := 119) (tgt := 120) X dX7_mayMoveKind_1 e7 (by decide) (by decide) (by decide +kernel) (by decide) ?_
    refine re_aload_n X dX7_mayMoveKind_120 rfl rfl ?_
    refine re_getR X cl_7 (by decide) fl_RX7_54 ho rfl (zR_7_4 ho) dX7_mayMoveKind_121 ?_
    refine re_getI X cl_4 (by decide) fl_RX7_137 (zQ_7_4 X.clo ho) rfl dX7_mayMoveKind_124 ?_
    refine re_ck (fun hz8 => ?_)
    exact re_zret X hz8 dX7_mayMoveKind_127
  refine re_if (fun e9 => ?_) (fun e9 => ?_)
  · refine re_sw_in (v := 5) (off := 127) (tgt := 128) X dX7_mayMoveKind_1 e9 (by decide) (by decide) (by decide +kernel) (by decide) ?_
    refine re_iload_n X dX7_mayMoveKind_128 rfl rfl ?_
    refine re_if_le (tgt := 136) X dX7_mayMoveKind_129 (by decide) (fun _ => ?_) (fun _ => ?_)
    · refine re_iconst (v := 0) X dX7_mayMoveKind_136 (by decide) ?_
      exact re_zret X (Or.inl rfl) dX7_mayMoveKind_137
    · refine re_iconst (v := 1) X dX7_mayMoveKind_132 (by decide) ?_
      refine re_goto (tgt := 137) X dX7_mayMoveKind_133 (by decide) ?_
      exact re_zret X (Or.inr rfl) dX7_mayMoveKind_137
  refine re_sw_out (tgt := 138) X dX7_mayMoveKind_1 (by
      have e1 := lv_neT (a := 0) e1 (by decide)
      have e2 := lv_neT (a := 1) e2 (by decide)
      have e5 := lv_neT (a := 2) e5 (by decide)
      have e6 := lv_neT (a := 3) e6 (by decide)
      have e7 := lv_neT (a := 4) e7 (by decide)
      have e9 := lv_neT (a := 5) e9 (by decide)
      omega) (by decide) ?_
  refine re_iconst (v := 1) X dX7_mayMoveKind_138 (by decide) ?_
  exact re_zret X (Or.inr rfl) dX7_mayMoveKind_139
theorem ca_X7_mayMoveKind {R : Room} (h1 : rm_X7_mayMoveKind.frames + 1 ≤ R.frames) (h2 : 8 + (3 + 11) + rm_X7_mayMoveKind.locals ≤ R.locals) : zCa yX7_mayMoveKind cX7_mayMoveKind 3 (some .boolean) rm_X7_mayMoveKind R 2 := ⟨cd_X7_mayMoveKind, iz_RX7, ⟨by decide, by decide, by decide⟩, rfl, rfl, h1, h2⟩
/-! DebateHouse$Session.mayMove -/
abbrev rm_X7_mayMove : Room := { frames := 4, cells := 0, slots := 0, locals := 88 }
def f_X7_mayMove_B96 (o : Nat) (u1 : Int32)  (x2 : Int32) (M : zMem) : zTr := zBd (f_X3_isOutrankedBy (o + 4) x2 M) (fun r10 M11 => if r10 = 0 then some (0, M11) else zCk (zIn u1 300) (zBd (f_X7_mayMoveKind o x2 (M11 19 (zIx u1)) M11) (fun r13 M14 => if r13 = 0 then some (0, M14) else some (1, M14))))
def f_X7_mayMove (o : Nat) (u1 : Int32) (M : zMem) : zTr := zCk (zIn u1 300) (zBd (f_X6_lets 3 (M 18 (zIx u1)) M) (fun r2 M3 => if r2 = 0 then some (0, M3) else zBd (f_X3_isFull (o + 4) M3) (fun r4 M5 => if r4 = 0 then (if (M 18 (zIx u1)) = 7 then zBd (f_X3_has (o + 4) 7 M5) (fun r6 M7 => if r6 = 0 then zBd (f_X7_mayAppeal o M7) (fun r8 M9 => if r8 = 0 then some (0, M9) else some (1, M9)) else some (0, M7)) else if (M5 (o + 1) 5) = (-1) then f_X7_mayMove_B96 o u1 (M 18 (zIx u1)) M5 else zCk (zIn u1 300) (if (M5 (o + 1) 5) = (M5 17 (zIx u1)) then f_X7_mayMove_B96 o u1 (M 18 (zIx u1)) M5 else some (0, M5))) else some (0, M5))))
set_option maxRecDepth 100000 in
theorem lb_X7_mayMove_96 {p : Program} {l : Launch} {e : Env} {s : State} {m : MethodId} {args : Array Value} {below : List Frame} {meth : Method} {c : Code} {w : zWD} {o : Nat} {u1 : Int32} (X : zCx p s m args meth c w (zFree w) RX7 cX7_mayMove 3 (some .boolean)) (ho : zKd w o = (7, 16)) : ∀ (x2 : Int32) (M : zMem), zRm p l e rm_X7_mayMove s m args below meth c w 2 96 [some (.ref (zA w o)), some (.int u1), some (.int x2)] [] M (f_X7_mayMove_B96 o u1 x2 M) := by
  intro x2 M
  unfold f_X7_mayMove_B96
  refine re_aload_n X dX7_mayMove_96 rfl rfl ?_
  refine re_getR X cl_7 (by decide) fl_RX7_47 ho rfl (zR_7_3 ho) dX7_mayMove_97 ?_
  refine re_iload_n X dX7_mayMove_100 rfl rfl ?_
  refine re_callVz X (lk_X3_isOutrankedBy l w (o + 4) x2 (zQ_7_3 X.clo ho)) (ca_X3_isOutrankedBy (by decide) (by decide)) ml_RX7_200 im_X3_isOutrankedBy se_X3_isOutrankedBy cl_3 (zQ_7_3 X.clo ho) rfl rfl rfl (zle rfl) zRo dX7_mayMove_101 (fun r10 M11 hr10 => ?_)
  refine re_if_eq (tgt := 128) X dX7_mayMove_104 (by decide) (fun _ => ?_) (fun _ => ?_)
  · refine re_iconst (v := 0) X dX7_mayMove_128 (by decide) ?_
    exact re_zret X (Or.inl rfl) dX7_mayMove_129
  · refine re_aload_n X dX7_mayMove_107 rfl rfl ?_
    refine re_iload_n X dX7_mayMove_108 rfl rfl ?_
    refine re_aload_n X dX7_mayMove_109 rfl rfl ?_
    refine re_getR X cl_7 (by decide) fl_RX7_29 ho rfl (zR_7_1 ho) dX7_mayMove_110 ?_
    refine re_getR X cl_2 (by decide) fl_RX7_159 (zQ_7_1 X.clo ho) rfl (zR_2_3 (zQ_7_1 X.clo ho)) dX7_mayMove_113 ?_
    refine re_iload_n X dX7_mayMove_116 rfl rfl ?_
    refine re_ck (fun hi12 => ?_)
    refine re_iald X (zQ_2_3 X.clo (zQ_7_1 X.clo ho)) hi12 (j := zIx u1) rfl dX7_mayMove_117 ?_
    refine re_callVz X (lk_X7_mayMoveKind l w o x2 (M11 19 (zIx u1)) ho) (ca_X7_mayMoveKind (by decide) (by decide)) ml_RX7_203 im_X7_mayMoveKind se_X7_mayMoveKind cl_7 ho rfl rfl rfl (zle rfl) zRo dX7_mayMove_118 (fun r13 M14 hr13 => ?_)
    refine re_if_eq (tgt := 128) X dX7_mayMove_121 (by decide) (fun _ => ?_) (fun _ => ?_)
    · refine re_iconst (v := 0) X dX7_mayMove_128 (by decide) ?_
      exact re_zret X (Or.inl rfl) dX7_mayMove_129
    · refine re_iconst (v := 1) X dX7_mayMove_124 (by decide) ?_
      refine re_goto (tgt := 129) X dX7_mayMove_125 (by decide) ?_
      exact re_zret X (Or.inr rfl) dX7_mayMove_129

set_option maxRecDepth 100000 in
theorem lk_X7_mayMove (l : Launch) (w : zWD) (o : Nat) (u1 : Int32) (ho : zKd w o = (7, 16)) : zMt l w yX7_mayMove cX7_mayMove 3 (some .boolean) rm_X7_mayMove 2 [.ref (zA w o), .int u1] (fun M => f_X7_mayMove o u1 M) := by
  refine zMt.of (by decide) [some (.ref (zA w o)), some (.int u1), none] rfl (zle rfl) (by intro v hv; simp only [List.mem_cons, List.not_mem_nil, or_false] at hv; rcases hv with rfl | rfl <;> rfl) ?_
  intro p e s m args below meth c X M
  unfold f_X7_mayMove
  refine re_aload_n X dX7_mayMove_0 rfl rfl ?_
  refine re_getR X cl_7 (by decide) fl_RX7_29 ho rfl (zR_7_1 ho) dX7_mayMove_1 ?_
  refine re_getR X cl_2 (by decide) fl_RX7_165 (zQ_7_1 X.clo ho) rfl (zR_2_2 (zQ_7_1 X.clo ho)) dX7_mayMove_4 ?_
  refine re_iload_n X dX7_mayMove_7 rfl rfl ?_
  refine re_ck (fun hi1 => ?_)
  refine re_iald X (zQ_2_2 X.clo (zQ_7_1 X.clo ho)) hi1 (j := zIx u1) rfl dX7_mayMove_8 ?_
  refine re_istore_n (lv' := [some (.ref (zA w o)), some (.int u1), some (.int (M 18 (zIx u1)))]) X dX7_mayMove_9 rfl (zlt rfl) rfl ?_
  refine re_aload_n X dX7_mayMove_10 rfl rfl ?_
  refine re_getR X cl_7 (by decide) fl_RX7_25 ho rfl (zR_7_0 ho) dX7_mayMove_11 ?_
  refine re_iload_n X dX7_mayMove_14 rfl rfl ?_
  refine re_callVz X (lk_X6_lets l w 3 (M 18 (zIx u1)) (zQ_7_0 X.clo ho)) (ca_X6_lets (by decide) (by decide)) ml_RX7_187 im_X6_lets se_X6_lets cl_6 (zQ_7_0 X.clo ho) rfl rfl rfl (zle rfl) zRo dX7_mayMove_15 (fun r2 M3 hr2 => ?_)
  refine re_if_eq (tgt := 31) X dX7_mayMove_18 (by decide) (fun _ => ?_) (fun _ => ?_)
  · refine re_iconst (v := 0) X dX7_mayMove_31 (by decide) ?_
    exact re_zret X (Or.inl rfl) dX7_mayMove_32
  · refine re_aload_n X dX7_mayMove_21 rfl rfl ?_
    refine re_getR X cl_7 (by decide) fl_RX7_47 ho rfl (zR_7_3 ho) dX7_mayMove_22 ?_
    refine re_callVz X (lk_X3_isFull l w (o + 4) (zQ_7_3 X.clo ho)) (ca_X3_isFull (by decide) (by decide)) ml_RX7_190 im_X3_isFull se_X3_isFull cl_3 (zQ_7_3 X.clo ho) rfl rfl rfl (zle rfl) zRo dX7_mayMove_25 (fun r4 M5 hr4 => ?_)
    refine re_if_eq (tgt := 33) X dX7_mayMove_28 (by decide) (fun _ => ?_) (fun _ => ?_)
    · refine re_iload_n X dX7_mayMove_33 rfl rfl ?_
      refine re_bipush (v := 7) X dX7_mayMove_34 (by decide) ?_
      refine re_icmp_ne (tgt := 64) X dX7_mayMove_36 (by decide) (fun _ => ?_) (fun _ => ?_)
      · refine re_aload_n X dX7_mayMove_39 rfl rfl ?_
        refine re_getR X cl_7 (by decide) fl_RX7_47 ho rfl (zR_7_3 ho) dX7_mayMove_40 ?_
        refine re_bipush (v := 7) X dX7_mayMove_43 (by decide) ?_
        refine re_callVz X (lk_X3_has l w (o + 4) 7 (zQ_7_3 X.clo ho)) (ca_X3_has (by decide) (by decide)) ml_RX7_194 im_X3_has se_X3_has cl_3 (zQ_7_3 X.clo ho) rfl rfl rfl (zle rfl) zRo dX7_mayMove_45 (fun r6 M7 hr6 => ?_)
        refine re_if_ne (tgt := 62) X dX7_mayMove_48 (by decide) (fun _ => ?_) (fun _ => ?_)
        · refine re_aload_n X dX7_mayMove_51 rfl rfl ?_
          refine re_callVz X (lk_X7_mayAppeal l w o ho) (ca_X7_mayAppeal (by decide) (by decide)) ml_RX7_197 im_X7_mayAppeal se_X7_mayAppeal cl_7 ho rfl rfl rfl (zle rfl) zRo dX7_mayMove_52 (fun r8 M9 hr8 => ?_)
          refine re_if_eq (tgt := 62) X dX7_mayMove_55 (by decide) (fun _ => ?_) (fun _ => ?_)
          · refine re_iconst (v := 0) X dX7_mayMove_62 (by decide) ?_
            exact re_zret X (Or.inl rfl) dX7_mayMove_63
          · refine re_iconst (v := 1) X dX7_mayMove_58 (by decide) ?_
            refine re_goto (tgt := 63) X dX7_mayMove_59 (by decide) ?_
            exact re_zret X (Or.inr rfl) dX7_mayMove_63
        · refine re_iconst (v := 0) X dX7_mayMove_62 (by decide) ?_
          exact re_zret X (Or.inl rfl) dX7_mayMove_63
      · refine re_aload_n X dX7_mayMove_64 rfl rfl ?_
        refine re_getR X cl_7 (by decide) fl_RX7_38 ho rfl (zR_7_2 ho) dX7_mayMove_65 ?_
        refine re_getI X cl_0 (by decide) fl_RX7_131 (zQ_7_2 X.clo ho) rfl dX7_mayMove_68 ?_
        refine re_iconst (v := -1) X dX7_mayMove_71 (by decide) ?_
        refine re_icmp_eq (tgt := 96) X dX7_mayMove_72 (by decide) (fun _ => ?_) (fun _ => ?_)
        · exact lb_X7_mayMove_96 X ho (M 18 (zIx u1)) M5
        · refine re_aload_n X dX7_mayMove_75 rfl rfl ?_
          refine re_getR X cl_7 (by decide) fl_RX7_38 ho rfl (zR_7_2 ho) dX7_mayMove_76 ?_
          refine re_getI X cl_0 (by decide) fl_RX7_131 (zQ_7_2 X.clo ho) rfl dX7_mayMove_79 ?_
          refine re_aload_n X dX7_mayMove_82 rfl rfl ?_
          refine re_getR X cl_7 (by decide) fl_RX7_29 ho rfl (zR_7_1 ho) dX7_mayMove_83 ?_
          refine re_getR X cl_2 (by decide) fl_RX7_150 (zQ_7_1 X.clo ho) rfl (zR_2_1 (zQ_7_1 X.clo ho)) dX7_mayMove_86 ?_
          refine re_iload_n X dX7_mayMove_89 rfl rfl ?_
          refine re_ck (fun hi15 => ?_)
          refine re_iald X (zQ_2_1 X.clo (zQ_7_1 X.clo ho)) hi15 (j := zIx u1) rfl dX7_mayMove_90 ?_
          refine re_icmp_eq (tgt := 96) X dX7_mayMove_91 (by decide) (fun _ => ?_) (fun _ => ?_)
          · exact lb_X7_mayMove_96 X ho (M 18 (zIx u1)) M5
          · refine re_iconst (v := 0) X dX7_mayMove_94 (by decide) ?_
            exact re_zret X (Or.inl rfl) dX7_mayMove_95
    · refine re_iconst (v := 0) X dX7_mayMove_31 (by decide) ?_
      exact re_zret X (Or.inl rfl) dX7_mayMove_32
theorem ca_X7_mayMove {R : Room} (h1 : rm_X7_mayMove.frames + 1 ≤ R.frames) (h2 : 8 + (3 + 11) + rm_X7_mayMove.locals ≤ R.locals) : zCa yX7_mayMove cX7_mayMove 3 (some .boolean) rm_X7_mayMove R 1 := ⟨cd_X7_mayMove, iz_RX7, ⟨by decide, by decide, by decide⟩, rfl, rfl, h1, h2⟩
/-! DebateHouse$Session.isInOrder -/
abbrev rm_X7_isInOrder : Room := { frames := 5, cells := 0, slots := 0, locals := 110 }
def f_X7_isInOrder (o : Nat) (u1 : Int32) (M : zMem) : zTr := zCk (zIn u1 300) (zCk (zIn u1 300) (if (M 16 (zIx u1)) = 2 then zBd (f_X0_mayAsk (o + 1) (M 17 (zIx u1)) M) (fun r4 M5 => some (r4, M5)) else if (M 16 (zIx u1)) = 3 then (if (M (o + 1) 4) ≤ 0 then some (0, M) else if (M (o + 1) 5) = (-1) then some (1, M) else some (0, M)) else if (M 16 (zIx u1)) = 4 then some (1, M) else if (M 16 (zIx u1)) = 5 then zBd (f_X0_mayYieldTo (o + 1) (M 17 (zIx u1)) M) (fun r9 M10 => some (r9, M10)) else if (M 16 (zIx u1)) = 6 then zBd (f_X7_mayMove o u1 M) (fun r12 M13 => some (r12, M13)) else if (M 16 (zIx u1)) = 7 then zBd (f_X3_maySecond (o + 4) (M 17 (zIx u1)) M) (fun r15 M16 => some (r15, M16)) else if (M 16 (zIx u1)) = 8 then zBd (f_X3_mayDecide (o + 4) 0 M) (fun r18 M19 => some (r18, M19)) else if (M 16 (zIx u1)) = 9 then zBd (f_X3_mayDecide (o + 4) 1 M) (fun r21 M22 => some (r21, M22)) else some (1, M)))
set_option maxRecDepth 100000 in
theorem lk_X7_isInOrder (l : Launch) (w : zWD) (o : Nat) (u1 : Int32) (ho : zKd w o = (7, 16)) : zMt l w yX7_isInOrder cX7_isInOrder 3 (some .boolean) rm_X7_isInOrder 2 [.ref (zA w o), .int u1] (fun M => f_X7_isInOrder o u1 M) := by
  refine zMt.of (by decide) [some (.ref (zA w o)), some (.int u1), none] rfl (zle rfl) (by intro v hv; simp only [List.mem_cons, List.not_mem_nil, or_false] at hv; rcases hv with rfl | rfl <;> rfl) ?_
  intro p e s m args below meth c X M
  unfold f_X7_isInOrder
  refine re_aload_n X dX7_isInOrder_0 rfl rfl ?_
  refine re_getR X cl_7 (by decide) fl_RX7_29 ho rfl (zR_7_1 ho) dX7_isInOrder_1 ?_
  refine re_getR X cl_2 (by decide) fl_RX7_150 (zQ_7_1 X.clo ho) rfl (zR_2_1 (zQ_7_1 X.clo ho)) dX7_isInOrder_4 ?_
  refine re_iload_n X dX7_isInOrder_7 rfl rfl ?_
  refine re_ck (fun hi1 => ?_)
  refine re_iald X (zQ_2_1 X.clo (zQ_7_1 X.clo ho)) hi1 (j := zIx u1) rfl dX7_isInOrder_8 ?_
  refine re_istore_n (lv' := [some (.ref (zA w o)), some (.int u1), some (.int (M 17 (zIx u1)))]) X dX7_isInOrder_9 rfl (zlt rfl) rfl ?_
  refine re_aload_n X dX7_isInOrder_10 rfl rfl ?_
  refine re_getR X cl_7 (by decide) fl_RX7_29 ho rfl (zR_7_1 ho) dX7_isInOrder_11 ?_
  refine re_getR X cl_2 (by decide) fl_RX7_115 (zQ_7_1 X.clo ho) rfl (zR_2_0 (zQ_7_1 X.clo ho)) dX7_isInOrder_14 ?_
  refine re_iload_n X dX7_isInOrder_17 rfl rfl ?_
  refine re_ck (fun hi2 => ?_)
  refine re_iald X (zQ_2_0 X.clo (zQ_7_1 X.clo ho)) hi2 (j := zIx u1) rfl dX7_isInOrder_18 ?_
  refine re_if (fun e3 => ?_) (fun e3 => ?_)
  · refine re_sw_in (v := 2) (off := 45) (tgt := 64) X dX7_isInOrder_19 e3 (by decide) (by decide) (by decide +kernel) (by decide) ?_
    refine re_aload_n X dX7_isInOrder_64 rfl rfl ?_
    refine re_getR X cl_7 (by decide) fl_RX7_38 ho rfl (zR_7_2 ho) dX7_isInOrder_65 ?_
    refine re_iload_n X dX7_isInOrder_68 rfl rfl ?_
    refine re_callVz X (lk_X0_mayAsk l w (o + 1) (M 17 (zIx u1)) (zQ_7_2 X.clo ho)) (ca_X0_mayAsk (by decide) (by decide)) ml_RX7_171 im_X0_mayAsk se_X0_mayAsk cl_0 (zQ_7_2 X.clo ho) rfl rfl rfl (zle rfl) zRo dX7_isInOrder_69 (fun r4 M5 hr4 => ?_)
    exact re_zret X hr4 dX7_isInOrder_72
  refine re_if (fun e6 => ?_) (fun e6 => ?_)
  · refine re_sw_in (v := 3) (off := 54) (tgt := 73) X dX7_isInOrder_19 e6 (by decide) (by decide) (by decide +kernel) (by decide) ?_
    refine re_aload_n X dX7_isInOrder_73 rfl rfl ?_
    refine re_getR X cl_7 (by decide) fl_RX7_38 ho rfl (zR_7_2 ho) dX7_isInOrder_74 ?_
    refine re_getI X cl_0 (by decide) fl_RX7_128 (zQ_7_2 X.clo ho) rfl dX7_isInOrder_77 ?_
    refine re_if_le (tgt := 98) X dX7_isInOrder_80 (by decide) (fun _ => ?_) (fun _ => ?_)
    · refine re_iconst (v := 0) X dX7_isInOrder_98 (by decide) ?_
      exact re_zret X (Or.inl rfl) dX7_isInOrder_99
    · refine re_aload_n X dX7_isInOrder_83 rfl rfl ?_
      refine re_getR X cl_7 (by decide) fl_RX7_38 ho rfl (zR_7_2 ho) dX7_isInOrder_84 ?_
      refine re_getI X cl_0 (by decide) fl_RX7_131 (zQ_7_2 X.clo ho) rfl dX7_isInOrder_87 ?_
      refine re_iconst (v := -1) X dX7_isInOrder_90 (by decide) ?_
      refine re_icmp_ne (tgt := 98) X dX7_isInOrder_91 (by decide) (fun _ => ?_) (fun _ => ?_)
      · refine re_iconst (v := 1) X dX7_isInOrder_94 (by decide) ?_
        refine re_goto (tgt := 99) X dX7_isInOrder_95 (by decide) ?_
        exact re_zret X (Or.inr rfl) dX7_isInOrder_99
      · refine re_iconst (v := 0) X dX7_isInOrder_98 (by decide) ?_
        exact re_zret X (Or.inl rfl) dX7_isInOrder_99
  refine re_if (fun e7 => ?_) (fun e7 => ?_)
  · refine re_sw_in (v := 4) (off := 123) (tgt := 142) X dX7_isInOrder_19 e7 (by decide) (by decide) (by decide +kernel) (by decide) ?_
    refine re_iconst (v := 1) X dX7_isInOrder_142 (by decide) ?_
    exact re_zret X (Or.inr rfl) dX7_isInOrder_143
  refine re_if (fun e8 => ?_) (fun e8 => ?_)
  · refine re_sw_in (v := 5) (off := 81) (tgt := 100) X dX7_isInOrder_19 e8 (by decide) (by decide) (by decide +kernel) (by decide) ?_
    refine re_aload_n X dX7_isInOrder_100 rfl rfl ?_
    refine re_getR X cl_7 (by decide) fl_RX7_38 ho rfl (zR_7_2 ho) dX7_isInOrder_101 ?_
    refine re_iload_n X dX7_isInOrder_104 rfl rfl ?_
    refine re_callVz X (lk_X0_mayYieldTo l w (o + 1) (M 17 (zIx u1)) (zQ_7_2 X.clo ho)) (ca_X0_mayYieldTo (by decide) (by decide)) ml_RX7_174 im_X0_mayYieldTo se_X0_mayYieldTo cl_0 (zQ_7_2 X.clo ho) rfl rfl rfl (zle rfl) zRo dX7_isInOrder_105 (fun r9 M10 hr9 => ?_)
    exact re_zret X hr9 dX7_isInOrder_108
  refine re_if (fun e11 => ?_) (fun e11 => ?_)
  · refine re_sw_in (v := 6) (off := 90) (tgt := 109) X dX7_isInOrder_19 e11 (by decide) (by decide) (by decide +kernel) (by decide) ?_
    refine re_aload_n X dX7_isInOrder_109 rfl rfl ?_
    refine re_iload_n X dX7_isInOrder_110 rfl rfl ?_
    refine re_callVz X (lk_X7_mayMove l w o u1 ho) (ca_X7_mayMove (by decide) (by decide)) ml_RX7_177 im_X7_mayMove se_X7_mayMove cl_7 ho rfl rfl rfl (zle rfl) zRo dX7_isInOrder_111 (fun r12 M13 hr12 => ?_)
    exact re_zret X hr12 dX7_isInOrder_114
  refine re_if (fun e14 => ?_) (fun e14 => ?_)
  · refine re_sw_in (v := 7) (off := 96) (tgt := 115) X dX7_isInOrder_19 e14 (by decide) (by decide) (by decide +kernel) (by decide) ?_
    refine re_aload_n X dX7_isInOrder_115 rfl rfl ?_
    refine re_getR X cl_7 (by decide) fl_RX7_47 ho rfl (zR_7_3 ho) dX7_isInOrder_116 ?_
    refine re_iload_n X dX7_isInOrder_119 rfl rfl ?_
    refine re_callVz X (lk_X3_maySecond l w (o + 4) (M 17 (zIx u1)) (zQ_7_3 X.clo ho)) (ca_X3_maySecond (by decide) (by decide)) ml_RX7_180 im_X3_maySecond se_X3_maySecond cl_3 (zQ_7_3 X.clo ho) rfl rfl rfl (zle rfl) zRo dX7_isInOrder_120 (fun r15 M16 hr15 => ?_)
    exact re_zret X hr15 dX7_isInOrder_123
  refine re_if (fun e17 => ?_) (fun e17 => ?_)
  · refine re_sw_in (v := 8) (off := 105) (tgt := 124) X dX7_isInOrder_19 e17 (by decide) (by decide) (by decide +kernel) (by decide) ?_
    refine re_aload_n X dX7_isInOrder_124 rfl rfl ?_
    refine re_getR X cl_7 (by decide) fl_RX7_47 ho rfl (zR_7_3 ho) dX7_isInOrder_125 ?_
    refine re_iconst (v := 0) X dX7_isInOrder_128 (by decide) ?_
    refine re_callVz X (lk_X3_mayDecide l w (o + 4) 0 (zQ_7_3 X.clo ho)) (ca_X3_mayDecide (by decide) (by decide)) ml_RX7_183 im_X3_mayDecide se_X3_mayDecide cl_3 (zQ_7_3 X.clo ho) rfl rfl rfl (zle rfl) zRo dX7_isInOrder_129 (fun r18 M19 hr18 => ?_)
    exact re_zret X hr18 dX7_isInOrder_132
  refine re_if (fun e20 => ?_) (fun e20 => ?_)
  · refine re_sw_in (v := 9) (off := 114) (tgt := 133) X dX7_isInOrder_19 e20 (by decide) (by decide) (by decide +kernel) (by decide) ?_
    refine re_aload_n X dX7_isInOrder_133 rfl rfl ?_
    refine re_getR X cl_7 (by decide) fl_RX7_47 ho rfl (zR_7_3 ho) dX7_isInOrder_134 ?_
    refine re_iconst (v := 1) X dX7_isInOrder_137 (by decide) ?_
    refine re_callVz X (lk_X3_mayDecide l w (o + 4) 1 (zQ_7_3 X.clo ho)) (ca_X3_mayDecide (by decide) (by decide)) ml_RX7_183 im_X3_mayDecide se_X3_mayDecide cl_3 (zQ_7_3 X.clo ho) rfl rfl rfl (zle rfl) zRo dX7_isInOrder_138 (fun r21 M22 hr21 => ?_)
    exact re_zret X hr21 dX7_isInOrder_141
  refine re_sw_out (tgt := 142) X dX7_isInOrder_19 (by
      have e3 := lv_neT (a := 2) e3 (by decide)
      have e6 := lv_neT (a := 3) e6 (by decide)
      have e7 := lv_neT (a := 4) e7 (by decide)
      have e8 := lv_neT (a := 5) e8 (by decide)
      have e11 := lv_neT (a := 6) e11 (by decide)
      have e14 := lv_neT (a := 7) e14 (by decide)
      have e17 := lv_neT (a := 8) e17 (by decide)
      have e20 := lv_neT (a := 9) e20 (by decide)
      omega) (by decide) ?_
  refine re_iconst (v := 1) X dX7_isInOrder_142 (by decide) ?_
  exact re_zret X (Or.inr rfl) dX7_isInOrder_143
theorem ca_X7_isInOrder {R : Room} (h1 : rm_X7_isInOrder.frames + 1 ≤ R.frames) (h2 : 8 + (3 + 11) + rm_X7_isInOrder.locals ≤ R.locals) : zCa yX7_isInOrder cX7_isInOrder 3 (some .boolean) rm_X7_isInOrder R 1 := ⟨cd_X7_isInOrder, iz_RX7, ⟨by decide, by decide, by decide⟩, rfl, rfl, h1, h2⟩
/-! DebateHouse$Session.hasOther -/
abbrev rm_X7_hasOther : Room := { frames := 2, cells := 0, slots := 0, locals := 41 }
def f_X7_hasOther (o : Nat) (u1 : Int32) (u2 : Int32) (M : zMem) : zTr := if u2 = 0 then some (1, M) else if u2 = 6 then zCk (zIn u1 300) (if (M 16 (zIx u1)) = 6 then zCk (zIn u1 300) (zBd (f_X6_lets 3 (M 18 (zIx u1)) M) (fun r3 M4 => if r3 = 0 then some (0, M4) else zBd (f_X3_isFull (o + 4) M4) (fun r5 M6 => if r5 = 0 then some (1, M6) else some (0, M6)))) else zCk (zIn u1 300) (if (M 16 (zIx u1)) = 5 then (if (M (o + 1) 5) = (-1) then some (0, M) else some (1, M)) else some (0, M))) else some (0, M)
set_option maxRecDepth 100000 in
theorem lk_X7_hasOther (l : Launch) (w : zWD) (o : Nat) (u1 : Int32) (u2 : Int32) (ho : zKd w o = (7, 16)) : zMt l w yX7_hasOther cX7_hasOther 3 (some .boolean) rm_X7_hasOther 2 [.ref (zA w o), .int u1, .int u2] (fun M => f_X7_hasOther o u1 u2 M) := by
  refine zMt.of (by decide) [some (.ref (zA w o)), some (.int u1), some (.int u2)] rfl (zle rfl) (by intro v hv; simp only [List.mem_cons, List.not_mem_nil, or_false] at hv; rcases hv with rfl | rfl | rfl <;> rfl) ?_
  intro p e s m args below meth c X M
  unfold f_X7_hasOther
  refine re_iload_n X dX7_hasOther_0 rfl rfl ?_
  refine re_if_ne (tgt := 6) X dX7_hasOther_1 (by decide) (fun _ => ?_) (fun _ => ?_)
  · refine re_iconst (v := 1) X dX7_hasOther_4 (by decide) ?_
    exact re_zret X (Or.inr rfl) dX7_hasOther_5
  · refine re_iload_n X dX7_hasOther_6 rfl rfl ?_
    refine re_bipush (v := 6) X dX7_hasOther_7 (by decide) ?_
    refine re_icmp_eq (tgt := 14) X dX7_hasOther_9 (by decide) (fun _ => ?_) (fun _ => ?_)
    · refine re_aload_n X dX7_hasOther_14 rfl rfl ?_
      refine re_getR X cl_7 (by decide) fl_RX7_29 ho rfl (zR_7_1 ho) dX7_hasOther_15 ?_
      refine re_getR X cl_2 (by decide) fl_RX7_115 (zQ_7_1 X.clo ho) rfl (zR_2_0 (zQ_7_1 X.clo ho)) dX7_hasOther_18 ?_
      refine re_iload_n X dX7_hasOther_21 rfl rfl ?_
      refine re_ck (fun hi1 => ?_)
      refine re_iald X (zQ_2_0 X.clo (zQ_7_1 X.clo ho)) hi1 (j := zIx u1) rfl dX7_hasOther_22 ?_
      refine re_bipush (v := 6) X dX7_hasOther_23 (by decide) ?_
      refine re_icmp_ne (tgt := 63) X dX7_hasOther_25 (by decide) (fun _ => ?_) (fun _ => ?_)
      · refine re_aload_n X dX7_hasOther_28 rfl rfl ?_
        refine re_getR X cl_7 (by decide) fl_RX7_25 ho rfl (zR_7_0 ho) dX7_hasOther_29 ?_
        refine re_aload_n X dX7_hasOther_32 rfl rfl ?_
        refine re_getR X cl_7 (by decide) fl_RX7_29 ho rfl (zR_7_1 ho) dX7_hasOther_33 ?_
        refine re_getR X cl_2 (by decide) fl_RX7_165 (zQ_7_1 X.clo ho) rfl (zR_2_2 (zQ_7_1 X.clo ho)) dX7_hasOther_36 ?_
        refine re_iload_n X dX7_hasOther_39 rfl rfl ?_
        refine re_ck (fun hi2 => ?_)
        refine re_iald X (zQ_2_2 X.clo (zQ_7_1 X.clo ho)) hi2 (j := zIx u1) rfl dX7_hasOther_40 ?_
        refine re_callVz X (lk_X6_lets l w 3 (M 18 (zIx u1)) (zQ_7_0 X.clo ho)) (ca_X6_lets (by decide) (by decide)) ml_RX7_187 im_X6_lets se_X6_lets cl_6 (zQ_7_0 X.clo ho) rfl rfl rfl (zle rfl) zRo dX7_hasOther_41 (fun r3 M4 hr3 => ?_)
        refine re_if_eq (tgt := 61) X dX7_hasOther_44 (by decide) (fun _ => ?_) (fun _ => ?_)
        · refine re_iconst (v := 0) X dX7_hasOther_61 (by decide) ?_
          exact re_zret X (Or.inl rfl) dX7_hasOther_62
        · refine re_aload_n X dX7_hasOther_47 rfl rfl ?_
          refine re_getR X cl_7 (by decide) fl_RX7_47 ho rfl (zR_7_3 ho) dX7_hasOther_48 ?_
          refine re_callVz X (lk_X3_isFull l w (o + 4) (zQ_7_3 X.clo ho)) (ca_X3_isFull (by decide) (by decide)) ml_RX7_190 im_X3_isFull se_X3_isFull cl_3 (zQ_7_3 X.clo ho) rfl rfl rfl (zle rfl) zRo dX7_hasOther_51 (fun r5 M6 hr5 => ?_)
          refine re_if_ne (tgt := 61) X dX7_hasOther_54 (by decide) (fun _ => ?_) (fun _ => ?_)
          · refine re_iconst (v := 1) X dX7_hasOther_57 (by decide) ?_
            refine re_goto (tgt := 62) X dX7_hasOther_58 (by decide) ?_
            exact re_zret X (Or.inr rfl) dX7_hasOther_62
          · refine re_iconst (v := 0) X dX7_hasOther_61 (by decide) ?_
            exact re_zret X (Or.inl rfl) dX7_hasOther_62
      · refine re_aload_n X dX7_hasOther_63 rfl rfl ?_
        refine re_getR X cl_7 (by decide) fl_RX7_29 ho rfl (zR_7_1 ho) dX7_hasOther_64 ?_
        refine re_getR X cl_2 (by decide) fl_RX7_115 (zQ_7_1 X.clo ho) rfl (zR_2_0 (zQ_7_1 X.clo ho)) dX7_hasOther_67 ?_
        refine re_iload_n X dX7_hasOther_70 rfl rfl ?_
        refine re_ck (fun hi7 => ?_)
        refine re_iald X (zQ_2_0 X.clo (zQ_7_1 X.clo ho)) hi7 (j := zIx u1) rfl dX7_hasOther_71 ?_
        refine re_iconst (v := 5) X dX7_hasOther_72 (by decide) ?_
        refine re_icmp_ne (tgt := 91) X dX7_hasOther_73 (by decide) (fun _ => ?_) (fun _ => ?_)
        · refine re_aload_n X dX7_hasOther_76 rfl rfl ?_
          refine re_getR X cl_7 (by decide) fl_RX7_38 ho rfl (zR_7_2 ho) dX7_hasOther_77 ?_
          refine re_getI X cl_0 (by decide) fl_RX7_131 (zQ_7_2 X.clo ho) rfl dX7_hasOther_80 ?_
          refine re_iconst (v := -1) X dX7_hasOther_83 (by decide) ?_
          refine re_icmp_eq (tgt := 91) X dX7_hasOther_84 (by decide) (fun _ => ?_) (fun _ => ?_)
          · refine re_iconst (v := 0) X dX7_hasOther_91 (by decide) ?_
            exact re_zret X (Or.inl rfl) dX7_hasOther_92
          · refine re_iconst (v := 1) X dX7_hasOther_87 (by decide) ?_
            refine re_goto (tgt := 92) X dX7_hasOther_88 (by decide) ?_
            exact re_zret X (Or.inr rfl) dX7_hasOther_92
        · refine re_iconst (v := 0) X dX7_hasOther_91 (by decide) ?_
          exact re_zret X (Or.inl rfl) dX7_hasOther_92
    · refine re_iconst (v := 0) X dX7_hasOther_12 (by decide) ?_
      exact re_zret X (Or.inl rfl) dX7_hasOther_13
theorem ca_X7_hasOther {R : Room} (h1 : rm_X7_hasOther.frames + 1 ≤ R.frames) (h2 : 8 + (3 + 11) + rm_X7_hasOther.locals ≤ R.locals) : zCa yX7_hasOther cX7_hasOther 3 (some .boolean) rm_X7_hasOther R 2 := ⟨cd_X7_hasOther, iz_RX7, ⟨by decide, by decide, by decide⟩, rfl, rfl, h1, h2⟩
/-! DebateHouse$Session.letTicksGo -/
abbrev rm_X7_letTicksGo : Room := { frames := 2, cells := 0, slots := 0, locals := 42 }
def f_X7_letTicksGo (o : Nat) (u1 : Int32) (M : zMem) : zTr := zLt (zUp M o 14 ((M o 14) + u1)) (fun M1 => zBd (f_X0_spend (o + 1) u1 M1) (fun _ M3 => zLt (zUp M3 o 13 (zMax 0 ((M3 o 13) - u1))) (fun M4 => some (0, M4))))
set_option maxRecDepth 100000 in
theorem lk_X7_letTicksGo (l : Launch) (w : zWD) (o : Nat) (u1 : Int32) (ho : zKd w o = (7, 16)) : zMt l w yX7_letTicksGo cX7_letTicksGo 2 none rm_X7_letTicksGo 0 [.ref (zA w o), .int u1] (fun M => f_X7_letTicksGo o u1 M) := by
  refine zMt.of (by decide) [some (.ref (zA w o)), some (.int u1)] rfl (zle rfl) (by intro v hv; simp only [List.mem_cons, List.not_mem_nil, or_false] at hv; rcases hv with rfl | rfl <;> rfl) ?_
  intro p e s m args below meth c X M
  unfold f_X7_letTicksGo
  refine re_aload_n X dX7_letTicksGo_0 rfl rfl ?_
  refine re_dup X dX7_letTicksGo_1 rfl ?_
  refine re_getI X cl_7 (by decide) fl_RX7_89 ho rfl dX7_letTicksGo_2 ?_
  refine re_iload_n X dX7_letTicksGo_5 rfl rfl ?_
  refine re_iadd X dX7_letTicksGo_6 ?_
  refine re_putI X cl_7 (by decide) fl_RX7_89 ho rfl rfl rfl dX7_letTicksGo_7 (fun M1 => ?_)
  refine re_aload_n X dX7_letTicksGo_10 rfl rfl ?_
  refine re_getR X cl_7 (by decide) fl_RX7_38 ho rfl (zR_7_2 ho) dX7_letTicksGo_11 ?_
  refine re_iload_n X dX7_letTicksGo_14 rfl rfl ?_
  refine re_callVv X (lk_X0_spend l w (o + 1) u1 (zQ_7_2 X.clo ho)) (ca_X0_spend (by decide) (by decide)) ml_RX7_237 im_X0_spend se_X0_spend cl_0 (zQ_7_2 X.clo ho) rfl rfl rfl (zle rfl) zRo dX7_letTicksGo_15 (fun r2 M3 hr2 => ?_)
  refine re_aload_n X dX7_letTicksGo_18 rfl rfl ?_
  refine re_iconst (v := 0) X dX7_letTicksGo_19 (by decide) ?_
  refine re_aload_n X dX7_letTicksGo_20 rfl rfl ?_
  refine re_getI X cl_7 (by decide) fl_RX7_86 ho rfl dX7_letTicksGo_21 ?_
  refine re_iload_n X dX7_letTicksGo_24 rfl rfl ?_
  refine re_isub X dX7_letTicksGo_25 ?_
  refine re_mmax X ml_RX7_240 (by decide) rfl (zle rfl) zRo dX7_letTicksGo_26 ?_
  refine re_putI X cl_7 (by decide) fl_RX7_86 ho rfl rfl rfl dX7_letTicksGo_29 (fun M4 => ?_)
  exact re_vret X dX7_letTicksGo_32
theorem ca_X7_letTicksGo {R : Room} (h1 : rm_X7_letTicksGo.frames + 1 ≤ R.frames) (h2 : 8 + (2 + 11) + rm_X7_letTicksGo.locals ≤ R.locals) : zCa yX7_letTicksGo cX7_letTicksGo 2 none rm_X7_letTicksGo R 1 := ⟨cd_X7_letTicksGo, iz_RX7, ⟨by decide, by decide, by decide⟩, rfl, rfl, h1, h2⟩
/-! DebateHouse$Session.isCarried -/
abbrev rm_X7_isCarried : Room := { frames := 1, cells := 0, slots := 0, locals := 20 }
def f_X7_isCarried_B35 (o : Nat) (u1 : Int32) (u2 : Int32) (u3 : Int32)  (x4 : Int32) (x5 : Int32) (y0 : Int32) (M : zMem) : zTr := if y0 = 0 then (if (2 * x4) ≤ x5 then some (0, M) else some (1, M)) else if y0 = 1 then (if (3 * x4) < (2 * x5) then some (0, M) else if x4 ≤ 0 then some (0, M) else some (1, M)) else if y0 = 2 then (if (4 * x4) ≤ x5 then some (0, M) else some (1, M)) else some (0, M)
def f_X7_isCarried (o : Nat) (u1 : Int32) (u2 : Int32) (u3 : Int32) (M : zMem) : zTr := zBd (f_J6_bitCount_0f7a4 u2 M) (fun r1 M2 => zBd (f_J6_bitCount_0f7a4 u3 M2) (fun r3 M4 => zBd (f_X9_isKind u1 M4) (fun r5 M6 => if r5 = 0 then f_X7_isCarried_B35 o u1 u2 u3 r1 (r1 + r3) (-1) M6 else zCk (zIn u1 8) (f_X7_isCarried_B35 o u1 u2 u3 r1 (r1 + r3) (M6 (3 + 2) (zIx u1)) M6))))
set_option maxRecDepth 100000 in
theorem lb_X7_isCarried_35 {p : Program} {l : Launch} {e : Env} {s : State} {m : MethodId} {args : Array Value} {below : List Frame} {meth : Method} {c : Code} {w : zWD} {o : Nat} {u1 : Int32} {u2 : Int32} {u3 : Int32} (X : zCx p s m args meth c w (zFree w) RX7 cX7_isCarried 6 (some .boolean)) (ho : zKd w o = (7, 16)) : ∀ (x4 : Int32) (x5 : Int32) (y0 : Int32) (M : zMem), zRm p l e rm_X7_isCarried s m args below meth c w 2 35 [none, none, none, none, some (.int x4), some (.int x5)] [.int y0] M (f_X7_isCarried_B35 o u1 u2 u3 x4 x5 y0 M) := by
  intro x4 x5 y0 M
  unfold f_X7_isCarried_B35
  refine re_if (fun e7 => ?_) (fun e7 => ?_)
  · refine re_sw_in (v := 0) (off := 25) (tgt := 60) X dX7_isCarried_35 e7 (by decide) (by decide) (by decide +kernel) (by decide) ?_
    refine re_iconst (v := 2) X dX7_isCarried_60 (by decide) ?_
    refine re_iload X dX7_isCarried_61 rfl ?_
    refine re_imul X dX7_isCarried_63 ?_
    refine re_iload X dX7_isCarried_64 rfl ?_
    refine re_icmp_le (tgt := 73) X dX7_isCarried_66 (by decide) (fun _ => ?_) (fun _ => ?_)
    · refine re_iconst (v := 0) X dX7_isCarried_73 (by decide) ?_
      exact re_zret X (Or.inl rfl) dX7_isCarried_74
    · refine re_iconst (v := 1) X dX7_isCarried_69 (by decide) ?_
      refine re_goto (tgt := 74) X dX7_isCarried_70 (by decide) ?_
      exact re_zret X (Or.inr rfl) dX7_isCarried_74
  refine re_if (fun e8 => ?_) (fun e8 => ?_)
  · refine re_sw_in (v := 1) (off := 40) (tgt := 75) X dX7_isCarried_35 e8 (by decide) (by decide) (by decide +kernel) (by decide) ?_
    refine re_iconst (v := 3) X dX7_isCarried_75 (by decide) ?_
    refine re_iload X dX7_isCarried_76 rfl ?_
    refine re_imul X dX7_isCarried_78 ?_
    refine re_iconst (v := 2) X dX7_isCarried_79 (by decide) ?_
    refine re_iload X dX7_isCarried_80 rfl ?_
    refine re_imul X dX7_isCarried_82 ?_
    refine re_icmp_lt (tgt := 95) X dX7_isCarried_83 (by decide) (fun _ => ?_) (fun _ => ?_)
    · refine re_iconst (v := 0) X dX7_isCarried_95 (by decide) ?_
      exact re_zret X (Or.inl rfl) dX7_isCarried_96
    · refine re_iload X dX7_isCarried_86 rfl ?_
      refine re_if_le (tgt := 95) X dX7_isCarried_88 (by decide) (fun _ => ?_) (fun _ => ?_)
      · refine re_iconst (v := 0) X dX7_isCarried_95 (by decide) ?_
        exact re_zret X (Or.inl rfl) dX7_isCarried_96
      · refine re_iconst (v := 1) X dX7_isCarried_91 (by decide) ?_
        refine re_goto (tgt := 96) X dX7_isCarried_92 (by decide) ?_
        exact re_zret X (Or.inr rfl) dX7_isCarried_96
  refine re_if (fun e9 => ?_) (fun e9 => ?_)
  · refine re_sw_in (v := 2) (off := 62) (tgt := 97) X dX7_isCarried_35 e9 (by decide) (by decide) (by decide +kernel) (by decide) ?_
    refine re_iconst (v := 4) X dX7_isCarried_97 (by decide) ?_
    refine re_iload X dX7_isCarried_98 rfl ?_
    refine re_imul X dX7_isCarried_100 ?_
    refine re_iload X dX7_isCarried_101 rfl ?_
    refine re_icmp_le (tgt := 110) X dX7_isCarried_103 (by decide) (fun _ => ?_) (fun _ => ?_)
    · refine re_iconst (v := 0) X dX7_isCarried_110 (by decide) ?_
      exact re_zret X (Or.inl rfl) dX7_isCarried_111
    · refine re_iconst (v := 1) X dX7_isCarried_106 (by decide) ?_
      refine re_goto (tgt := 111) X dX7_isCarried_107 (by decide) ?_
      exact re_zret X (Or.inr rfl) dX7_isCarried_111
  refine re_sw_out (tgt := 112) X dX7_isCarried_35 (by
      have e7 := lv_neT (a := 0) e7 (by decide)
      have e8 := lv_neT (a := 1) e8 (by decide)
      have e9 := lv_neT (a := 2) e9 (by decide)
      omega) (by decide) ?_
  refine re_iconst (v := 0) X dX7_isCarried_112 (by decide) ?_
  exact re_zret X (Or.inl rfl) dX7_isCarried_113

set_option maxRecDepth 100000 in
theorem lk_X7_isCarried (l : Launch) (w : zWD) (o : Nat) (u1 : Int32) (u2 : Int32) (u3 : Int32) (ho : zKd w o = (7, 16)) : zMt l w yX7_isCarried cX7_isCarried 6 (some .boolean) rm_X7_isCarried 2 [.ref (zA w o), .int u1, .int u2, .int u3] (fun M => f_X7_isCarried o u1 u2 u3 M) := by
  refine zMt.of (by decide) [some (.ref (zA w o)), some (.int u1), some (.int u2), some (.int u3), none, none] rfl (zle rfl) (by intro v hv; simp only [List.mem_cons, List.not_mem_nil, or_false] at hv; rcases hv with rfl | rfl | rfl | rfl <;> rfl) ?_
  intro p e s m args below meth c X M
  unfold f_X7_isCarried
  refine re_iload_n X dX7_isCarried_0 rfl rfl ?_
  refine re_callSi X (lk_J6_bitCount_0f7a4 l w u2) (ca_J6_bitCount_0f7a4 (by decide) (by decide)) ml_RX7_123 sm_J6_bitCount_0f7a4 rfl rfl rfl (zle rfl) zRo dX7_isCarried_1 (fun r1 M2 hr1 => ?_)
  refine re_istore (lv' := [some (.ref (zA w o)), some (.int u1), some (.int u2), some (.int u3), some (.int r1), none]) X dX7_isCarried_4 (zlt rfl) rfl ?_
  refine re_iload X dX7_isCarried_6 rfl ?_
  refine re_iload_n X dX7_isCarried_8 rfl rfl ?_
  refine re_callSi X (lk_J6_bitCount_0f7a4 l w u3) (ca_J6_bitCount_0f7a4 (by decide) (by decide)) ml_RX7_123 sm_J6_bitCount_0f7a4 rfl rfl rfl (zle rfl) zRo dX7_isCarried_9 (fun r3 M4 hr3 => ?_)
  refine re_iadd X dX7_isCarried_12 ?_
  refine re_istore (lv' := [some (.ref (zA w o)), some (.int u1), some (.int u2), some (.int u3), some (.int r1), some (.int (r1 + r3))]) X dX7_isCarried_13 (zlt rfl) rfl ?_
  refine re_iload_n X dX7_isCarried_15 rfl rfl ?_
  refine re_callNz X (lk_X9_isKind l w u1) (ca_X9_isKind (by decide) (by decide)) (zN_8) sm_X9_isKind rfl rfl rfl (zle rfl) zRo dX7_isCarried_16 (fun r5 M6 hr5 => ?_)
  refine re_if_eq (tgt := 34) X dX7_isCarried_19 (by decide) (fun _ => ?_) (fun _ => ?_)
  · refine re_iconst (v := -1) X dX7_isCarried_34 (by decide) ?_
    exact re_sub (lb_X7_isCarried_35 X ho r1 (r1 + r3) (-1) M6) ⟨rfl, ⟨rfl, trivial⟩⟩
  · refine re_aload_n X dX7_isCarried_22 rfl rfl ?_
    refine re_getR X cl_7 (by decide) fl_RX7_25 ho rfl (zR_7_0 ho) dX7_isCarried_23 ?_
    refine re_getR X cl_6 (by decide) fl_RX7_268 (zQ_7_0 X.clo ho) rfl (zR_6_1 (zQ_7_0 X.clo ho)) dX7_isCarried_26 ?_
    refine re_iload_n X dX7_isCarried_29 rfl rfl ?_
    refine re_ck (fun hi10 => ?_)
    refine re_iald X (zQ_6_1 X.clo (zQ_7_0 X.clo ho)) hi10 (j := zIx u1) rfl dX7_isCarried_30 ?_
    refine re_goto (tgt := 35) X dX7_isCarried_31 (by decide) ?_
    exact re_sub (lb_X7_isCarried_35 X ho r1 (r1 + r3) (M6 (3 + 2) (zIx u1)) M6) ⟨rfl, ⟨rfl, trivial⟩⟩
theorem ca_X7_isCarried {R : Room} (h1 : rm_X7_isCarried.frames + 1 ≤ R.frames) (h2 : 8 + (6 + 11) + rm_X7_isCarried.locals ≤ R.locals) : zCa yX7_isCarried cX7_isCarried 6 (some .boolean) rm_X7_isCarried R 3 := ⟨cd_X7_isCarried, iz_RX7, ⟨by decide, by decide, by decide⟩, rfl, rfl, h1, h2⟩
/-! DebateHouse$Session.settleAppeal -/
abbrev rm_X7_settleAppeal : Room := { frames := 2, cells := 0, slots := 0, locals := 41 }
def f_X7_settleAppeal (o : Nat) (u1 : Int32) (u2 : Int32) (M : zMem) : zTr := zBd (f_X7_isWorked o u1 M) (fun r1 M2 => if r1 = 0 then some (0, M2) else zCk (zIn u1 300) (zLt (zUp M2 (o + 19) (zIx u1) 1) (fun M3 => zCk (zIn u1 300) (if (M3 (o + 18) (zIx u1)) = 0 then (if u2 = 0 then zCk (zIn u1 300) (zLt (zUp M3 (o + 18) (zIx u1) 0) (fun M6 => some (0, M6))) else zCk (zIn u1 300) (zLt (zUp M3 (o + 18) (zIx u1) 1) (fun M8 => some (0, M8)))) else zCk (zIn u1 300) (zLt (zUp M3 (o + 18) (zIx u1) 1) (fun M10 => some (0, M10)))))))
set_option maxRecDepth 100000 in
theorem lk_X7_settleAppeal (l : Launch) (w : zWD) (o : Nat) (u1 : Int32) (u2 : Int32) (ho : zKd w o = (7, 16)) : zMt l w yX7_settleAppeal cX7_settleAppeal 3 none rm_X7_settleAppeal 0 [.ref (zA w o), .int u1, .int u2] (fun M => f_X7_settleAppeal o u1 u2 M) := by
  refine zMt.of (by decide) [some (.ref (zA w o)), some (.int u1), some (.int u2)] rfl (zle rfl) (by intro v hv; simp only [List.mem_cons, List.not_mem_nil, or_false] at hv; rcases hv with rfl | rfl | rfl <;> rfl) ?_
  intro p e s m args below meth c X M
  unfold f_X7_settleAppeal
  refine re_aload_n X dX7_settleAppeal_0 rfl rfl ?_
  refine re_iload_n X dX7_settleAppeal_1 rfl rfl ?_
  refine re_callVz X (lk_X7_isWorked l w o u1 ho) (ca_X7_isWorked (by decide) (by decide)) ml_RX7_120 im_X7_isWorked se_X7_isWorked cl_7 ho rfl rfl rfl (zle rfl) zRo dX7_settleAppeal_2 (fun r1 M2 hr1 => ?_)
  refine re_if_eq (tgt := 39) X dX7_settleAppeal_5 (by decide) (fun _ => ?_) (fun _ => ?_)
  · exact re_vret X dX7_settleAppeal_39
  · refine re_aload_n X dX7_settleAppeal_8 rfl rfl ?_
    refine re_getR X cl_7 (by decide) fl_RX7_22 ho rfl (zR_7_8 ho) dX7_settleAppeal_9 ?_
    refine re_iload_n X dX7_settleAppeal_12 rfl rfl ?_
    refine re_iconst (v := 1) X dX7_settleAppeal_13 (by decide) ?_
    refine re_ck (fun hi4 => ?_)
    refine re_zast X (zQ_7_8 X.clo ho) hi4 (j := zIx u1) rfl (zNar_b (Or.inr rfl)) dX7_settleAppeal_14 (fun M3 => ?_)
    refine re_aload_n X dX7_settleAppeal_15 rfl rfl ?_
    refine re_getR X cl_7 (by decide) fl_RX7_18 ho rfl (zR_7_7 ho) dX7_settleAppeal_16 ?_
    refine re_iload_n X dX7_settleAppeal_19 rfl rfl ?_
    refine re_aload_n X dX7_settleAppeal_20 rfl rfl ?_
    refine re_getR X cl_7 (by decide) fl_RX7_18 ho rfl (zR_7_7 ho) dX7_settleAppeal_21 ?_
    refine re_iload_n X dX7_settleAppeal_24 rfl rfl ?_
    refine re_ck (fun hi5 => ?_)
    refine re_zald X (zQ_7_7 X.clo ho) hi5 (j := zIx u1) rfl dX7_settleAppeal_25 ?_
    refine re_if_ne (tgt := 33) X dX7_settleAppeal_26 (by decide) (fun _ => ?_) (fun _ => ?_)
    · refine re_iload_n X dX7_settleAppeal_29 rfl rfl ?_
      refine re_if_eq (tgt := 37) X dX7_settleAppeal_30 (by decide) (fun _ => ?_) (fun _ => ?_)
      · refine re_iconst (v := 0) X dX7_settleAppeal_37 (by decide) ?_
        refine re_ck (fun hi7 => ?_)
        refine re_zast X (zQ_7_7 X.clo ho) hi7 (j := zIx u1) rfl (zNar_b (Or.inl rfl)) dX7_settleAppeal_38 (fun M6 => ?_)
        exact re_vret X dX7_settleAppeal_39
      · refine re_iconst (v := 1) X dX7_settleAppeal_33 (by decide) ?_
        refine re_goto (tgt := 38) X dX7_settleAppeal_34 (by decide) ?_
        refine re_ck (fun hi9 => ?_)
        refine re_zast X (zQ_7_7 X.clo ho) hi9 (j := zIx u1) rfl (zNar_b (Or.inr rfl)) dX7_settleAppeal_38 (fun M8 => ?_)
        exact re_vret X dX7_settleAppeal_39
    · refine re_iconst (v := 1) X dX7_settleAppeal_33 (by decide) ?_
      refine re_goto (tgt := 38) X dX7_settleAppeal_34 (by decide) ?_
      refine re_ck (fun hi11 => ?_)
      refine re_zast X (zQ_7_7 X.clo ho) hi11 (j := zIx u1) rfl (zNar_b (Or.inr rfl)) dX7_settleAppeal_38 (fun M10 => ?_)
      exact re_vret X dX7_settleAppeal_39
theorem ca_X7_settleAppeal {R : Room} (h1 : rm_X7_settleAppeal.frames + 1 ≤ R.frames) (h2 : 8 + (3 + 11) + rm_X7_settleAppeal.locals ≤ R.locals) : zCa yX7_settleAppeal cX7_settleAppeal 3 none rm_X7_settleAppeal R 2 := ⟨cd_X7_settleAppeal, iz_RX7, ⟨by decide, by decide, by decide⟩, rfl, rfl, h1, h2⟩
/-! DebateHouse$Session.carryOut -/
abbrev rm_X7_carryOut : Room := { frames := 3, cells := 0, slots := 0, locals := 73 }
def f_X7_carryOut (o : Nat) (u1 : Int32) (u2 : Int32) (u3 : Int32) (M : zMem) : zTr := if u1 = 0 then zBd (f_X4_lay (o + 12) u2 u3 M) (fun _ M3 => some (0, M3)) else if u1 = 1 then zBd (f_X4_amend (o + 12) u2 u3 M) (fun _ M6 => some (0, M6)) else if u1 = 2 then zBd (f_X3_endDebate (o + 4) M) (fun _ M9 => some (0, M9)) else if u1 = 3 then (if u2 ≤ 0 then zLt (zUp M o 12 (M o 12)) (fun M11 => some (0, M11)) else zLt (zUp M o 12 u2) (fun M12 => some (0, M12))) else if u1 = 4 then zBd (f_X4_takeAway (o + 12) M) (fun _ M15 => zLt (zUp M15 (o + 4) 8 0) (fun M16 => some (0, M16))) else if u1 = 5 then zLt (zUp M o 13 u2) (fun M18 => some (0, M18)) else if u1 = 6 then zLt (zUp M o 15 1) (fun M20 => zLt (zUp M20 (o + 4) 8 0) (fun M21 => some (0, M21))) else some (0, M)
set_option maxRecDepth 100000 in
theorem lk_X7_carryOut (l : Launch) (w : zWD) (o : Nat) (u1 : Int32) (u2 : Int32) (u3 : Int32) (ho : zKd w o = (7, 16)) : zMt l w yX7_carryOut cX7_carryOut 4 none rm_X7_carryOut 0 [.ref (zA w o), .int u1, .int u2, .int u3] (fun M => f_X7_carryOut o u1 u2 u3 M) := by
  refine zMt.of (by decide) [some (.ref (zA w o)), some (.int u1), some (.int u2), some (.int u3)] rfl (zle rfl) (by intro v hv; simp only [List.mem_cons, List.not_mem_nil, or_false] at hv; rcases hv with rfl | rfl | rfl | rfl <;> rfl) ?_
  intro p e s m args below meth c X M
  unfold f_X7_carryOut
  refine re_iload_n X dX7_carryOut_0 rfl rfl ?_
  refine re_if (fun e1 => ?_) (fun e1 => ?_)
  · refine re_sw_in (v := 0) (off := 43) (tgt := 44) X dX7_carryOut_1 e1 (by decide) (by decide) (by decide +kernel) (by decide) ?_
    refine re_aload_n X dX7_carryOut_44 rfl rfl ?_
    refine re_getR X cl_7 (by decide) fl_RX7_54 ho rfl (zR_7_4 ho) dX7_carryOut_45 ?_
    refine re_iload_n X dX7_carryOut_48 rfl rfl ?_
    refine re_iload_n X dX7_carryOut_49 rfl rfl ?_
    refine re_callVv X (lk_X4_lay l w (o + 12) u2 u3 (zQ_7_4 X.clo ho)) (ca_X4_lay (by decide) (by decide)) ml_RX7_271 im_X4_lay se_X4_lay cl_4 (zQ_7_4 X.clo ho) rfl rfl rfl (zle rfl) zRo dX7_carryOut_50 (fun r2 M3 hr2 => ?_)
    refine re_goto (tgt := 139) X dX7_carryOut_53 (by decide) ?_
    exact re_vret X dX7_carryOut_139
  refine re_if (fun e4 => ?_) (fun e4 => ?_)
  · refine re_sw_in (v := 1) (off := 55) (tgt := 56) X dX7_carryOut_1 e4 (by decide) (by decide) (by decide +kernel) (by decide) ?_
    refine re_aload_n X dX7_carryOut_56 rfl rfl ?_
    refine re_getR X cl_7 (by decide) fl_RX7_54 ho rfl (zR_7_4 ho) dX7_carryOut_57 ?_
    refine re_iload_n X dX7_carryOut_60 rfl rfl ?_
    refine re_iload_n X dX7_carryOut_61 rfl rfl ?_
    refine re_callVv X (lk_X4_amend l w (o + 12) u2 u3 (zQ_7_4 X.clo ho)) (ca_X4_amend (by decide) (by decide)) ml_RX7_275 im_X4_amend se_X4_amend cl_4 (zQ_7_4 X.clo ho) rfl rfl rfl (zle rfl) zRo dX7_carryOut_62 (fun r5 M6 hr5 => ?_)
    refine re_goto (tgt := 139) X dX7_carryOut_65 (by decide) ?_
    exact re_vret X dX7_carryOut_139
  refine re_if (fun e7 => ?_) (fun e7 => ?_)
  · refine re_sw_in (v := 2) (off := 67) (tgt := 68) X dX7_carryOut_1 e7 (by decide) (by decide) (by decide +kernel) (by decide) ?_
    refine re_aload_n X dX7_carryOut_68 rfl rfl ?_
    refine re_getR X cl_7 (by decide) fl_RX7_47 ho rfl (zR_7_3 ho) dX7_carryOut_69 ?_
    refine re_callVv X (lk_X3_endDebate l w (o + 4) (zQ_7_3 X.clo ho)) (ca_X3_endDebate (by decide) (by decide)) ml_RX7_278 im_X3_endDebate se_X3_endDebate cl_3 (zQ_7_3 X.clo ho) rfl rfl rfl (zle rfl) zRo dX7_carryOut_72 (fun r8 M9 hr8 => ?_)
    refine re_goto (tgt := 139) X dX7_carryOut_75 (by decide) ?_
    exact re_vret X dX7_carryOut_139
  refine re_if (fun e10 => ?_) (fun e10 => ?_)
  · refine re_sw_in (v := 3) (off := 77) (tgt := 78) X dX7_carryOut_1 e10 (by decide) (by decide) (by decide +kernel) (by decide) ?_
    refine re_aload_n X dX7_carryOut_78 rfl rfl ?_
    refine re_iload_n X dX7_carryOut_79 rfl rfl ?_
    refine re_if_le (tgt := 87) X dX7_carryOut_80 (by decide) (fun _ => ?_) (fun _ => ?_)
    · refine re_aload_n X dX7_carryOut_87 rfl rfl ?_
      refine re_getI X cl_7 (by decide) fl_RX7_85 ho rfl dX7_carryOut_88 ?_
      refine re_putI X cl_7 (by decide) fl_RX7_85 ho rfl rfl rfl dX7_carryOut_91 (fun M11 => ?_)
      refine re_goto (tgt := 139) X dX7_carryOut_94 (by decide) ?_
      exact re_vret X dX7_carryOut_139
    · refine re_iload_n X dX7_carryOut_83 rfl rfl ?_
      refine re_goto (tgt := 91) X dX7_carryOut_84 (by decide) ?_
      refine re_putI X cl_7 (by decide) fl_RX7_85 ho rfl rfl rfl dX7_carryOut_91 (fun M12 => ?_)
      refine re_goto (tgt := 139) X dX7_carryOut_94 (by decide) ?_
      exact re_vret X dX7_carryOut_139
  refine re_if (fun e13 => ?_) (fun e13 => ?_)
  · refine re_sw_in (v := 4) (off := 96) (tgt := 97) X dX7_carryOut_1 e13 (by decide) (by decide) (by decide +kernel) (by decide) ?_
    refine re_aload_n X dX7_carryOut_97 rfl rfl ?_
    refine re_getR X cl_7 (by decide) fl_RX7_54 ho rfl (zR_7_4 ho) dX7_carryOut_98 ?_
    refine re_callVv X (lk_X4_takeAway l w (o + 12) (zQ_7_4 X.clo ho)) (ca_X4_takeAway (by decide) (by decide)) ml_RX7_68 im_X4_takeAway se_X4_takeAway cl_4 (zQ_7_4 X.clo ho) rfl rfl rfl (zle rfl) zRo dX7_carryOut_101 (fun r14 M15 hr14 => ?_)
    refine re_aload_n X dX7_carryOut_104 rfl rfl ?_
    refine re_getR X cl_7 (by decide) fl_RX7_47 ho rfl (zR_7_3 ho) dX7_carryOut_105 ?_
    refine re_iconst (v := 0) X dX7_carryOut_108 (by decide) ?_
    refine re_putI X cl_3 (by decide) fl_RX7_64 (zQ_7_3 X.clo ho) rfl rfl rfl dX7_carryOut_109 (fun M16 => ?_)
    refine re_goto (tgt := 139) X dX7_carryOut_112 (by decide) ?_
    exact re_vret X dX7_carryOut_139
  refine re_if (fun e17 => ?_) (fun e17 => ?_)
  · refine re_sw_in (v := 5) (off := 114) (tgt := 115) X dX7_carryOut_1 e17 (by decide) (by decide) (by decide +kernel) (by decide) ?_
    refine re_aload_n X dX7_carryOut_115 rfl rfl ?_
    refine re_iload_n X dX7_carryOut_116 rfl rfl ?_
    refine re_putI X cl_7 (by decide) fl_RX7_86 ho rfl rfl rfl dX7_carryOut_117 (fun M18 => ?_)
    refine re_goto (tgt := 139) X dX7_carryOut_120 (by decide) ?_
    exact re_vret X dX7_carryOut_139
  refine re_if (fun e19 => ?_) (fun e19 => ?_)
  · refine re_sw_in (v := 6) (off := 122) (tgt := 123) X dX7_carryOut_1 e19 (by decide) (by decide) (by decide +kernel) (by decide) ?_
    refine re_aload_n X dX7_carryOut_123 rfl rfl ?_
    refine re_iconst (v := 1) X dX7_carryOut_124 (by decide) ?_
    refine re_putZ X cl_7 (by decide) fl_RX7_92 ho rfl rfl rfl (Or.inr rfl) dX7_carryOut_125 (fun M20 => ?_)
    refine re_aload_n X dX7_carryOut_128 rfl rfl ?_
    refine re_getR X cl_7 (by decide) fl_RX7_47 ho rfl (zR_7_3 ho) dX7_carryOut_129 ?_
    refine re_iconst (v := 0) X dX7_carryOut_132 (by decide) ?_
    refine re_putI X cl_3 (by decide) fl_RX7_64 (zQ_7_3 X.clo ho) rfl rfl rfl dX7_carryOut_133 (fun M21 => ?_)
    refine re_goto (tgt := 139) X dX7_carryOut_136 (by decide) ?_
    exact re_vret X dX7_carryOut_139
  refine re_sw_out (tgt := 139) X dX7_carryOut_1 (by
      have e1 := lv_neT (a := 0) e1 (by decide)
      have e4 := lv_neT (a := 1) e4 (by decide)
      have e7 := lv_neT (a := 2) e7 (by decide)
      have e10 := lv_neT (a := 3) e10 (by decide)
      have e13 := lv_neT (a := 4) e13 (by decide)
      have e17 := lv_neT (a := 5) e17 (by decide)
      have e19 := lv_neT (a := 6) e19 (by decide)
      omega) (by decide) ?_
  exact re_vret X dX7_carryOut_139
theorem ca_X7_carryOut {R : Room} (h1 : rm_X7_carryOut.frames + 1 ≤ R.frames) (h2 : 8 + (4 + 11) + rm_X7_carryOut.locals ≤ R.locals) : zCa yX7_carryOut cX7_carryOut 4 none rm_X7_carryOut R 3 := ⟨cd_X7_carryOut, iz_RX7, ⟨by decide, by decide, by decide⟩, rfl, rfl, h1, h2⟩
/-! DebateHouse$Session.decide -/
abbrev rm_X7_decide : Room := { frames := 4, cells := 0, slots := 0, locals := 96 }
def f_X7_decide_B114 (o : Nat) (u1 : Int32)  (x2 : Int32) (x3 : Int32) (x4 : Int32) (y0 : Int32) (y1 : Int32) (M : zMem) : zTr := zCk (zIn y1 300) (zLt (zUp M (o + 17) (zIx y1) y0) (fun M9 => if x3 = 7 then zCk (zIn x2 8) (zBd (f_X7_settleAppeal o (M9 (o + 9) (zIx x2)) x4 M9) (fun _ M13 => some (0, M13))) else if x4 = 0 then some (0, M9) else zCk (zIn x2 8) (zCk (zIn x2 8) (zBd (f_X7_carryOut o x3 (M9 (o + 7) (zIx x2)) (M9 (o + 8) (zIx x2)) M9) (fun _ M17 => some (0, M17))))))
def f_X7_decide_B89 (o : Nat) (u1 : Int32)  (x2 : Int32) (x3 : Int32) (y0 : Int32) (M : zMem) : zTr := zLt (zUp M (o + 4) 8 x2) (fun M8 => if y0 = 0 then f_X7_decide_B114 o u1 x2 x3 y0 0 u1 M8 else f_X7_decide_B114 o u1 x2 x3 y0 1 u1 M8)
def f_X7_decide (o : Nat) (u1 : Int32) (M : zMem) : zTr := zBd (f_X3_top (o + 4) M) (fun r1 M2 => if r1 = (-1) then some (0, M2) else zBd (f_X9_isActNumber u1 M2) (fun r3 M4 => if r3 = 0 then some (0, M4) else zCk (zIn r1 8) (zCk (zIn u1 300) (if (M4 16 (zIx u1)) = 9 then zCk (zIn u1 300) (if (M4 19 (zIx u1)) = 1 then f_X7_decide_B89 o u1 r1 (M4 (o + 5) (zIx r1)) 1 M4 else f_X7_decide_B89 o u1 r1 (M4 (o + 5) (zIx r1)) 0 M4) else zCk (zIn u1 300) (zCk (zIn u1 300) (zBd (f_X7_isCarried o (M4 (o + 5) (zIx r1)) (M4 19 (zIx u1)) (M4 20 (zIx u1)) M4) (fun r20 M21 => f_X7_decide_B89 o u1 r1 (M4 (o + 5) (zIx r1)) r20 M21)))))))
set_option maxRecDepth 100000 in
theorem lb_X7_decide_114 {p : Program} {l : Launch} {e : Env} {s : State} {m : MethodId} {args : Array Value} {below : List Frame} {meth : Method} {c : Code} {w : zWD} {o : Nat} {u1 : Int32} (X : zCx p s m args meth c w (zFree w) RX7 cX7_decide 5 none) (ho : zKd w o = (7, 16)) : ∀ (x2 : Int32) (x3 : Int32) (x4 : Int32) (y0 : Int32) (y1 : Int32) (M : zMem), zRm p l e rm_X7_decide s m args below meth c w 0 114 [some (.ref (zA w o)), none, some (.int x2), some (.int x3), some (.int x4)] [.int y0, .int y1, .ref (zA w (o + 17))] M (f_X7_decide_B114 o u1 x2 x3 x4 y0 y1 M) := by
  intro x2 x3 x4 y0 y1 M
  unfold f_X7_decide_B114
  refine re_ck (fun hi10 => ?_)
  refine re_iast X (zQ_7_6 X.clo ho) hi10 (j := zIx y1) rfl dX7_decide_114 (fun M9 => ?_)
  refine re_iload_n X dX7_decide_115 rfl rfl ?_
  refine re_bipush (v := 7) X dX7_decide_116 (by decide) ?_
  refine re_icmp_ne (tgt := 139) X dX7_decide_118 (by decide) (fun _ => ?_) (fun _ => ?_)
  · refine re_aload_n X dX7_decide_121 rfl rfl ?_
    refine re_aload_n X dX7_decide_122 rfl rfl ?_
    refine re_getR X cl_7 (by decide) fl_RX7_47 ho rfl (zR_7_3 ho) dX7_decide_123 ?_
    refine re_getR X cl_3 (by decide) fl_RX7_255 (zQ_7_3 X.clo ho) rfl (zR_3_5 (zQ_7_3 X.clo ho)) dX7_decide_126 ?_
    refine re_iload_n X dX7_decide_129 rfl rfl ?_
    refine re_ck (fun hi11 => ?_)
    refine re_iald X (zQ_3_5 X.clo (zQ_7_3 X.clo ho)) hi11 (j := zIx x2) rfl dX7_decide_130 ?_
    refine re_iload X dX7_decide_131 rfl ?_
    refine re_callVv X (lk_X7_settleAppeal l w o (M9 (o + 9) (zIx x2)) x4 ho) (ca_X7_settleAppeal (by decide) (by decide)) ml_RX7_258 im_X7_settleAppeal se_X7_settleAppeal cl_7 ho rfl rfl rfl (zle rfl) zRo dX7_decide_133 (fun r12 M13 hr12 => ?_)
    refine re_goto (tgt := 167) X dX7_decide_136 (by decide) ?_
    exact re_vret X dX7_decide_167
  · refine re_iload X dX7_decide_139 rfl ?_
    refine re_if_eq (tgt := 167) X dX7_decide_141 (by decide) (fun _ => ?_) (fun _ => ?_)
    · exact re_vret X dX7_decide_167
    · refine re_aload_n X dX7_decide_144 rfl rfl ?_
      refine re_iload_n X dX7_decide_145 rfl rfl ?_
      refine re_aload_n X dX7_decide_146 rfl rfl ?_
      refine re_getR X cl_7 (by decide) fl_RX7_47 ho rfl (zR_7_3 ho) dX7_decide_147 ?_
      refine re_getR X cl_3 (by decide) fl_RX7_262 (zQ_7_3 X.clo ho) rfl (zR_3_3 (zQ_7_3 X.clo ho)) dX7_decide_150 ?_
      refine re_iload_n X dX7_decide_153 rfl rfl ?_
      refine re_ck (fun hi14 => ?_)
      refine re_iald X (zQ_3_3 X.clo (zQ_7_3 X.clo ho)) hi14 (j := zIx x2) rfl dX7_decide_154 ?_
      refine re_aload_n X dX7_decide_155 rfl rfl ?_
      refine re_getR X cl_7 (by decide) fl_RX7_47 ho rfl (zR_7_3 ho) dX7_decide_156 ?_
      refine re_getR X cl_3 (by decide) fl_RX7_263 (zQ_7_3 X.clo ho) rfl (zR_3_4 (zQ_7_3 X.clo ho)) dX7_decide_159 ?_
      refine re_iload_n X dX7_decide_162 rfl rfl ?_
      refine re_ck (fun hi15 => ?_)
      refine re_iald X (zQ_3_4 X.clo (zQ_7_3 X.clo ho)) hi15 (j := zIx x2) rfl dX7_decide_163 ?_
      refine re_callVv X (lk_X7_carryOut l w o x3 (M9 (o + 7) (zIx x2)) (M9 (o + 8) (zIx x2)) ho) (ca_X7_carryOut (by decide) (by decide)) ml_RX7_264 im_X7_carryOut se_X7_carryOut cl_7 ho rfl rfl rfl (zle rfl) zRo dX7_decide_164 (fun r16 M17 hr16 => ?_)
      exact re_vret X dX7_decide_167

set_option maxRecDepth 100000 in
theorem lb_X7_decide_89 {p : Program} {l : Launch} {e : Env} {s : State} {m : MethodId} {args : Array Value} {below : List Frame} {meth : Method} {c : Code} {w : zWD} {o : Nat} {u1 : Int32} (X : zCx p s m args meth c w (zFree w) RX7 cX7_decide 5 none) (ho : zKd w o = (7, 16)) : ∀ (x2 : Int32) (x3 : Int32) (y0 : Int32) (M : zMem), zRm p l e rm_X7_decide s m args below meth c w 0 89 [some (.ref (zA w o)), some (.int u1), some (.int x2), some (.int x3), none] [.int y0] M (f_X7_decide_B89 o u1 x2 x3 y0 M) := by
  intro x2 x3 y0 M
  unfold f_X7_decide_B89
  refine re_istore (lv' := [some (.ref (zA w o)), some (.int u1), some (.int x2), some (.int x3), some (.int y0)]) X dX7_decide_89 (zlt rfl) rfl ?_
  refine re_aload_n X dX7_decide_91 rfl rfl ?_
  refine re_getR X cl_7 (by decide) fl_RX7_47 ho rfl (zR_7_3 ho) dX7_decide_92 ?_
  refine re_iload_n X dX7_decide_95 rfl rfl ?_
  refine re_putI X cl_3 (by decide) fl_RX7_64 (zQ_7_3 X.clo ho) rfl rfl rfl dX7_decide_96 (fun M8 => ?_)
  refine re_aload_n X dX7_decide_99 rfl rfl ?_
  refine re_getR X cl_7 (by decide) fl_RX7_15 ho rfl (zR_7_6 ho) dX7_decide_100 ?_
  refine re_iload_n X dX7_decide_103 rfl rfl ?_
  refine re_iload X dX7_decide_104 rfl ?_
  refine re_if_eq (tgt := 113) X dX7_decide_106 (by decide) (fun _ => ?_) (fun _ => ?_)
  · refine re_iconst (v := 0) X dX7_decide_113 (by decide) ?_
    exact re_sub (lb_X7_decide_114 X ho x2 x3 y0 0 u1 M8) ⟨rfl, ⟨rfl, ⟨rfl, ⟨rfl, trivial⟩⟩⟩⟩
  · refine re_iconst (v := 1) X dX7_decide_109 (by decide) ?_
    refine re_goto (tgt := 114) X dX7_decide_110 (by decide) ?_
    exact re_sub (lb_X7_decide_114 X ho x2 x3 y0 1 u1 M8) ⟨rfl, ⟨rfl, ⟨rfl, ⟨rfl, trivial⟩⟩⟩⟩

set_option maxRecDepth 100000 in
theorem lk_X7_decide (l : Launch) (w : zWD) (o : Nat) (u1 : Int32) (ho : zKd w o = (7, 16)) : zMt l w yX7_decide cX7_decide 5 none rm_X7_decide 0 [.ref (zA w o), .int u1] (fun M => f_X7_decide o u1 M) := by
  refine zMt.of (by decide) [some (.ref (zA w o)), some (.int u1), none, none, none] rfl (zle rfl) (by intro v hv; simp only [List.mem_cons, List.not_mem_nil, or_false] at hv; rcases hv with rfl | rfl <;> rfl) ?_
  intro p e s m args below meth c X M
  unfold f_X7_decide
  refine re_aload_n X dX7_decide_0 rfl rfl ?_
  refine re_getR X cl_7 (by decide) fl_RX7_47 ho rfl (zR_7_3 ho) dX7_decide_1 ?_
  refine re_callVi X (lk_X3_top l w (o + 4) (zQ_7_3 X.clo ho)) (ca_X3_top (by decide) (by decide)) ml_RX7_246 im_X3_top se_X3_top cl_3 (zQ_7_3 X.clo ho) rfl rfl rfl (zle rfl) zRo dX7_decide_4 (fun r1 M2 hr1 => ?_)
  refine re_istore_n (lv' := [some (.ref (zA w o)), some (.int u1), some (.int r1), none, none]) X dX7_decide_7 rfl (zlt rfl) rfl ?_
  refine re_iload_n X dX7_decide_8 rfl rfl ?_
  refine re_iconst (v := -1) X dX7_decide_9 (by decide) ?_
  refine re_icmp_eq (tgt := 20) X dX7_decide_10 (by decide) (fun _ => ?_) (fun _ => ?_)
  · exact re_vret X dX7_decide_20
  · refine re_iload_n X dX7_decide_13 rfl rfl ?_
    refine re_callNz X (lk_X9_isActNumber l w u1) (ca_X9_isActNumber (by decide) (by decide)) (zN_6) sm_X9_isActNumber rfl rfl rfl (zle rfl) zRo dX7_decide_14 (fun r3 M4 hr3 => ?_)
    refine re_if_ne (tgt := 21) X dX7_decide_17 (by decide) (fun _ => ?_) (fun _ => ?_)
    · exact re_vret X dX7_decide_20
    · refine re_aload_n X dX7_decide_21 rfl rfl ?_
      refine re_getR X cl_7 (by decide) fl_RX7_47 ho rfl (zR_7_3 ho) dX7_decide_22 ?_
      refine re_getR X cl_3 (by decide) fl_RX7_250 (zQ_7_3 X.clo ho) rfl (zR_3_1 (zQ_7_3 X.clo ho)) dX7_decide_25 ?_
      refine re_iload_n X dX7_decide_28 rfl rfl ?_
      refine re_ck (fun hi5 => ?_)
      refine re_iald X (zQ_3_1 X.clo (zQ_7_3 X.clo ho)) hi5 (j := zIx r1) rfl dX7_decide_29 ?_
      refine re_istore_n (lv' := [some (.ref (zA w o)), some (.int u1), some (.int r1), some (.int (M4 (o + 5) (zIx r1))), none]) X dX7_decide_30 rfl (zlt rfl) rfl ?_
      refine re_aload_n X dX7_decide_31 rfl rfl ?_
      refine re_getR X cl_7 (by decide) fl_RX7_29 ho rfl (zR_7_1 ho) dX7_decide_32 ?_
      refine re_getR X cl_2 (by decide) fl_RX7_115 (zQ_7_1 X.clo ho) rfl (zR_2_0 (zQ_7_1 X.clo ho)) dX7_decide_35 ?_
      refine re_iload_n X dX7_decide_38 rfl rfl ?_
      refine re_ck (fun hi6 => ?_)
      refine re_iald X (zQ_2_0 X.clo (zQ_7_1 X.clo ho)) hi6 (j := zIx u1) rfl dX7_decide_39 ?_
      refine re_bipush (v := 9) X dX7_decide_40 (by decide) ?_
      refine re_icmp_ne (tgt := 66) X dX7_decide_42 (by decide) (fun _ => ?_) (fun _ => ?_)
      · refine re_aload_n X dX7_decide_45 rfl rfl ?_
        refine re_getR X cl_7 (by decide) fl_RX7_29 ho rfl (zR_7_1 ho) dX7_decide_46 ?_
        refine re_getR X cl_2 (by decide) fl_RX7_159 (zQ_7_1 X.clo ho) rfl (zR_2_3 (zQ_7_1 X.clo ho)) dX7_decide_49 ?_
        refine re_iload_n X dX7_decide_52 rfl rfl ?_
        refine re_ck (fun hi7 => ?_)
        refine re_iald X (zQ_2_3 X.clo (zQ_7_1 X.clo ho)) hi7 (j := zIx u1) rfl dX7_decide_53 ?_
        refine re_iconst (v := 1) X dX7_decide_54 (by decide) ?_
        refine re_icmp_ne (tgt := 62) X dX7_decide_55 (by decide) (fun _ => ?_) (fun _ => ?_)
        · refine re_iconst (v := 1) X dX7_decide_58 (by decide) ?_
          refine re_goto (tgt := 89) X dX7_decide_59 (by decide) ?_
          exact lb_X7_decide_89 X ho r1 (M4 (o + 5) (zIx r1)) 1 M4
        · refine re_iconst (v := 0) X dX7_decide_62 (by decide) ?_
          refine re_goto (tgt := 89) X dX7_decide_63 (by decide) ?_
          exact lb_X7_decide_89 X ho r1 (M4 (o + 5) (zIx r1)) 0 M4
      · refine re_aload_n X dX7_decide_66 rfl rfl ?_
        refine re_iload_n X dX7_decide_67 rfl rfl ?_
        refine re_aload_n X dX7_decide_68 rfl rfl ?_
        refine re_getR X cl_7 (by decide) fl_RX7_29 ho rfl (zR_7_1 ho) dX7_decide_69 ?_
        refine re_getR X cl_2 (by decide) fl_RX7_159 (zQ_7_1 X.clo ho) rfl (zR_2_3 (zQ_7_1 X.clo ho)) dX7_decide_72 ?_
        refine re_iload_n X dX7_decide_75 rfl rfl ?_
        refine re_ck (fun hi18 => ?_)
        refine re_iald X (zQ_2_3 X.clo (zQ_7_1 X.clo ho)) hi18 (j := zIx u1) rfl dX7_decide_76 ?_
        refine re_aload_n X dX7_decide_77 rfl rfl ?_
        refine re_getR X cl_7 (by decide) fl_RX7_29 ho rfl (zR_7_1 ho) dX7_decide_78 ?_
        refine re_getR X cl_2 (by decide) fl_RX7_162 (zQ_7_1 X.clo ho) rfl (zR_2_4 (zQ_7_1 X.clo ho)) dX7_decide_81 ?_
        refine re_iload_n X dX7_decide_84 rfl rfl ?_
        refine re_ck (fun hi19 => ?_)
        refine re_iald X (zQ_2_4 X.clo (zQ_7_1 X.clo ho)) hi19 (j := zIx u1) rfl dX7_decide_85 ?_
        refine re_callVz X (lk_X7_isCarried l w o (M4 (o + 5) (zIx r1)) (M4 19 (zIx u1)) (M4 20 (zIx u1)) ho) (ca_X7_isCarried (by decide) (by decide)) ml_RX7_251 im_X7_isCarried se_X7_isCarried cl_7 ho rfl rfl rfl (zle rfl) zRo dX7_decide_86 (fun r20 M21 hr20 => ?_)
        exact lb_X7_decide_89 X ho r1 (M4 (o + 5) (zIx r1)) r20 M21
theorem ca_X7_decide {R : Room} (h1 : rm_X7_decide.frames + 1 ≤ R.frames) (h2 : 8 + (5 + 11) + rm_X7_decide.locals ≤ R.locals) : zCa yX7_decide cX7_decide 5 none rm_X7_decide R 1 := ⟨cd_X7_decide, iz_RX7, ⟨by decide, by decide, by decide⟩, rfl, rfl, h1, h2⟩
/-! DebateHouse$Session.perform -/
abbrev rm_X7_perform : Room := { frames := 5, cells := 0, slots := 0, locals := 120 }
def f_X7_perform (o : Nat) (u1 : Int32) (M : zMem) : zTr := zCk (zIn u1 300) (zCk (zIn u1 300) (if (M 16 (zIx u1)) = 0 then zLt (zUp M o 11 ((M o 11) ||| (1 <<< ((M 17 (zIx u1)) &&& 31)))) (fun M4 => some (0, M4)) else if (M 16 (zIx u1)) = 1 then zLt (zUp M o 11 ((M o 11) &&& ((1 <<< ((M 17 (zIx u1)) &&& 31)) ^^^ (-1)))) (fun M6 => zBd (f_X0_drop (o + 1) (M 17 (zIx u1)) M6) (fun _ M8 => some (0, M8))) else if (M 16 (zIx u1)) = 2 then zBd (f_X0_enqueue (o + 1) (M 17 (zIx u1)) M) (fun _ M11 => some (0, M11)) else if (M 16 (zIx u1)) = 3 then zBd (f_X0_callNext (o + 1) (M o 12) M) (fun _ M14 => zBd (f_X3_debateTop (o + 4) M14) (fun _ M16 => some (0, M16))) else if (M 16 (zIx u1)) = 4 then zCk (zIn u1 300) (zBd (f_X7_letTicksGo o (M 19 (zIx u1)) M) (fun _ M20 => some (0, M20))) else if (M 16 (zIx u1)) = 5 then zBd (f_X0_yieldTo (o + 1) (M 17 (zIx u1)) M) (fun _ M23 => some (0, M23)) else if (M 16 (zIx u1)) = 6 then zCk (zIn u1 300) (zCk (zIn u1 300) (zCk (zIn u1 300) (zBd (f_X3_push (o + 4) (M 18 (zIx u1)) (M 17 (zIx u1)) (M 19 (zIx u1)) (M 20 (zIx u1)) (M o 10) M) (fun _ M29 => some (0, M29))))) else if (M 16 (zIx u1)) = 7 then zBd (f_X3_secondTop (o + 4) M) (fun _ M32 => some (0, M32)) else zBd (f_X7_decide o u1 M) (fun _ M34 => some (0, M34))))
set_option maxRecDepth 100000 in
theorem lk_X7_perform (l : Launch) (w : zWD) (o : Nat) (u1 : Int32) (ho : zKd w o = (7, 16)) : zMt l w yX7_perform cX7_perform 3 none rm_X7_perform 0 [.ref (zA w o), .int u1] (fun M => f_X7_perform o u1 M) := by
  refine zMt.of (by decide) [some (.ref (zA w o)), some (.int u1), none] rfl (zle rfl) (by intro v hv; simp only [List.mem_cons, List.not_mem_nil, or_false] at hv; rcases hv with rfl | rfl <;> rfl) ?_
  intro p e s m args below meth c X M
  unfold f_X7_perform
  refine re_aload_n X dX7_perform_0 rfl rfl ?_
  refine re_getR X cl_7 (by decide) fl_RX7_29 ho rfl (zR_7_1 ho) dX7_perform_1 ?_
  refine re_getR X cl_2 (by decide) fl_RX7_150 (zQ_7_1 X.clo ho) rfl (zR_2_1 (zQ_7_1 X.clo ho)) dX7_perform_4 ?_
  refine re_iload_n X dX7_perform_7 rfl rfl ?_
  refine re_ck (fun hi1 => ?_)
  refine re_iald X (zQ_2_1 X.clo (zQ_7_1 X.clo ho)) hi1 (j := zIx u1) rfl dX7_perform_8 ?_
  refine re_istore_n (lv' := [some (.ref (zA w o)), some (.int u1), some (.int (M 17 (zIx u1)))]) X dX7_perform_9 rfl (zlt rfl) rfl ?_
  refine re_aload_n X dX7_perform_10 rfl rfl ?_
  refine re_getR X cl_7 (by decide) fl_RX7_29 ho rfl (zR_7_1 ho) dX7_perform_11 ?_
  refine re_getR X cl_2 (by decide) fl_RX7_115 (zQ_7_1 X.clo ho) rfl (zR_2_0 (zQ_7_1 X.clo ho)) dX7_perform_14 ?_
  refine re_iload_n X dX7_perform_17 rfl rfl ?_
  refine re_ck (fun hi2 => ?_)
  refine re_iald X (zQ_2_0 X.clo (zQ_7_1 X.clo ho)) hi2 (j := zIx u1) rfl dX7_perform_18 ?_
  refine re_if (fun e3 => ?_) (fun e3 => ?_)
  · refine re_sw_in (v := 0) (off := 45) (tgt := 64) X dX7_perform_19 e3 (by decide) (by decide) (by decide +kernel) (by decide) ?_
    refine re_aload_n X dX7_perform_64 rfl rfl ?_
    refine re_dup X dX7_perform_65 rfl ?_
    refine re_getI X cl_7 (by decide) fl_RX7_77 ho rfl dX7_perform_66 ?_
    refine re_iconst (v := 1) X dX7_perform_69 (by decide) ?_
    refine re_iload_n X dX7_perform_70 rfl rfl ?_
    refine re_ishl X dX7_perform_71 ?_
    refine re_ior X dX7_perform_72 ?_
    refine re_putI X cl_7 (by decide) fl_RX7_77 ho rfl rfl rfl dX7_perform_73 (fun M4 => ?_)
    refine re_goto (tgt := 220) X dX7_perform_76 (by decide) ?_
    exact re_vret X dX7_perform_220
  refine re_if (fun e5 => ?_) (fun e5 => ?_)
  · refine re_sw_in (v := 1) (off := 60) (tgt := 79) X dX7_perform_19 e5 (by decide) (by decide) (by decide +kernel) (by decide) ?_
    refine re_aload_n X dX7_perform_79 rfl rfl ?_
    refine re_dup X dX7_perform_80 rfl ?_
    refine re_getI X cl_7 (by decide) fl_RX7_77 ho rfl dX7_perform_81 ?_
    refine re_iconst (v := 1) X dX7_perform_84 (by decide) ?_
    refine re_iload_n X dX7_perform_85 rfl rfl ?_
    refine re_ishl X dX7_perform_86 ?_
    refine re_iconst (v := -1) X dX7_perform_87 (by decide) ?_
    refine re_ixor X dX7_perform_88 ?_
    refine re_iand X dX7_perform_89 ?_
    refine re_putI X cl_7 (by decide) fl_RX7_77 ho rfl rfl rfl dX7_perform_90 (fun M6 => ?_)
    refine re_aload_n X dX7_perform_93 rfl rfl ?_
    refine re_getR X cl_7 (by decide) fl_RX7_38 ho rfl (zR_7_2 ho) dX7_perform_94 ?_
    refine re_iload_n X dX7_perform_97 rfl rfl ?_
    refine re_callVv X (lk_X0_drop l w (o + 1) (M 17 (zIx u1)) (zQ_7_2 X.clo ho)) (ca_X0_drop (by decide) (by decide)) ml_RX7_209 im_X0_drop se_X0_drop cl_0 (zQ_7_2 X.clo ho) rfl rfl rfl (zle rfl) zRo dX7_perform_98 (fun r7 M8 hr7 => ?_)
    refine re_goto (tgt := 220) X dX7_perform_101 (by decide) ?_
    exact re_vret X dX7_perform_220
  refine re_if (fun e9 => ?_) (fun e9 => ?_)
  · refine re_sw_in (v := 2) (off := 85) (tgt := 104) X dX7_perform_19 e9 (by decide) (by decide) (by decide +kernel) (by decide) ?_
    refine re_aload_n X dX7_perform_104 rfl rfl ?_
    refine re_getR X cl_7 (by decide) fl_RX7_38 ho rfl (zR_7_2 ho) dX7_perform_105 ?_
    refine re_iload_n X dX7_perform_108 rfl rfl ?_
    refine re_callVv X (lk_X0_enqueue l w (o + 1) (M 17 (zIx u1)) (zQ_7_2 X.clo ho)) (ca_X0_enqueue (by decide) (by decide)) ml_RX7_212 im_X0_enqueue se_X0_enqueue cl_0 (zQ_7_2 X.clo ho) rfl rfl rfl (zle rfl) zRo dX7_perform_109 (fun r10 M11 hr10 => ?_)
    refine re_goto (tgt := 220) X dX7_perform_112 (by decide) ?_
    exact re_vret X dX7_perform_220
  refine re_if (fun e12 => ?_) (fun e12 => ?_)
  · refine re_sw_in (v := 3) (off := 96) (tgt := 115) X dX7_perform_19 e12 (by decide) (by decide) (by decide +kernel) (by decide) ?_
    refine re_aload_n X dX7_perform_115 rfl rfl ?_
    refine re_getR X cl_7 (by decide) fl_RX7_38 ho rfl (zR_7_2 ho) dX7_perform_116 ?_
    refine re_aload_n X dX7_perform_119 rfl rfl ?_
    refine re_getI X cl_7 (by decide) fl_RX7_85 ho rfl dX7_perform_120 ?_
    refine re_callVv X (lk_X0_callNext l w (o + 1) (M o 12) (zQ_7_2 X.clo ho)) (ca_X0_callNext (by decide) (by decide)) ml_RX7_215 im_X0_callNext se_X0_callNext cl_0 (zQ_7_2 X.clo ho) rfl rfl rfl (zle rfl) zRo dX7_perform_123 (fun r13 M14 hr13 => ?_)
    refine re_aload_n X dX7_perform_126 rfl rfl ?_
    refine re_getR X cl_7 (by decide) fl_RX7_47 ho rfl (zR_7_3 ho) dX7_perform_127 ?_
    refine re_callVv X (lk_X3_debateTop l w (o + 4) (zQ_7_3 X.clo ho)) (ca_X3_debateTop (by decide) (by decide)) ml_RX7_218 im_X3_debateTop se_X3_debateTop cl_3 (zQ_7_3 X.clo ho) rfl rfl rfl (zle rfl) zRo dX7_perform_130 (fun r15 M16 hr15 => ?_)
    refine re_goto (tgt := 220) X dX7_perform_133 (by decide) ?_
    exact re_vret X dX7_perform_220
  refine re_if (fun e17 => ?_) (fun e17 => ?_)
  · refine re_sw_in (v := 4) (off := 117) (tgt := 136) X dX7_perform_19 e17 (by decide) (by decide) (by decide +kernel) (by decide) ?_
    refine re_aload_n X dX7_perform_136 rfl rfl ?_
    refine re_aload_n X dX7_perform_137 rfl rfl ?_
    refine re_getR X cl_7 (by decide) fl_RX7_29 ho rfl (zR_7_1 ho) dX7_perform_138 ?_
    refine re_getR X cl_2 (by decide) fl_RX7_159 (zQ_7_1 X.clo ho) rfl (zR_2_3 (zQ_7_1 X.clo ho)) dX7_perform_141 ?_
    refine re_iload_n X dX7_perform_144 rfl rfl ?_
    refine re_ck (fun hi18 => ?_)
    refine re_iald X (zQ_2_3 X.clo (zQ_7_1 X.clo ho)) hi18 (j := zIx u1) rfl dX7_perform_145 ?_
    refine re_callVv X (lk_X7_letTicksGo l w o (M 19 (zIx u1)) ho) (ca_X7_letTicksGo (by decide) (by decide)) ml_RX7_221 im_X7_letTicksGo se_X7_letTicksGo cl_7 ho rfl rfl rfl (zle rfl) zRo dX7_perform_146 (fun r19 M20 hr19 => ?_)
    refine re_goto (tgt := 220) X dX7_perform_149 (by decide) ?_
    exact re_vret X dX7_perform_220
  refine re_if (fun e21 => ?_) (fun e21 => ?_)
  · refine re_sw_in (v := 5) (off := 133) (tgt := 152) X dX7_perform_19 e21 (by decide) (by decide) (by decide +kernel) (by decide) ?_
    refine re_aload_n X dX7_perform_152 rfl rfl ?_
    refine re_getR X cl_7 (by decide) fl_RX7_38 ho rfl (zR_7_2 ho) dX7_perform_153 ?_
    refine re_iload_n X dX7_perform_156 rfl rfl ?_
    refine re_callVv X (lk_X0_yieldTo l w (o + 1) (M 17 (zIx u1)) (zQ_7_2 X.clo ho)) (ca_X0_yieldTo (by decide) (by decide)) ml_RX7_224 im_X0_yieldTo se_X0_yieldTo cl_0 (zQ_7_2 X.clo ho) rfl rfl rfl (zle rfl) zRo dX7_perform_157 (fun r22 M23 hr22 => ?_)
    refine re_goto (tgt := 220) X dX7_perform_160 (by decide) ?_
    exact re_vret X dX7_perform_220
  refine re_if (fun e24 => ?_) (fun e24 => ?_)
  · refine re_sw_in (v := 6) (off := 144) (tgt := 163) X dX7_perform_19 e24 (by decide) (by decide) (by decide +kernel) (by decide) ?_
    refine re_aload_n X dX7_perform_163 rfl rfl ?_
    refine re_getR X cl_7 (by decide) fl_RX7_47 ho rfl (zR_7_3 ho) dX7_perform_164 ?_
    refine re_aload_n X dX7_perform_167 rfl rfl ?_
    refine re_getR X cl_7 (by decide) fl_RX7_29 ho rfl (zR_7_1 ho) dX7_perform_168 ?_
    refine re_getR X cl_2 (by decide) fl_RX7_165 (zQ_7_1 X.clo ho) rfl (zR_2_2 (zQ_7_1 X.clo ho)) dX7_perform_171 ?_
    refine re_iload_n X dX7_perform_174 rfl rfl ?_
    refine re_ck (fun hi25 => ?_)
    refine re_iald X (zQ_2_2 X.clo (zQ_7_1 X.clo ho)) hi25 (j := zIx u1) rfl dX7_perform_175 ?_
    refine re_iload_n X dX7_perform_176 rfl rfl ?_
    refine re_aload_n X dX7_perform_177 rfl rfl ?_
    refine re_getR X cl_7 (by decide) fl_RX7_29 ho rfl (zR_7_1 ho) dX7_perform_178 ?_
    refine re_getR X cl_2 (by decide) fl_RX7_159 (zQ_7_1 X.clo ho) rfl (zR_2_3 (zQ_7_1 X.clo ho)) dX7_perform_181 ?_
    refine re_iload_n X dX7_perform_184 rfl rfl ?_
    refine re_ck (fun hi26 => ?_)
    refine re_iald X (zQ_2_3 X.clo (zQ_7_1 X.clo ho)) hi26 (j := zIx u1) rfl dX7_perform_185 ?_
    refine re_aload_n X dX7_perform_186 rfl rfl ?_
    refine re_getR X cl_7 (by decide) fl_RX7_29 ho rfl (zR_7_1 ho) dX7_perform_187 ?_
    refine re_getR X cl_2 (by decide) fl_RX7_162 (zQ_7_1 X.clo ho) rfl (zR_2_4 (zQ_7_1 X.clo ho)) dX7_perform_190 ?_
    refine re_iload_n X dX7_perform_193 rfl rfl ?_
    refine re_ck (fun hi27 => ?_)
    refine re_iald X (zQ_2_4 X.clo (zQ_7_1 X.clo ho)) hi27 (j := zIx u1) rfl dX7_perform_194 ?_
    refine re_aload_n X dX7_perform_195 rfl rfl ?_
    refine re_getI X cl_7 (by decide) fl_RX7_74 ho rfl dX7_perform_196 ?_
    refine re_callVv X (lk_X3_push l w (o + 4) (M 18 (zIx u1)) (M 17 (zIx u1)) (M 19 (zIx u1)) (M 20 (zIx u1)) (M o 10) (zQ_7_3 X.clo ho)) (ca_X3_push (by decide) (by decide)) ml_RX7_227 im_X3_push se_X3_push cl_3 (zQ_7_3 X.clo ho) rfl rfl rfl (zle rfl) zRo dX7_perform_199 (fun r28 M29 hr28 => ?_)
    refine re_goto (tgt := 220) X dX7_perform_202 (by decide) ?_
    exact re_vret X dX7_perform_220
  refine re_if (fun e30 => ?_) (fun e30 => ?_)
  · refine re_sw_in (v := 7) (off := 186) (tgt := 205) X dX7_perform_19 e30 (by decide) (by decide) (by decide +kernel) (by decide) ?_
    refine re_aload_n X dX7_perform_205 rfl rfl ?_
    refine re_getR X cl_7 (by decide) fl_RX7_47 ho rfl (zR_7_3 ho) dX7_perform_206 ?_
    refine re_callVv X (lk_X3_secondTop l w (o + 4) (zQ_7_3 X.clo ho)) (ca_X3_secondTop (by decide) (by decide)) ml_RX7_231 im_X3_secondTop se_X3_secondTop cl_3 (zQ_7_3 X.clo ho) rfl rfl rfl (zle rfl) zRo dX7_perform_209 (fun r31 M32 hr31 => ?_)
    refine re_goto (tgt := 220) X dX7_perform_212 (by decide) ?_
    exact re_vret X dX7_perform_220
  refine re_sw_out (tgt := 215) X dX7_perform_19 (by
      have e3 := lv_neT (a := 0) e3 (by decide)
      have e5 := lv_neT (a := 1) e5 (by decide)
      have e9 := lv_neT (a := 2) e9 (by decide)
      have e12 := lv_neT (a := 3) e12 (by decide)
      have e17 := lv_neT (a := 4) e17 (by decide)
      have e21 := lv_neT (a := 5) e21 (by decide)
      have e24 := lv_neT (a := 6) e24 (by decide)
      have e30 := lv_neT (a := 7) e30 (by decide)
      omega) (by decide) ?_
  refine re_aload_n X dX7_perform_215 rfl rfl ?_
  refine re_iload_n X dX7_perform_216 rfl rfl ?_
  refine re_callVv X (lk_X7_decide l w o u1 ho) (ca_X7_decide (by decide) (by decide)) ml_RX7_234 im_X7_decide se_X7_decide cl_7 ho rfl rfl rfl (zle rfl) zRo dX7_perform_217 (fun r33 M34 hr33 => ?_)
  exact re_vret X dX7_perform_220
theorem ca_X7_perform {R : Room} (h1 : rm_X7_perform.frames + 1 ≤ R.frames) (h2 : 8 + (3 + 11) + rm_X7_perform.locals ≤ R.locals) : zCa yX7_perform cX7_perform 3 none rm_X7_perform R 1 := ⟨cd_X7_perform, iz_RX7, ⟨by decide, by decide, by decide⟩, rfl, rfl, h1, h2⟩
/-! DebateHouse$Session.work -/
abbrev rm_X7_work : Room := { frames := 6, cells := 0, slots := 0, locals := 142 }
def f_X7_work_B56 (o : Nat) (u1 : Int32) (u2 : Int32)  (x3 : Int32) (M : zMem) : zTr := zCk (zIn u1 300) (zLt (zUp M (o + 16) (zIx u1) x3) (fun M7 => zCk (zIn u1 300) (zLt (zUp M7 (o + 17) (zIx u1) (-1)) (fun M9 => zCk (zIn u1 300) (zLt (zUp M9 (o + 18) (zIx u1) 0) (fun M11 => zCk (zIn u1 300) (zLt (zUp M11 (o + 19) (zIx u1) 0) (fun M13 => zLt (zUp M13 o 9 (u1 + 1)) (fun M15 => if x3 = 0 then zBd (f_X7_perform o u1 M15) (fun _ M17 => some (1, M17)) else if x3 = 6 then zCk (zIn u1 300) (if (M15 16 (zIx u1)) = 6 then zLt (zUp M15 o 10 u1) (fun M19 => some (1, M19)) else zCk (zIn u1 300) (if (M15 16 (zIx u1)) = 5 then zLt (zUp M15 o 10 u1) (fun M21 => some (1, M21)) else some (1, M15))) else some (1, M15))))))))))
def f_X7_work_B55 (o : Nat) (u1 : Int32) (u2 : Int32)  (y0 : Int32) (M : zMem) : zTr := f_X7_work_B56 o u1 u2 y0 M
def f_X7_work_B30 (o : Nat) (u1 : Int32) (u2 : Int32)  (x3 : Int32) (M : zMem) : zTr := if u2 = 0 then f_X7_work_B56 o u1 u2 x3 M else zBd (f_X7_hasOther o u1 x3 M) (fun r22 M23 => if r22 = 0 then some (0, M23) else if x3 = 0 then f_X7_work_B55 o u1 u2 6 M23 else f_X7_work_B55 o u1 u2 0 M23)
def f_X7_work (o : Nat) (u1 : Int32) (u2 : Int32) (M : zMem) : zTr := zBd (f_X9_isActNumber u1 M) (fun r1 M2 => if r1 = 0 then some (0, M2) else zBd (f_X7_refusalAtLarge o u1 M2) (fun r3 M4 => if r3 = 0 then zBd (f_X7_isInOrder o u1 M4) (fun r5 M6 => if r5 = 0 then f_X7_work_B30 o u1 u2 6 M6 else f_X7_work_B30 o u1 u2 r3 M6) else f_X7_work_B30 o u1 u2 r3 M4))
set_option maxRecDepth 100000 in
theorem lb_X7_work_56 {p : Program} {l : Launch} {e : Env} {s : State} {m : MethodId} {args : Array Value} {below : List Frame} {meth : Method} {c : Code} {w : zWD} {o : Nat} {u1 : Int32} {u2 : Int32} (X : zCx p s m args meth c w (zFree w) RX7 cX7_work 4 (some .boolean)) (ho : zKd w o = (7, 16)) : ∀ (x3 : Int32) (M : zMem), zRm p l e rm_X7_work s m args below meth c w 2 56 [some (.ref (zA w o)), some (.int u1), none, some (.int x3)] [] M (f_X7_work_B56 o u1 u2 x3 M) := by
  intro x3 M
  unfold f_X7_work_B56
  refine re_aload_n X dX7_work_56 rfl rfl ?_
  refine re_getR X cl_7 (by decide) fl_RX7_9 ho rfl (zR_7_5 ho) dX7_work_57 ?_
  refine re_iload_n X dX7_work_60 rfl rfl ?_
  refine re_iload_n X dX7_work_61 rfl rfl ?_
  refine re_ck (fun hi8 => ?_)
  refine re_iast X (zQ_7_5 X.clo ho) hi8 (j := zIx u1) rfl dX7_work_62 (fun M7 => ?_)
  refine re_aload_n X dX7_work_63 rfl rfl ?_
  refine re_getR X cl_7 (by decide) fl_RX7_15 ho rfl (zR_7_6 ho) dX7_work_64 ?_
  refine re_iload_n X dX7_work_67 rfl rfl ?_
  refine re_iconst (v := -1) X dX7_work_68 (by decide) ?_
  refine re_ck (fun hi10 => ?_)
  refine re_iast X (zQ_7_6 X.clo ho) hi10 (j := zIx u1) rfl dX7_work_69 (fun M9 => ?_)
  refine re_aload_n X dX7_work_70 rfl rfl ?_
  refine re_getR X cl_7 (by decide) fl_RX7_18 ho rfl (zR_7_7 ho) dX7_work_71 ?_
  refine re_iload_n X dX7_work_74 rfl rfl ?_
  refine re_iconst (v := 0) X dX7_work_75 (by decide) ?_
  refine re_ck (fun hi12 => ?_)
  refine re_zast X (zQ_7_7 X.clo ho) hi12 (j := zIx u1) rfl (zNar_b (Or.inl rfl)) dX7_work_76 (fun M11 => ?_)
  refine re_aload_n X dX7_work_77 rfl rfl ?_
  refine re_getR X cl_7 (by decide) fl_RX7_22 ho rfl (zR_7_8 ho) dX7_work_78 ?_
  refine re_iload_n X dX7_work_81 rfl rfl ?_
  refine re_iconst (v := 0) X dX7_work_82 (by decide) ?_
  refine re_ck (fun hi14 => ?_)
  refine re_zast X (zQ_7_8 X.clo ho) hi14 (j := zIx u1) rfl (zNar_b (Or.inl rfl)) dX7_work_83 (fun M13 => ?_)
  refine re_aload_n X dX7_work_84 rfl rfl ?_
  refine re_iload_n X dX7_work_85 rfl rfl ?_
  refine re_iconst (v := 1) X dX7_work_86 (by decide) ?_
  refine re_iadd X dX7_work_87 ?_
  refine re_putI X cl_7 (by decide) fl_RX7_71 ho rfl rfl rfl dX7_work_88 (fun M15 => ?_)
  refine re_iload_n X dX7_work_91 rfl rfl ?_
  refine re_if_ne (tgt := 103) X dX7_work_92 (by decide) (fun _ => ?_) (fun _ => ?_)
  · refine re_aload_n X dX7_work_95 rfl rfl ?_
    refine re_iload_n X dX7_work_96 rfl rfl ?_
    refine re_callVv X (lk_X7_perform l w o u1 ho) (ca_X7_perform (by decide) (by decide)) ml_RX7_111 im_X7_perform se_X7_perform cl_7 ho rfl rfl rfl (zle rfl) zRo dX7_work_97 (fun r16 M17 hr16 => ?_)
    refine re_goto (tgt := 141) X dX7_work_100 (by decide) ?_
    refine re_iconst (v := 1) X dX7_work_141 (by decide) ?_
    exact re_zret X (Or.inr rfl) dX7_work_142
  · refine re_iload_n X dX7_work_103 rfl rfl ?_
    refine re_bipush (v := 6) X dX7_work_104 (by decide) ?_
    refine re_icmp_ne (tgt := 141) X dX7_work_106 (by decide) (fun _ => ?_) (fun _ => ?_)
    · refine re_aload_n X dX7_work_109 rfl rfl ?_
      refine re_getR X cl_7 (by decide) fl_RX7_29 ho rfl (zR_7_1 ho) dX7_work_110 ?_
      refine re_getR X cl_2 (by decide) fl_RX7_115 (zQ_7_1 X.clo ho) rfl (zR_2_0 (zQ_7_1 X.clo ho)) dX7_work_113 ?_
      refine re_iload_n X dX7_work_116 rfl rfl ?_
      refine re_ck (fun hi18 => ?_)
      refine re_iald X (zQ_2_0 X.clo (zQ_7_1 X.clo ho)) hi18 (j := zIx u1) rfl dX7_work_117 ?_
      refine re_bipush (v := 6) X dX7_work_118 (by decide) ?_
      refine re_icmp_eq (tgt := 136) X dX7_work_120 (by decide) (fun _ => ?_) (fun _ => ?_)
      · refine re_aload_n X dX7_work_136 rfl rfl ?_
        refine re_iload_n X dX7_work_137 rfl rfl ?_
        refine re_putI X cl_7 (by decide) fl_RX7_74 ho rfl rfl rfl dX7_work_138 (fun M19 => ?_)
        refine re_iconst (v := 1) X dX7_work_141 (by decide) ?_
        exact re_zret X (Or.inr rfl) dX7_work_142
      · refine re_aload_n X dX7_work_123 rfl rfl ?_
        refine re_getR X cl_7 (by decide) fl_RX7_29 ho rfl (zR_7_1 ho) dX7_work_124 ?_
        refine re_getR X cl_2 (by decide) fl_RX7_115 (zQ_7_1 X.clo ho) rfl (zR_2_0 (zQ_7_1 X.clo ho)) dX7_work_127 ?_
        refine re_iload_n X dX7_work_130 rfl rfl ?_
        refine re_ck (fun hi20 => ?_)
        refine re_iald X (zQ_2_0 X.clo (zQ_7_1 X.clo ho)) hi20 (j := zIx u1) rfl dX7_work_131 ?_
        refine re_iconst (v := 5) X dX7_work_132 (by decide) ?_
        refine re_icmp_ne (tgt := 141) X dX7_work_133 (by decide) (fun _ => ?_) (fun _ => ?_)
        · refine re_aload_n X dX7_work_136 rfl rfl ?_
          refine re_iload_n X dX7_work_137 rfl rfl ?_
          refine re_putI X cl_7 (by decide) fl_RX7_74 ho rfl rfl rfl dX7_work_138 (fun M21 => ?_)
          refine re_iconst (v := 1) X dX7_work_141 (by decide) ?_
          exact re_zret X (Or.inr rfl) dX7_work_142
        · refine re_iconst (v := 1) X dX7_work_141 (by decide) ?_
          exact re_zret X (Or.inr rfl) dX7_work_142
    · refine re_iconst (v := 1) X dX7_work_141 (by decide) ?_
      exact re_zret X (Or.inr rfl) dX7_work_142

set_option maxRecDepth 100000 in
theorem lb_X7_work_55 {p : Program} {l : Launch} {e : Env} {s : State} {m : MethodId} {args : Array Value} {below : List Frame} {meth : Method} {c : Code} {w : zWD} {o : Nat} {u1 : Int32} {u2 : Int32} (X : zCx p s m args meth c w (zFree w) RX7 cX7_work 4 (some .boolean)) (ho : zKd w o = (7, 16)) : ∀ (y0 : Int32) (M : zMem), zRm p l e rm_X7_work s m args below meth c w 2 55 [some (.ref (zA w o)), some (.int u1), none, none] [.int y0] M (f_X7_work_B55 o u1 u2 y0 M) := by
  intro y0 M
  unfold f_X7_work_B55
  refine re_istore_n (lv' := [some (.ref (zA w o)), some (.int u1), none, some (.int y0)]) X dX7_work_55 rfl (zlt rfl) rfl ?_
  exact lb_X7_work_56 X ho y0 M

set_option maxRecDepth 100000 in
theorem lb_X7_work_30 {p : Program} {l : Launch} {e : Env} {s : State} {m : MethodId} {args : Array Value} {below : List Frame} {meth : Method} {c : Code} {w : zWD} {o : Nat} {u1 : Int32} {u2 : Int32} (X : zCx p s m args meth c w (zFree w) RX7 cX7_work 4 (some .boolean)) (ho : zKd w o = (7, 16)) : ∀ (x3 : Int32) (M : zMem), zRm p l e rm_X7_work s m args below meth c w 2 30 [some (.ref (zA w o)), some (.int u1), some (.int u2), some (.int x3)] [] M (f_X7_work_B30 o u1 u2 x3 M) := by
  intro x3 M
  unfold f_X7_work_B30
  refine re_iload_n X dX7_work_30 rfl rfl ?_
  refine re_if_eq (tgt := 56) X dX7_work_31 (by decide) (fun _ => ?_) (fun _ => ?_)
  · exact re_sub (lb_X7_work_56 X ho x3 M) ⟨rfl, ⟨rfl, ⟨rfl, trivial⟩⟩⟩
  · refine re_aload_n X dX7_work_34 rfl rfl ?_
    refine re_iload_n X dX7_work_35 rfl rfl ?_
    refine re_iload_n X dX7_work_36 rfl rfl ?_
    refine re_callVz X (lk_X7_hasOther l w o u1 x3 ho) (ca_X7_hasOther (by decide) (by decide)) ml_RX7_107 im_X7_hasOther se_X7_hasOther cl_7 ho rfl rfl rfl (zle rfl) zRo dX7_work_37 (fun r22 M23 hr22 => ?_)
    refine re_if_ne (tgt := 45) X dX7_work_40 (by decide) (fun _ => ?_) (fun _ => ?_)
    · refine re_iconst (v := 0) X dX7_work_43 (by decide) ?_
      exact re_zret X (Or.inl rfl) dX7_work_44
    · refine re_iload_n X dX7_work_45 rfl rfl ?_
      refine re_if_ne (tgt := 54) X dX7_work_46 (by decide) (fun _ => ?_) (fun _ => ?_)
      · refine re_bipush (v := 6) X dX7_work_49 (by decide) ?_
        refine re_goto (tgt := 55) X dX7_work_51 (by decide) ?_
        exact re_sub (lb_X7_work_55 X ho 6 M23) ⟨rfl, ⟨rfl, trivial⟩⟩
      · refine re_iconst (v := 0) X dX7_work_54 (by decide) ?_
        exact re_sub (lb_X7_work_55 X ho 0 M23) ⟨rfl, ⟨rfl, trivial⟩⟩

set_option maxRecDepth 100000 in
theorem lk_X7_work (l : Launch) (w : zWD) (o : Nat) (u1 : Int32) (u2 : Int32) (ho : zKd w o = (7, 16)) : zMt l w yX7_work cX7_work 4 (some .boolean) rm_X7_work 2 [.ref (zA w o), .int u1, .int u2] (fun M => f_X7_work o u1 u2 M) := by
  refine zMt.of (by decide) [some (.ref (zA w o)), some (.int u1), some (.int u2), none] rfl (zle rfl) (by intro v hv; simp only [List.mem_cons, List.not_mem_nil, or_false] at hv; rcases hv with rfl | rfl | rfl <;> rfl) ?_
  intro p e s m args below meth c X M
  unfold f_X7_work
  refine re_iload_n X dX7_work_0 rfl rfl ?_
  refine re_callNz X (lk_X9_isActNumber l w u1) (ca_X9_isActNumber (by decide) (by decide)) (zN_6) sm_X9_isActNumber rfl rfl rfl (zle rfl) zRo dX7_work_1 (fun r1 M2 hr1 => ?_)
  refine re_if_ne (tgt := 9) X dX7_work_4 (by decide) (fun _ => ?_) (fun _ => ?_)
  · refine re_iconst (v := 0) X dX7_work_7 (by decide) ?_
    exact re_zret X (Or.inl rfl) dX7_work_8
  · refine re_aload_n X dX7_work_9 rfl rfl ?_
    refine re_iload_n X dX7_work_10 rfl rfl ?_
    refine re_callVi X (lk_X7_refusalAtLarge l w o u1 ho) (ca_X7_refusalAtLarge (by decide) (by decide)) ml_RX7_100 im_X7_refusalAtLarge se_X7_refusalAtLarge cl_7 ho rfl rfl rfl (zle rfl) zRo dX7_work_11 (fun r3 M4 hr3 => ?_)
    refine re_istore_n (lv' := [some (.ref (zA w o)), some (.int u1), some (.int u2), some (.int r3)]) X dX7_work_14 rfl (zlt rfl) rfl ?_
    refine re_iload_n X dX7_work_15 rfl rfl ?_
    refine re_if_ne (tgt := 30) X dX7_work_16 (by decide) (fun _ => ?_) (fun _ => ?_)
    · refine re_aload_n X dX7_work_19 rfl rfl ?_
      refine re_iload_n X dX7_work_20 rfl rfl ?_
      refine re_callVz X (lk_X7_isInOrder l w o u1 ho) (ca_X7_isInOrder (by decide) (by decide)) ml_RX7_104 im_X7_isInOrder se_X7_isInOrder cl_7 ho rfl rfl rfl (zle rfl) zRo dX7_work_21 (fun r5 M6 hr5 => ?_)
      refine re_if_ne (tgt := 30) X dX7_work_24 (by decide) (fun _ => ?_) (fun _ => ?_)
      · refine re_bipush (v := 6) X dX7_work_27 (by decide) ?_
        refine re_istore_n (lv' := [some (.ref (zA w o)), some (.int u1), some (.int u2), some (.int 6)]) X dX7_work_29 rfl (zlt rfl) rfl ?_
        exact lb_X7_work_30 X ho 6 M6
      · exact lb_X7_work_30 X ho r3 M6
    · exact lb_X7_work_30 X ho r3 M4
theorem ca_X7_work {R : Room} (h1 : rm_X7_work.frames + 1 ≤ R.frames) (h2 : 8 + (4 + 11) + rm_X7_work.locals ≤ R.locals) : zCa yX7_work cX7_work 4 (some .boolean) rm_X7_work R 2 := ⟨cd_X7_work, iz_RX7, ⟨by decide, by decide, by decide⟩, rfl, rfl, h1, h2⟩
/-! DebateHouse$Session.rulingOf -/
abbrev rm_X7_rulingOf : Room := { frames := 2, cells := 0, slots := 0, locals := 41 }
def f_X7_rulingOf (o : Nat) (u1 : Int32) (M : zMem) : zTr := zBd (f_X7_isWorked o u1 M) (fun r1 M2 => if r1 = 0 then some (-1, M2) else zCk (zIn u1 300) (some (M2 (o + 16) (zIx u1), M2)))
set_option maxRecDepth 100000 in
theorem lk_X7_rulingOf (l : Launch) (w : zWD) (o : Nat) (u1 : Int32) (ho : zKd w o = (7, 16)) : zMt l w yX7_rulingOf cX7_rulingOf 2 (some .int) rm_X7_rulingOf 1 [.ref (zA w o), .int u1] (fun M => f_X7_rulingOf o u1 M) := by
  refine zMt.of (by decide) [some (.ref (zA w o)), some (.int u1)] rfl (zle rfl) (by intro v hv; simp only [List.mem_cons, List.not_mem_nil, or_false] at hv; rcases hv with rfl | rfl <;> rfl) ?_
  intro p e s m args below meth c X M
  unfold f_X7_rulingOf
  refine re_aload_n X dX7_rulingOf_0 rfl rfl ?_
  refine re_iload_n X dX7_rulingOf_1 rfl rfl ?_
  refine re_callVz X (lk_X7_isWorked l w o u1 ho) (ca_X7_isWorked (by decide) (by decide)) ml_RX7_120 im_X7_isWorked se_X7_isWorked cl_7 ho rfl rfl rfl (zle rfl) zRo dX7_rulingOf_2 (fun r1 M2 hr1 => ?_)
  refine re_if_eq (tgt := 17) X dX7_rulingOf_5 (by decide) (fun _ => ?_) (fun _ => ?_)
  · refine re_iconst (v := -1) X dX7_rulingOf_17 (by decide) ?_
    exact re_iret X dX7_rulingOf_18
  · refine re_aload_n X dX7_rulingOf_8 rfl rfl ?_
    refine re_getR X cl_7 (by decide) fl_RX7_9 ho rfl (zR_7_5 ho) dX7_rulingOf_9 ?_
    refine re_iload_n X dX7_rulingOf_12 rfl rfl ?_
    refine re_ck (fun hi3 => ?_)
    refine re_iald X (zQ_7_5 X.clo ho) hi3 (j := zIx u1) rfl dX7_rulingOf_13 ?_
    refine re_goto (tgt := 18) X dX7_rulingOf_14 (by decide) ?_
    exact re_iret X dX7_rulingOf_18
theorem ca_X7_rulingOf {R : Room} (h1 : rm_X7_rulingOf.frames + 1 ≤ R.frames) (h2 : 8 + (2 + 11) + rm_X7_rulingOf.locals ≤ R.locals) : zCa yX7_rulingOf cX7_rulingOf 2 (some .int) rm_X7_rulingOf R 1 := ⟨cd_X7_rulingOf, iz_RX7, ⟨by decide, by decide, by decide⟩, rfl, rfl, h1, h2⟩
/-! DebateHouse$Session.passedOf -/
abbrev rm_X7_passedOf : Room := { frames := 2, cells := 0, slots := 0, locals := 41 }
def f_X7_passedOf (o : Nat) (u1 : Int32) (M : zMem) : zTr := zBd (f_X7_isWorked o u1 M) (fun r1 M2 => if r1 = 0 then some (-1, M2) else zCk (zIn u1 300) (some (M2 (o + 17) (zIx u1), M2)))
set_option maxRecDepth 100000 in
theorem lk_X7_passedOf (l : Launch) (w : zWD) (o : Nat) (u1 : Int32) (ho : zKd w o = (7, 16)) : zMt l w yX7_passedOf cX7_passedOf 2 (some .int) rm_X7_passedOf 1 [.ref (zA w o), .int u1] (fun M => f_X7_passedOf o u1 M) := by
  refine zMt.of (by decide) [some (.ref (zA w o)), some (.int u1)] rfl (zle rfl) (by intro v hv; simp only [List.mem_cons, List.not_mem_nil, or_false] at hv; rcases hv with rfl | rfl <;> rfl) ?_
  intro p e s m args below meth c X M
  unfold f_X7_passedOf
  refine re_aload_n X dX7_passedOf_0 rfl rfl ?_
  refine re_iload_n X dX7_passedOf_1 rfl rfl ?_
  refine re_callVz X (lk_X7_isWorked l w o u1 ho) (ca_X7_isWorked (by decide) (by decide)) ml_RX7_120 im_X7_isWorked se_X7_isWorked cl_7 ho rfl rfl rfl (zle rfl) zRo dX7_passedOf_2 (fun r1 M2 hr1 => ?_)
  refine re_if_eq (tgt := 17) X dX7_passedOf_5 (by decide) (fun _ => ?_) (fun _ => ?_)
  · refine re_iconst (v := -1) X dX7_passedOf_17 (by decide) ?_
    exact re_iret X dX7_passedOf_18
  · refine re_aload_n X dX7_passedOf_8 rfl rfl ?_
    refine re_getR X cl_7 (by decide) fl_RX7_15 ho rfl (zR_7_6 ho) dX7_passedOf_9 ?_
    refine re_iload_n X dX7_passedOf_12 rfl rfl ?_
    refine re_ck (fun hi3 => ?_)
    refine re_iald X (zQ_7_6 X.clo ho) hi3 (j := zIx u1) rfl dX7_passedOf_13 ?_
    refine re_goto (tgt := 18) X dX7_passedOf_14 (by decide) ?_
    exact re_iret X dX7_passedOf_18
theorem ca_X7_passedOf {R : Room} (h1 : rm_X7_passedOf.frames + 1 ≤ R.frames) (h2 : 8 + (2 + 11) + rm_X7_passedOf.locals ≤ R.locals) : zCa yX7_passedOf cX7_passedOf 2 (some .int) rm_X7_passedOf R 1 := ⟨cd_X7_passedOf, iz_RX7, ⟨by decide, by decide, by decide⟩, rfl, rfl, h1, h2⟩
/-! DebateHouse$Session.overturnedOf -/
abbrev rm_X7_overturnedOf : Room := { frames := 2, cells := 0, slots := 0, locals := 41 }
def f_X7_overturnedOf (o : Nat) (u1 : Int32) (M : zMem) : zTr := zBd (f_X7_isWorked o u1 M) (fun r1 M2 => if r1 = 0 then some (-1, M2) else zCk (zIn u1 300) (if (M2 (o + 18) (zIx u1)) = 0 then some (0, M2) else some (1, M2)))
set_option maxRecDepth 100000 in
theorem lk_X7_overturnedOf (l : Launch) (w : zWD) (o : Nat) (u1 : Int32) (ho : zKd w o = (7, 16)) : zMt l w yX7_overturnedOf cX7_overturnedOf 2 (some .int) rm_X7_overturnedOf 1 [.ref (zA w o), .int u1] (fun M => f_X7_overturnedOf o u1 M) := by
  refine zMt.of (by decide) [some (.ref (zA w o)), some (.int u1)] rfl (zle rfl) (by intro v hv; simp only [List.mem_cons, List.not_mem_nil, or_false] at hv; rcases hv with rfl | rfl <;> rfl) ?_
  intro p e s m args below meth c X M
  unfold f_X7_overturnedOf
  refine re_aload_n X dX7_overturnedOf_0 rfl rfl ?_
  refine re_iload_n X dX7_overturnedOf_1 rfl rfl ?_
  refine re_callVz X (lk_X7_isWorked l w o u1 ho) (ca_X7_isWorked (by decide) (by decide)) ml_RX7_120 im_X7_isWorked se_X7_isWorked cl_7 ho rfl rfl rfl (zle rfl) zRo dX7_overturnedOf_2 (fun r1 M2 hr1 => ?_)
  refine re_if_ne (tgt := 10) X dX7_overturnedOf_5 (by decide) (fun _ => ?_) (fun _ => ?_)
  · refine re_iconst (v := -1) X dX7_overturnedOf_8 (by decide) ?_
    exact re_iret X dX7_overturnedOf_9
  · refine re_aload_n X dX7_overturnedOf_10 rfl rfl ?_
    refine re_getR X cl_7 (by decide) fl_RX7_18 ho rfl (zR_7_7 ho) dX7_overturnedOf_11 ?_
    refine re_iload_n X dX7_overturnedOf_14 rfl rfl ?_
    refine re_ck (fun hi3 => ?_)
    refine re_zald X (zQ_7_7 X.clo ho) hi3 (j := zIx u1) rfl dX7_overturnedOf_15 ?_
    refine re_if_eq (tgt := 23) X dX7_overturnedOf_16 (by decide) (fun _ => ?_) (fun _ => ?_)
    · refine re_iconst (v := 0) X dX7_overturnedOf_23 (by decide) ?_
      exact re_iret X dX7_overturnedOf_24
    · refine re_iconst (v := 1) X dX7_overturnedOf_19 (by decide) ?_
      refine re_goto (tgt := 24) X dX7_overturnedOf_20 (by decide) ?_
      exact re_iret X dX7_overturnedOf_24
theorem ca_X7_overturnedOf {R : Room} (h1 : rm_X7_overturnedOf.frames + 1 ≤ R.frames) (h2 : 8 + (2 + 11) + rm_X7_overturnedOf.locals ≤ R.locals) : zCa yX7_overturnedOf cX7_overturnedOf 2 (some .int) rm_X7_overturnedOf R 1 := ⟨cd_X7_overturnedOf, iz_RX7, ⟨by decide, by decide, by decide⟩, rfl, rfl, h1, h2⟩
/-! DebateHouse$Session.tell -/
abbrev rm_X7_tell : Room := { frames := 1, cells := 0, slots := 0, locals := 20 }
def f_X7_tell (o : Nat) (u1 : Int32) (M : zMem) : zTr := if u1 = 0 then zBd (f_J6_bitCount_0f7a4 (M o 11) M) (fun r2 M3 => some (r2, M3)) else if u1 = 1 then some (M (o + 1) 4, M) else if u1 = 2 then some (M (o + 1) 5, M) else if u1 = 3 then some (M (o + 1) 6, M) else if u1 = 4 then some (M o 12, M) else if u1 = 5 then some (M (o + 4) 8, M) else if u1 = 6 then some (M o 13, M) else if u1 = 7 then (if (M o 15) = 0 then some (0, M) else some (1, M)) else if u1 = 8 then (if (M (o + 12) 3) = 0 then some (-1, M) else some (M (o + 12) 5, M)) else if u1 = 9 then some (M o 14, M) else if u1 = 10 then some (M o 9, M) else some (-1, M)
set_option maxRecDepth 100000 in
theorem lk_X7_tell (l : Launch) (w : zWD) (o : Nat) (u1 : Int32) (ho : zKd w o = (7, 16)) : zMt l w yX7_tell cX7_tell 2 (some .int) rm_X7_tell 1 [.ref (zA w o), .int u1] (fun M => f_X7_tell o u1 M) := by
  refine zMt.of (by decide) [some (.ref (zA w o)), some (.int u1)] rfl (zle rfl) (by intro v hv; simp only [List.mem_cons, List.not_mem_nil, or_false] at hv; rcases hv with rfl | rfl <;> rfl) ?_
  intro p e s m args below meth c X M
  unfold f_X7_tell
  refine re_iload_n X dX7_tell_0 rfl rfl ?_
  refine re_if (fun e1 => ?_) (fun e1 => ?_)
  · refine re_sw_in (v := 0) (off := 59) (tgt := 60) X dX7_tell_1 e1 (by decide) (by decide) (by decide +kernel) (by decide) ?_
    refine re_aload_n X dX7_tell_60 rfl rfl ?_
    refine re_getI X cl_7 (by decide) fl_RX7_77 ho rfl dX7_tell_61 ?_
    refine re_callSi X (lk_J6_bitCount_0f7a4 l w (M o 11)) (ca_J6_bitCount_0f7a4 (by decide) (by decide)) ml_RX7_123 sm_J6_bitCount_0f7a4 rfl rfl rfl (zle rfl) zRo dX7_tell_64 (fun r2 M3 hr2 => ?_)
    exact re_iret X dX7_tell_67
  refine re_if (fun e4 => ?_) (fun e4 => ?_)
  · refine re_sw_in (v := 1) (off := 67) (tgt := 68) X dX7_tell_1 e4 (by decide) (by decide) (by decide +kernel) (by decide) ?_
    refine re_aload_n X dX7_tell_68 rfl rfl ?_
    refine re_getR X cl_7 (by decide) fl_RX7_38 ho rfl (zR_7_2 ho) dX7_tell_69 ?_
    refine re_getI X cl_0 (by decide) fl_RX7_128 (zQ_7_2 X.clo ho) rfl dX7_tell_72 ?_
    exact re_iret X dX7_tell_75
  refine re_if (fun e5 => ?_) (fun e5 => ?_)
  · refine re_sw_in (v := 2) (off := 75) (tgt := 76) X dX7_tell_1 e5 (by decide) (by decide) (by decide +kernel) (by decide) ?_
    refine re_aload_n X dX7_tell_76 rfl rfl ?_
    refine re_getR X cl_7 (by decide) fl_RX7_38 ho rfl (zR_7_2 ho) dX7_tell_77 ?_
    refine re_getI X cl_0 (by decide) fl_RX7_131 (zQ_7_2 X.clo ho) rfl dX7_tell_80 ?_
    exact re_iret X dX7_tell_83
  refine re_if (fun e6 => ?_) (fun e6 => ?_)
  · refine re_sw_in (v := 3) (off := 83) (tgt := 84) X dX7_tell_1 e6 (by decide) (by decide) (by decide +kernel) (by decide) ?_
    refine re_aload_n X dX7_tell_84 rfl rfl ?_
    refine re_getR X cl_7 (by decide) fl_RX7_38 ho rfl (zR_7_2 ho) dX7_tell_85 ?_
    refine re_getI X cl_0 (by decide) fl_RX7_134 (zQ_7_2 X.clo ho) rfl dX7_tell_88 ?_
    exact re_iret X dX7_tell_91
  refine re_if (fun e7 => ?_) (fun e7 => ?_)
  · refine re_sw_in (v := 4) (off := 91) (tgt := 92) X dX7_tell_1 e7 (by decide) (by decide) (by decide +kernel) (by decide) ?_
    refine re_aload_n X dX7_tell_92 rfl rfl ?_
    refine re_getI X cl_7 (by decide) fl_RX7_85 ho rfl dX7_tell_93 ?_
    exact re_iret X dX7_tell_96
  refine re_if (fun e8 => ?_) (fun e8 => ?_)
  · refine re_sw_in (v := 5) (off := 96) (tgt := 97) X dX7_tell_1 e8 (by decide) (by decide) (by decide +kernel) (by decide) ?_
    refine re_aload_n X dX7_tell_97 rfl rfl ?_
    refine re_getR X cl_7 (by decide) fl_RX7_47 ho rfl (zR_7_3 ho) dX7_tell_98 ?_
    refine re_getI X cl_3 (by decide) fl_RX7_64 (zQ_7_3 X.clo ho) rfl dX7_tell_101 ?_
    exact re_iret X dX7_tell_104
  refine re_if (fun e9 => ?_) (fun e9 => ?_)
  · refine re_sw_in (v := 6) (off := 104) (tgt := 105) X dX7_tell_1 e9 (by decide) (by decide) (by decide +kernel) (by decide) ?_
    refine re_aload_n X dX7_tell_105 rfl rfl ?_
    refine re_getI X cl_7 (by decide) fl_RX7_86 ho rfl dX7_tell_106 ?_
    exact re_iret X dX7_tell_109
  refine re_if (fun e10 => ?_) (fun e10 => ?_)
  · refine re_sw_in (v := 7) (off := 109) (tgt := 110) X dX7_tell_1 e10 (by decide) (by decide) (by decide +kernel) (by decide) ?_
    refine re_aload_n X dX7_tell_110 rfl rfl ?_
    refine re_getI X cl_7 (by decide) fl_RX7_92 ho rfl dX7_tell_111 ?_
    refine re_if_eq (tgt := 121) X dX7_tell_114 (by decide) (fun _ => ?_) (fun _ => ?_)
    · refine re_iconst (v := 0) X dX7_tell_121 (by decide) ?_
      exact re_iret X dX7_tell_122
    · refine re_iconst (v := 1) X dX7_tell_117 (by decide) ?_
      refine re_goto (tgt := 122) X dX7_tell_118 (by decide) ?_
      exact re_iret X dX7_tell_122
  refine re_if (fun e11 => ?_) (fun e11 => ?_)
  · refine re_sw_in (v := 8) (off := 122) (tgt := 123) X dX7_tell_1 e11 (by decide) (by decide) (by decide +kernel) (by decide) ?_
    refine re_aload_n X dX7_tell_123 rfl rfl ?_
    refine re_getR X cl_7 (by decide) fl_RX7_54 ho rfl (zR_7_4 ho) dX7_tell_124 ?_
    refine re_getI X cl_4 (by decide) fl_RX7_137 (zQ_7_4 X.clo ho) rfl dX7_tell_127 ?_
    refine re_if_eq (tgt := 143) X dX7_tell_130 (by decide) (fun _ => ?_) (fun _ => ?_)
    · refine re_iconst (v := -1) X dX7_tell_143 (by decide) ?_
      exact re_iret X dX7_tell_144
    · refine re_aload_n X dX7_tell_133 rfl rfl ?_
      refine re_getR X cl_7 (by decide) fl_RX7_54 ho rfl (zR_7_4 ho) dX7_tell_134 ?_
      refine re_getI X cl_4 (by decide) fl_RX7_140 (zQ_7_4 X.clo ho) rfl dX7_tell_137 ?_
      refine re_goto (tgt := 144) X dX7_tell_140 (by decide) ?_
      exact re_iret X dX7_tell_144
  refine re_if (fun e12 => ?_) (fun e12 => ?_)
  · refine re_sw_in (v := 9) (off := 144) (tgt := 145) X dX7_tell_1 e12 (by decide) (by decide) (by decide +kernel) (by decide) ?_
    refine re_aload_n X dX7_tell_145 rfl rfl ?_
    refine re_getI X cl_7 (by decide) fl_RX7_89 ho rfl dX7_tell_146 ?_
    exact re_iret X dX7_tell_149
  refine re_if (fun e13 => ?_) (fun e13 => ?_)
  · refine re_sw_in (v := 10) (off := 149) (tgt := 150) X dX7_tell_1 e13 (by decide) (by decide) (by decide +kernel) (by decide) ?_
    refine re_aload_n X dX7_tell_150 rfl rfl ?_
    refine re_getI X cl_7 (by decide) fl_RX7_71 ho rfl dX7_tell_151 ?_
    exact re_iret X dX7_tell_154
  refine re_sw_out (tgt := 155) X dX7_tell_1 (by
      have e1 := lv_neT (a := 0) e1 (by decide)
      have e4 := lv_neT (a := 1) e4 (by decide)
      have e5 := lv_neT (a := 2) e5 (by decide)
      have e6 := lv_neT (a := 3) e6 (by decide)
      have e7 := lv_neT (a := 4) e7 (by decide)
      have e8 := lv_neT (a := 5) e8 (by decide)
      have e9 := lv_neT (a := 6) e9 (by decide)
      have e10 := lv_neT (a := 7) e10 (by decide)
      have e11 := lv_neT (a := 8) e11 (by decide)
      have e12 := lv_neT (a := 9) e12 (by decide)
      have e13 := lv_neT (a := 10) e13 (by decide)
      omega) (by decide) ?_
  refine re_iconst (v := -1) X dX7_tell_155 (by decide) ?_
  exact re_iret X dX7_tell_156
theorem ca_X7_tell {R : Room} (h1 : rm_X7_tell.frames + 1 ≤ R.frames) (h2 : 8 + (2 + 11) + rm_X7_tell.locals ≤ R.locals) : zCa yX7_tell cX7_tell 2 (some .int) rm_X7_tell R 1 := ⟨cd_X7_tell, iz_RX7, ⟨by decide, by decide, by decide⟩, rfl, rfl, h1, h2⟩
