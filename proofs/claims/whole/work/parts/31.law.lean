/-! the law: its loop -/
def f_L_law_L18 (xs : Nat → Int32) (L : Nat)  : Nat → Int32 → zMem → zTr
  | 0, _, _ => none
  | n + 1, x3, M => if ((Int32.ofNat L) - 6) < x3 then some (1, M) else zCk (zIn x3 L) (if ((xs (zIx x3)) &&& 31) = 0 then zCk (zIn (x3 + 1) L) (zCk (zIn (x3 + 2) L) (zCk (zIn (x3 + 3) L) (zCk (zIn (x3 + 4) L) (zCk (zIn (x3 + 5) L) (zBd (f_X9_feed (xs (zIx (x3 + 1))) (xs (zIx (x3 + 2))) (xs (zIx (x3 + 3))) (xs (zIx (x3 + 4))) (xs (zIx (x3 + 5))) M) (fun r8 M9 => zCk (zIn (x3 + 1) L) (zCk (zIn (x3 + 2) L) (zCk (zIn (x3 + 3) L) (zCk (zIn (x3 + 4) L) (zCk (zIn (x3 + 5) L) (zBd (f_X10_feed (xs (zIx (x3 + 1))) (xs (zIx (x3 + 2))) (xs (zIx (x3 + 3))) (xs (zIx (x3 + 4))) (xs (zIx (x3 + 5))) M9) (fun r15 M16 => if r8 = r15 then f_L_law_L18 xs L n (x3 + 6) M16 else some (0, M16))))))))))))) else if ((xs (zIx x3)) &&& 31) = 1 then zCk (zIn (x3 + 1) L) (zBd (f_X9_end (xs (zIx (x3 + 1))) M) (fun r19 M20 => zCk (zIn (x3 + 1) L) (zBd (f_X10_end (xs (zIx (x3 + 1))) M20) (fun r22 M23 => if r19 = r22 then f_L_law_L18 xs L n (x3 + 6) M23 else some (0, M23))))) else if ((xs (zIx x3)) &&& 31) = 2 then zBd (f_X9_rules M) (fun r25 M26 => zBd (f_X10_rules M26) (fun r27 M28 => if r25 = r27 then f_L_law_L18 xs L n (x3 + 6) M28 else some (0, M28))) else if ((xs (zIx x3)) &&& 31) = 3 then zCk (zIn (x3 + 1) L) (zCk (zIn (x3 + 2) L) (zBd (f_X9_school (xs (zIx (x3 + 1))) (xs (zIx (x3 + 2))) M) (fun r32 M33 => zCk (zIn (x3 + 1) L) (zCk (zIn (x3 + 2) L) (zBd (f_X10_school (xs (zIx (x3 + 1))) (xs (zIx (x3 + 2))) M33) (fun r36 M37 => if r32 = r36 then f_L_law_L18 xs L n (x3 + 6) M37 else some (0, M37))))))) else if ((xs (zIx x3)) &&& 31) = 4 then zCk (zIn (x3 + 1) L) (zCk (zIn (x3 + 2) L) (zCk (zIn (x3 + 3) L) (zCk (zIn (x3 + 4) L) (zCk (zIn (x3 + 5) L) (zBd (f_X9_act (xs (zIx (x3 + 1))) (xs (zIx (x3 + 2))) (xs (zIx (x3 + 3))) (xs (zIx (x3 + 4))) (xs (zIx (x3 + 5))) M) (fun r44 M45 => zCk (zIn (x3 + 1) L) (zCk (zIn (x3 + 2) L) (zCk (zIn (x3 + 3) L) (zCk (zIn (x3 + 4) L) (zCk (zIn (x3 + 5) L) (zBd (f_X10_act (xs (zIx (x3 + 1))) (xs (zIx (x3 + 2))) (xs (zIx (x3 + 3))) (xs (zIx (x3 + 4))) (xs (zIx (x3 + 5))) M45) (fun r51 M52 => if r44 = r51 then f_L_law_L18 xs L n (x3 + 6) M52 else some (0, M52))))))))))))) else if ((xs (zIx x3)) &&& 31) = 5 then zCk (zIn (x3 + 1) L) (zBd (f_X9_ruling (xs (zIx (x3 + 1))) M) (fun r55 M56 => zCk (zIn (x3 + 1) L) (zBd (f_X10_ruling (xs (zIx (x3 + 1))) M56) (fun r58 M59 => if r55 = r58 then f_L_law_L18 xs L n (x3 + 6) M59 else some (0, M59))))) else if ((xs (zIx x3)) &&& 31) = 6 then zCk (zIn (x3 + 1) L) (zBd (f_X9_passed (xs (zIx (x3 + 1))) M) (fun r62 M63 => zCk (zIn (x3 + 1) L) (zBd (f_X10_passed (xs (zIx (x3 + 1))) M63) (fun r65 M66 => if r62 = r65 then f_L_law_L18 xs L n (x3 + 6) M66 else some (0, M66))))) else if ((xs (zIx x3)) &&& 31) = 7 then zCk (zIn (x3 + 1) L) (zBd (f_X9_state (xs (zIx (x3 + 1))) M) (fun r69 M70 => zCk (zIn (x3 + 1) L) (zBd (f_X10_state (xs (zIx (x3 + 1))) M70) (fun r72 M73 => if r69 = r72 then f_L_law_L18 xs L n (x3 + 6) M73 else some (0, M73))))) else if ((xs (zIx x3)) &&& 31) = 8 then zCk (zIn (x3 + 1) L) (zCk (zIn (x3 + 2) L) (zBd (f_X9_pending (xs (zIx (x3 + 1))) (xs (zIx (x3 + 2))) M) (fun r77 M78 => zCk (zIn (x3 + 1) L) (zCk (zIn (x3 + 2) L) (zBd (f_X10_pending (xs (zIx (x3 + 1))) (xs (zIx (x3 + 2))) M78) (fun r81 M82 => if r77 = r81 then f_L_law_L18 xs L n (x3 + 6) M82 else some (0, M82))))))) else if ((xs (zIx x3)) &&& 31) = 9 then zCk (zIn (x3 + 1) L) (zCk (zIn (x3 + 2) L) (zBd (f_X9_clause (xs (zIx (x3 + 1))) (xs (zIx (x3 + 2))) M) (fun r86 M87 => zCk (zIn (x3 + 1) L) (zCk (zIn (x3 + 2) L) (zBd (f_X10_clause_ (xs (zIx (x3 + 1))) (xs (zIx (x3 + 2))) M87) (fun r90 M91 => if r86 = r90 then f_L_law_L18 xs L n (x3 + 6) M91 else some (0, M91))))))) else if ((xs (zIx x3)) &&& 31) = 10 then zCk (zIn (x3 + 1) L) (zBd (f_X9_place (xs (zIx (x3 + 1))) M) (fun r94 M95 => zCk (zIn (x3 + 1) L) (zBd (f_X10_place (xs (zIx (x3 + 1))) M95) (fun r97 M98 => if r94 = r97 then f_L_law_L18 xs L n (x3 + 6) M98 else some (0, M98))))) else if ((xs (zIx x3)) &&& 31) = 11 then zCk (zIn (x3 + 1) L) (zBd (f_X9_speeches (xs (zIx (x3 + 1))) M) (fun r101 M102 => zCk (zIn (x3 + 1) L) (zBd (f_X10_speeches (xs (zIx (x3 + 1))) M102) (fun r104 M105 => if r101 = r104 then f_L_law_L18 xs L n (x3 + 6) M105 else some (0, M105))))) else if ((xs (zIx x3)) &&& 31) = 12 then zCk (zIn (x3 + 1) L) (zBd (f_X9_waits (xs (zIx (x3 + 1))) M) (fun r108 M109 => zCk (zIn (x3 + 1) L) (zBd (f_X10_waits (xs (zIx (x3 + 1))) M109) (fun r111 M112 => if r108 = r111 then f_L_law_L18 xs L n (x3 + 6) M112 else some (0, M112))))) else if ((xs (zIx x3)) &&& 31) = 13 then zCk (zIn (x3 + 1) L) (zBd (f_X9_overturned (xs (zIx (x3 + 1))) M) (fun r115 M116 => zCk (zIn (x3 + 1) L) (zBd (f_X10_overturned (xs (zIx (x3 + 1))) M116) (fun r118 M119 => if r115 = r118 then f_L_law_L18 xs L n (x3 + 6) M119 else some (0, M119))))) else if ((xs (zIx x3)) &&& 31) = 14 then zCk (zIn (x3 + 1) L) (zCk (zIn (x3 + 2) L) (zBd (f_X9_beside (xs (zIx (x3 + 1))) (xs (zIx (x3 + 2))) M) (fun r123 M124 => zCk (zIn (x3 + 1) L) (zCk (zIn (x3 + 2) L) (zBd (f_X10_beside (xs (zIx (x3 + 1))) (xs (zIx (x3 + 2))) M124) (fun r127 M128 => if r123 = r127 then f_L_law_L18 xs L n (x3 + 6) M128 else some (0, M128))))))) else if ((xs (zIx x3)) &&& 31) = 15 then zCk (zIn (x3 + 1) L) (zCk (zIn (x3 + 2) L) (zCk (zIn (x3 + 3) L) (zCk (zIn (x3 + 4) L) (zBd (f_X9_score (xs (zIx (x3 + 1))) (xs (zIx (x3 + 2))) (xs (zIx (x3 + 3))) (xs (zIx (x3 + 4))) M) (fun r134 M135 => zCk (zIn (x3 + 1) L) (zCk (zIn (x3 + 2) L) (zCk (zIn (x3 + 3) L) (zCk (zIn (x3 + 4) L) (zBd (f_X10_score (xs (zIx (x3 + 1))) (xs (zIx (x3 + 2))) (xs (zIx (x3 + 3))) (xs (zIx (x3 + 4))) M135) (fun r140 M141 => if r134 = r140 then f_L_law_L18 xs L n (x3 + 6) M141 else some (0, M141))))))))))) else if ((xs (zIx x3)) &&& 31) = 16 then zCk (zIn (x3 + 1) L) (zBd (f_X9_mean (xs (zIx (x3 + 1))) M) (fun r144 M145 => zCk (zIn (x3 + 1) L) (zBd (f_X10_mean (xs (zIx (x3 + 1))) M145) (fun r147 M148 => if r144 = r147 then f_L_law_L18 xs L n (x3 + 6) M148 else some (0, M148))))) else if ((xs (zIx x3)) &&& 31) = 17 then zCk (zIn (x3 + 1) L) (zBd (f_X9_award (xs (zIx (x3 + 1))) M) (fun r151 M152 => zCk (zIn (x3 + 1) L) (zBd (f_X10_award (xs (zIx (x3 + 1))) M152) (fun r154 M155 => if r151 = r154 then f_L_law_L18 xs L n (x3 + 6) M155 else some (0, M155))))) else if ((xs (zIx x3)) &&& 31) = 18 then zCk (zIn (x3 + 1) L) (zBd (f_X9_told (xs (zIx (x3 + 1))) M) (fun r158 M159 => zCk (zIn (x3 + 1) L) (zBd (f_X10_told (xs (zIx (x3 + 1))) M159) (fun r161 M162 => if r158 = r161 then f_L_law_L18 xs L n (x3 + 6) M162 else some (0, M162))))) else f_L_law_L18 xs L n (x3 + 6) M)
set_option maxRecDepth 100000 in
theorem lb_L_law_18 {p : Program} {l : Launch} {e : Env} {s : State} {m : MethodId} {b : Nat} {below : List Frame} {meth : Method} {c : Code} {w : zWD} {xs : Nat → Int32} {L : Nat} (X : zCx p s m #[Value.ref b] meth c w (fun q => s.heap.size ≤ q) RL cL_law 4 (some .boolean)) (hx0 : zKd w 0 = (9, 10)) (hm0 : zKd w 74 = (10, 61)) (hX : va_X b L xs s s.heap) (hbl : b < s.heap.size) : ∀ (n : Nat) (x3 : Int32) (M : zMem), zRw p l e s m below meth c w b 18 [some (.ref b), some (.ref (zA w 0)), some (.ref (zA w 74)), some (.int x3)] [] M (f_L_law_L18 xs L n x3 M) := by
  intro n
  induction n with
  | zero => intro x3 M; exact re_none
  | succ n ih =>
    intro x3 M
    rw [f_L_law_L18]
    refine re_iload_n X dL_law_18 rfl rfl ?_
    refine re_aload_n X dL_law_19 rfl rfl ?_
    refine re_xlen X hX hbl dL_law_20 ?_
    refine re_bipush (v := 6) X dL_law_21 (by decide) ?_
    refine re_isub X dL_law_23 ?_
    refine re_icmp_gt (tgt := 707) X dL_law_24 (by decide) (fun _ => ?_) (fun _ => ?_)
    · refine re_iconst (v := 1) X dL_law_707 (by decide) ?_
      exact re_lret1 X dL_law_708
    · refine re_aload_n X dL_law_27 rfl rfl ?_
      refine re_iload_n X dL_law_28 rfl rfl ?_
      refine re_ck (fun hi1 => ?_)
      refine re_xld X hX hbl hi1 dL_law_29 ?_
      refine re_bipush (v := 31) X dL_law_30 (by decide) ?_
      refine re_iand X dL_law_32 ?_
      refine re_if (fun e2 => ?_) (fun e2 => ?_)
      · refine re_sw_in (v := 0) (off := 91) (tgt := 124) X dL_law_33 e2 (by decide) (by decide) (by decide +kernel) (by decide) ?_
        refine re_aload_n X dL_law_124 rfl rfl ?_
        refine re_aload_n X dL_law_125 rfl rfl ?_
        refine re_iload_n X dL_law_126 rfl rfl ?_
        refine re_iconst (v := 1) X dL_law_127 (by decide) ?_
        refine re_iadd X dL_law_128 ?_
        refine re_ck (fun hi3 => ?_)
        refine re_xld X hX hbl hi3 dL_law_129 ?_
        refine re_aload_n X dL_law_130 rfl rfl ?_
        refine re_iload_n X dL_law_131 rfl rfl ?_
        refine re_iconst (v := 2) X dL_law_132 (by decide) ?_
        refine re_iadd X dL_law_133 ?_
        refine re_ck (fun hi4 => ?_)
        refine re_xld X hX hbl hi4 dL_law_134 ?_
        refine re_aload_n X dL_law_135 rfl rfl ?_
        refine re_iload_n X dL_law_136 rfl rfl ?_
        refine re_iconst (v := 3) X dL_law_137 (by decide) ?_
        refine re_iadd X dL_law_138 ?_
        refine re_ck (fun hi5 => ?_)
        refine re_xld X hX hbl hi5 dL_law_139 ?_
        refine re_aload_n X dL_law_140 rfl rfl ?_
        refine re_iload_n X dL_law_141 rfl rfl ?_
        refine re_iconst (v := 4) X dL_law_142 (by decide) ?_
        refine re_iadd X dL_law_143 ?_
        refine re_ck (fun hi6 => ?_)
        refine re_xld X hX hbl hi6 dL_law_144 ?_
        refine re_aload_n X dL_law_145 rfl rfl ?_
        refine re_iload_n X dL_law_146 rfl rfl ?_
        refine re_iconst (v := 5) X dL_law_147 (by decide) ?_
        refine re_iadd X dL_law_148 ?_
        refine re_ck (fun hi7 => ?_)
        refine re_xld X hX hbl hi7 dL_law_149 ?_
        refine re_callVi X (lk_X9_feed l w (xs (zIx (x3 + 1))) (xs (zIx (x3 + 2))) (xs (zIx (x3 + 3))) (xs (zIx (x3 + 4))) (xs (zIx (x3 + 5))) hx0) (ca_X9_feed (by decide) (by decide)) ml_RL_13 im_X9_feed se_X9_feed cl_9 hx0 rfl rfl rfl (zle rfl) zRoL dL_law_150 (fun r8 M9 hr8 => ?_)
        refine re_aload_n X dL_law_153 rfl rfl ?_
        refine re_aload_n X dL_law_154 rfl rfl ?_
        refine re_iload_n X dL_law_155 rfl rfl ?_
        refine re_iconst (v := 1) X dL_law_156 (by decide) ?_
        refine re_iadd X dL_law_157 ?_
        refine re_ck (fun hi10 => ?_)
        refine re_xld X hX hbl hi10 dL_law_158 ?_
        refine re_aload_n X dL_law_159 rfl rfl ?_
        refine re_iload_n X dL_law_160 rfl rfl ?_
        refine re_iconst (v := 2) X dL_law_161 (by decide) ?_
        refine re_iadd X dL_law_162 ?_
        refine re_ck (fun hi11 => ?_)
        refine re_xld X hX hbl hi11 dL_law_163 ?_
        refine re_aload_n X dL_law_164 rfl rfl ?_
        refine re_iload_n X dL_law_165 rfl rfl ?_
        refine re_iconst (v := 3) X dL_law_166 (by decide) ?_
        refine re_iadd X dL_law_167 ?_
        refine re_ck (fun hi12 => ?_)
        refine re_xld X hX hbl hi12 dL_law_168 ?_
        refine re_aload_n X dL_law_169 rfl rfl ?_
        refine re_iload_n X dL_law_170 rfl rfl ?_
        refine re_iconst (v := 4) X dL_law_171 (by decide) ?_
        refine re_iadd X dL_law_172 ?_
        refine re_ck (fun hi13 => ?_)
        refine re_xld X hX hbl hi13 dL_law_173 ?_
        refine re_aload_n X dL_law_174 rfl rfl ?_
        refine re_iload_n X dL_law_175 rfl rfl ?_
        refine re_iconst (v := 5) X dL_law_176 (by decide) ?_
        refine re_iadd X dL_law_177 ?_
        refine re_ck (fun hi14 => ?_)
        refine re_xld X hX hbl hi14 dL_law_178 ?_
        refine re_callVi X (lk_X10_feed l w (xs (zIx (x3 + 1))) (xs (zIx (x3 + 2))) (xs (zIx (x3 + 3))) (xs (zIx (x3 + 4))) (xs (zIx (x3 + 5))) hm0) (ca_X10_feed (by decide) (by decide)) ml_RL_17 im_X10_feed se_X10_feed cl_10 hm0 rfl rfl rfl (zle rfl) zRoL dL_law_179 (fun r15 M16 hr15 => ?_)
        refine re_icmp_eq (tgt := 701) X dL_law_182 (by decide) (fun _ => ?_) (fun _ => ?_)
        · refine re_iinc (v := 6) (lv' := [some (.ref b), some (.ref (zA w 0)), some (.ref (zA w 74)), some (.int (x3 + 6))]) X dL_law_701 rfl (by decide) rfl ?_
          refine re_goto (tgt := 18) X dL_law_704 (by decide) ?_
          exact ih (x3 + 6) M16
        · refine re_iconst (v := 0) X dL_law_185 (by decide) ?_
          exact re_lret0 X dL_law_186
      refine re_if (fun e17 => ?_) (fun e17 => ?_)
      · refine re_sw_in (v := 1) (off := 154) (tgt := 187) X dL_law_33 e17 (by decide) (by decide) (by decide +kernel) (by decide) ?_
        refine re_aload_n X dL_law_187 rfl rfl ?_
        refine re_aload_n X dL_law_188 rfl rfl ?_
        refine re_iload_n X dL_law_189 rfl rfl ?_
        refine re_iconst (v := 1) X dL_law_190 (by decide) ?_
        refine re_iadd X dL_law_191 ?_
        refine re_ck (fun hi18 => ?_)
        refine re_xld X hX hbl hi18 dL_law_192 ?_
        refine re_callVi X (lk_X9_end l w (xs (zIx (x3 + 1))) hx0) (ca_X9_end (by decide) (by decide)) ml_RL_18 im_X9_end se_X9_end cl_9 hx0 rfl rfl rfl (zle rfl) zRoL dL_law_193 (fun r19 M20 hr19 => ?_)
        refine re_aload_n X dL_law_196 rfl rfl ?_
        refine re_aload_n X dL_law_197 rfl rfl ?_
        refine re_iload_n X dL_law_198 rfl rfl ?_
        refine re_iconst (v := 1) X dL_law_199 (by decide) ?_
        refine re_iadd X dL_law_200 ?_
        refine re_ck (fun hi21 => ?_)
        refine re_xld X hX hbl hi21 dL_law_201 ?_
        refine re_callVi X (lk_X10_end l w (xs (zIx (x3 + 1))) hm0) (ca_X10_end (by decide) (by decide)) ml_RL_22 im_X10_end se_X10_end cl_10 hm0 rfl rfl rfl (zle rfl) zRoL dL_law_202 (fun r22 M23 hr22 => ?_)
        refine re_icmp_eq (tgt := 701) X dL_law_205 (by decide) (fun _ => ?_) (fun _ => ?_)
        · refine re_iinc (v := 6) (lv' := [some (.ref b), some (.ref (zA w 0)), some (.ref (zA w 74)), some (.int (x3 + 6))]) X dL_law_701 rfl (by decide) rfl ?_
          refine re_goto (tgt := 18) X dL_law_704 (by decide) ?_
          exact ih (x3 + 6) M23
        · refine re_iconst (v := 0) X dL_law_208 (by decide) ?_
          exact re_lret0 X dL_law_209
      refine re_if (fun e24 => ?_) (fun e24 => ?_)
      · refine re_sw_in (v := 2) (off := 177) (tgt := 210) X dL_law_33 e24 (by decide) (by decide) (by decide +kernel) (by decide) ?_
        refine re_aload_n X dL_law_210 rfl rfl ?_
        refine re_callVi X (lk_X9_rules l w hx0) (ca_X9_rules (by decide) (by decide)) ml_RL_23 im_X9_rules se_X9_rules cl_9 hx0 rfl rfl rfl (zle rfl) zRoL dL_law_211 (fun r25 M26 hr25 => ?_)
        refine re_aload_n X dL_law_214 rfl rfl ?_
        refine re_callVi X (lk_X10_rules l w hm0) (ca_X10_rules (by decide) (by decide)) ml_RL_27 im_X10_rules se_X10_rules cl_10 hm0 rfl rfl rfl (zle rfl) zRoL dL_law_215 (fun r27 M28 hr27 => ?_)
        refine re_icmp_eq (tgt := 701) X dL_law_218 (by decide) (fun _ => ?_) (fun _ => ?_)
        · refine re_iinc (v := 6) (lv' := [some (.ref b), some (.ref (zA w 0)), some (.ref (zA w 74)), some (.int (x3 + 6))]) X dL_law_701 rfl (by decide) rfl ?_
          refine re_goto (tgt := 18) X dL_law_704 (by decide) ?_
          exact ih (x3 + 6) M28
        · refine re_iconst (v := 0) X dL_law_221 (by decide) ?_
          exact re_lret0 X dL_law_222
      refine re_if (fun e29 => ?_) (fun e29 => ?_)
      · refine re_sw_in (v := 3) (off := 190) (tgt := 223) X dL_law_33 e29 (by decide) (by decide) (by decide +kernel) (by decide) ?_
        refine re_aload_n X dL_law_223 rfl rfl ?_
        refine re_aload_n X dL_law_224 rfl rfl ?_
        refine re_iload_n X dL_law_225 rfl rfl ?_
        refine re_iconst (v := 1) X dL_law_226 (by decide) ?_
        refine re_iadd X dL_law_227 ?_
        refine re_ck (fun hi30 => ?_)
        refine re_xld X hX hbl hi30 dL_law_228 ?_
        refine re_aload_n X dL_law_229 rfl rfl ?_
        refine re_iload_n X dL_law_230 rfl rfl ?_
        refine re_iconst (v := 2) X dL_law_231 (by decide) ?_
        refine re_iadd X dL_law_232 ?_
        refine re_ck (fun hi31 => ?_)
        refine re_xld X hX hbl hi31 dL_law_233 ?_
        refine re_callVz X (lk_X9_school l w (xs (zIx (x3 + 1))) (xs (zIx (x3 + 2))) hx0) (ca_X9_school (by decide) (by decide)) ml_RL_28 im_X9_school se_X9_school cl_9 hx0 rfl rfl rfl (zle rfl) zRoL dL_law_234 (fun r32 M33 hr32 => ?_)
        refine re_aload_n X dL_law_237 rfl rfl ?_
        refine re_aload_n X dL_law_238 rfl rfl ?_
        refine re_iload_n X dL_law_239 rfl rfl ?_
        refine re_iconst (v := 1) X dL_law_240 (by decide) ?_
        refine re_iadd X dL_law_241 ?_
        refine re_ck (fun hi34 => ?_)
        refine re_xld X hX hbl hi34 dL_law_242 ?_
        refine re_aload_n X dL_law_243 rfl rfl ?_
        refine re_iload_n X dL_law_244 rfl rfl ?_
        refine re_iconst (v := 2) X dL_law_245 (by decide) ?_
        refine re_iadd X dL_law_246 ?_
        refine re_ck (fun hi35 => ?_)
        refine re_xld X hX hbl hi35 dL_law_247 ?_
        refine re_callVz X (lk_X10_school l w (xs (zIx (x3 + 1))) (xs (zIx (x3 + 2))) hm0) (ca_X10_school (by decide) (by decide)) ml_RL_32 im_X10_school se_X10_school cl_10 hm0 rfl rfl rfl (zle rfl) zRoL dL_law_248 (fun r36 M37 hr36 => ?_)
        refine re_icmp_eq (tgt := 701) X dL_law_251 (by decide) (fun _ => ?_) (fun _ => ?_)
        · refine re_iinc (v := 6) (lv' := [some (.ref b), some (.ref (zA w 0)), some (.ref (zA w 74)), some (.int (x3 + 6))]) X dL_law_701 rfl (by decide) rfl ?_
          refine re_goto (tgt := 18) X dL_law_704 (by decide) ?_
          exact ih (x3 + 6) M37
        · refine re_iconst (v := 0) X dL_law_254 (by decide) ?_
          exact re_lret0 X dL_law_255
      refine re_if (fun e38 => ?_) (fun e38 => ?_)
      · refine re_sw_in (v := 4) (off := 223) (tgt := 256) X dL_law_33 e38 (by decide) (by decide) (by decide +kernel) (by decide) ?_
        refine re_aload_n X dL_law_256 rfl rfl ?_
        refine re_aload_n X dL_law_257 rfl rfl ?_
        refine re_iload_n X dL_law_258 rfl rfl ?_
        refine re_iconst (v := 1) X dL_law_259 (by decide) ?_
        refine re_iadd X dL_law_260 ?_
        refine re_ck (fun hi39 => ?_)
        refine re_xld X hX hbl hi39 dL_law_261 ?_
        refine re_aload_n X dL_law_262 rfl rfl ?_
        refine re_iload_n X dL_law_263 rfl rfl ?_
        refine re_iconst (v := 2) X dL_law_264 (by decide) ?_
        refine re_iadd X dL_law_265 ?_
        refine re_ck (fun hi40 => ?_)
        refine re_xld X hX hbl hi40 dL_law_266 ?_
        refine re_aload_n X dL_law_267 rfl rfl ?_
        refine re_iload_n X dL_law_268 rfl rfl ?_
        refine re_iconst (v := 3) X dL_law_269 (by decide) ?_
        refine re_iadd X dL_law_270 ?_
        refine re_ck (fun hi41 => ?_)
        refine re_xld X hX hbl hi41 dL_law_271 ?_
        refine re_aload_n X dL_law_272 rfl rfl ?_
        refine re_iload_n X dL_law_273 rfl rfl ?_
        refine re_iconst (v := 4) X dL_law_274 (by decide) ?_
        refine re_iadd X dL_law_275 ?_
        refine re_ck (fun hi42 => ?_)
        refine re_xld X hX hbl hi42 dL_law_276 ?_
        refine re_aload_n X dL_law_277 rfl rfl ?_
        refine re_iload_n X dL_law_278 rfl rfl ?_
        refine re_iconst (v := 5) X dL_law_279 (by decide) ?_
        refine re_iadd X dL_law_280 ?_
        refine re_ck (fun hi43 => ?_)
        refine re_xld X hX hbl hi43 dL_law_281 ?_
        refine re_callVi X (lk_X9_act l w (xs (zIx (x3 + 1))) (xs (zIx (x3 + 2))) (xs (zIx (x3 + 3))) (xs (zIx (x3 + 4))) (xs (zIx (x3 + 5))) hx0) (ca_X9_act (by decide) (by decide)) ml_RL_33 im_X9_act se_X9_act cl_9 hx0 rfl rfl rfl (zle rfl) zRoL dL_law_282 (fun r44 M45 hr44 => ?_)
        refine re_aload_n X dL_law_285 rfl rfl ?_
        refine re_aload_n X dL_law_286 rfl rfl ?_
        refine re_iload_n X dL_law_287 rfl rfl ?_
        refine re_iconst (v := 1) X dL_law_288 (by decide) ?_
        refine re_iadd X dL_law_289 ?_
        refine re_ck (fun hi46 => ?_)
        refine re_xld X hX hbl hi46 dL_law_290 ?_
        refine re_aload_n X dL_law_291 rfl rfl ?_
        refine re_iload_n X dL_law_292 rfl rfl ?_
        refine re_iconst (v := 2) X dL_law_293 (by decide) ?_
        refine re_iadd X dL_law_294 ?_
        refine re_ck (fun hi47 => ?_)
        refine re_xld X hX hbl hi47 dL_law_295 ?_
        refine re_aload_n X dL_law_296 rfl rfl ?_
        refine re_iload_n X dL_law_297 rfl rfl ?_
        refine re_iconst (v := 3) X dL_law_298 (by decide) ?_
        refine re_iadd X dL_law_299 ?_
        refine re_ck (fun hi48 => ?_)
        refine re_xld X hX hbl hi48 dL_law_300 ?_
        refine re_aload_n X dL_law_301 rfl rfl ?_
        refine re_iload_n X dL_law_302 rfl rfl ?_
        refine re_iconst (v := 4) X dL_law_303 (by decide) ?_
        refine re_iadd X dL_law_304 ?_
        refine re_ck (fun hi49 => ?_)
        refine re_xld X hX hbl hi49 dL_law_305 ?_
        refine re_aload_n X dL_law_306 rfl rfl ?_
        refine re_iload_n X dL_law_307 rfl rfl ?_
        refine re_iconst (v := 5) X dL_law_308 (by decide) ?_
        refine re_iadd X dL_law_309 ?_
        refine re_ck (fun hi50 => ?_)
        refine re_xld X hX hbl hi50 dL_law_310 ?_
        refine re_callVi X (lk_X10_act l w (xs (zIx (x3 + 1))) (xs (zIx (x3 + 2))) (xs (zIx (x3 + 3))) (xs (zIx (x3 + 4))) (xs (zIx (x3 + 5))) hm0) (ca_X10_act (by decide) (by decide)) ml_RL_36 im_X10_act se_X10_act cl_10 hm0 rfl rfl rfl (zle rfl) zRoL dL_law_311 (fun r51 M52 hr51 => ?_)
        refine re_icmp_eq (tgt := 701) X dL_law_314 (by decide) (fun _ => ?_) (fun _ => ?_)
        · refine re_iinc (v := 6) (lv' := [some (.ref b), some (.ref (zA w 0)), some (.ref (zA w 74)), some (.int (x3 + 6))]) X dL_law_701 rfl (by decide) rfl ?_
          refine re_goto (tgt := 18) X dL_law_704 (by decide) ?_
          exact ih (x3 + 6) M52
        · refine re_iconst (v := 0) X dL_law_317 (by decide) ?_
          exact re_lret0 X dL_law_318
      refine re_if (fun e53 => ?_) (fun e53 => ?_)
      · refine re_sw_in (v := 5) (off := 286) (tgt := 319) X dL_law_33 e53 (by decide) (by decide) (by decide +kernel) (by decide) ?_
        refine re_aload_n X dL_law_319 rfl rfl ?_
        refine re_aload_n X dL_law_320 rfl rfl ?_
        refine re_iload_n X dL_law_321 rfl rfl ?_
        refine re_iconst (v := 1) X dL_law_322 (by decide) ?_
        refine re_iadd X dL_law_323 ?_
        refine re_ck (fun hi54 => ?_)
        refine re_xld X hX hbl hi54 dL_law_324 ?_
        refine re_callVi X (lk_X9_ruling l w (xs (zIx (x3 + 1))) hx0) (ca_X9_ruling (by decide) (by decide)) ml_RL_37 im_X9_ruling se_X9_ruling cl_9 hx0 rfl rfl rfl (zle rfl) zRoL dL_law_325 (fun r55 M56 hr55 => ?_)
        refine re_aload_n X dL_law_328 rfl rfl ?_
        refine re_aload_n X dL_law_329 rfl rfl ?_
        refine re_iload_n X dL_law_330 rfl rfl ?_
        refine re_iconst (v := 1) X dL_law_331 (by decide) ?_
        refine re_iadd X dL_law_332 ?_
        refine re_ck (fun hi57 => ?_)
        refine re_xld X hX hbl hi57 dL_law_333 ?_
        refine re_callVi X (lk_X10_ruling l w (xs (zIx (x3 + 1))) hm0) (ca_X10_ruling (by decide) (by decide)) ml_RL_40 im_X10_ruling se_X10_ruling cl_10 hm0 rfl rfl rfl (zle rfl) zRoL dL_law_334 (fun r58 M59 hr58 => ?_)
        refine re_icmp_eq (tgt := 701) X dL_law_337 (by decide) (fun _ => ?_) (fun _ => ?_)
        · refine re_iinc (v := 6) (lv' := [some (.ref b), some (.ref (zA w 0)), some (.ref (zA w 74)), some (.int (x3 + 6))]) X dL_law_701 rfl (by decide) rfl ?_
          refine re_goto (tgt := 18) X dL_law_704 (by decide) ?_
          exact ih (x3 + 6) M59
        · refine re_iconst (v := 0) X dL_law_340 (by decide) ?_
          exact re_lret0 X dL_law_341
      refine re_if (fun e60 => ?_) (fun e60 => ?_)
      · refine re_sw_in (v := 6) (off := 309) (tgt := 342) X dL_law_33 e60 (by decide) (by decide) (by decide +kernel) (by decide) ?_
        refine re_aload_n X dL_law_342 rfl rfl ?_
        refine re_aload_n X dL_law_343 rfl rfl ?_
        refine re_iload_n X dL_law_344 rfl rfl ?_
        refine re_iconst (v := 1) X dL_law_345 (by decide) ?_
        refine re_iadd X dL_law_346 ?_
        refine re_ck (fun hi61 => ?_)
        refine re_xld X hX hbl hi61 dL_law_347 ?_
        refine re_callVi X (lk_X9_passed l w (xs (zIx (x3 + 1))) hx0) (ca_X9_passed (by decide) (by decide)) ml_RL_41 im_X9_passed se_X9_passed cl_9 hx0 rfl rfl rfl (zle rfl) zRoL dL_law_348 (fun r62 M63 hr62 => ?_)
        refine re_aload_n X dL_law_351 rfl rfl ?_
        refine re_aload_n X dL_law_352 rfl rfl ?_
        refine re_iload_n X dL_law_353 rfl rfl ?_
        refine re_iconst (v := 1) X dL_law_354 (by decide) ?_
        refine re_iadd X dL_law_355 ?_
        refine re_ck (fun hi64 => ?_)
        refine re_xld X hX hbl hi64 dL_law_356 ?_
        refine re_callVi X (lk_X10_passed l w (xs (zIx (x3 + 1))) hm0) (ca_X10_passed (by decide) (by decide)) ml_RL_44 im_X10_passed se_X10_passed cl_10 hm0 rfl rfl rfl (zle rfl) zRoL dL_law_357 (fun r65 M66 hr65 => ?_)
        refine re_icmp_eq (tgt := 701) X dL_law_360 (by decide) (fun _ => ?_) (fun _ => ?_)
        · refine re_iinc (v := 6) (lv' := [some (.ref b), some (.ref (zA w 0)), some (.ref (zA w 74)), some (.int (x3 + 6))]) X dL_law_701 rfl (by decide) rfl ?_
          refine re_goto (tgt := 18) X dL_law_704 (by decide) ?_
          exact ih (x3 + 6) M66
        · refine re_iconst (v := 0) X dL_law_363 (by decide) ?_
          exact re_lret0 X dL_law_364
      refine re_if (fun e67 => ?_) (fun e67 => ?_)
      · refine re_sw_in (v := 7) (off := 332) (tgt := 365) X dL_law_33 e67 (by decide) (by decide) (by decide +kernel) (by decide) ?_
        refine re_aload_n X dL_law_365 rfl rfl ?_
        refine re_aload_n X dL_law_366 rfl rfl ?_
        refine re_iload_n X dL_law_367 rfl rfl ?_
        refine re_iconst (v := 1) X dL_law_368 (by decide) ?_
        refine re_iadd X dL_law_369 ?_
        refine re_ck (fun hi68 => ?_)
        refine re_xld X hX hbl hi68 dL_law_370 ?_
        refine re_callVi X (lk_X9_state l w (xs (zIx (x3 + 1))) hx0) (ca_X9_state (by decide) (by decide)) ml_RL_45 im_X9_state se_X9_state cl_9 hx0 rfl rfl rfl (zle rfl) zRoL dL_law_371 (fun r69 M70 hr69 => ?_)
        refine re_aload_n X dL_law_374 rfl rfl ?_
        refine re_aload_n X dL_law_375 rfl rfl ?_
        refine re_iload_n X dL_law_376 rfl rfl ?_
        refine re_iconst (v := 1) X dL_law_377 (by decide) ?_
        refine re_iadd X dL_law_378 ?_
        refine re_ck (fun hi71 => ?_)
        refine re_xld X hX hbl hi71 dL_law_379 ?_
        refine re_callVi X (lk_X10_state l w (xs (zIx (x3 + 1))) hm0) (ca_X10_state (by decide) (by decide)) ml_RL_48 im_X10_state se_X10_state cl_10 hm0 rfl rfl rfl (zle rfl) zRoL dL_law_380 (fun r72 M73 hr72 => ?_)
        refine re_icmp_eq (tgt := 701) X dL_law_383 (by decide) (fun _ => ?_) (fun _ => ?_)
        · refine re_iinc (v := 6) (lv' := [some (.ref b), some (.ref (zA w 0)), some (.ref (zA w 74)), some (.int (x3 + 6))]) X dL_law_701 rfl (by decide) rfl ?_
          refine re_goto (tgt := 18) X dL_law_704 (by decide) ?_
          exact ih (x3 + 6) M73
        · refine re_iconst (v := 0) X dL_law_386 (by decide) ?_
          exact re_lret0 X dL_law_387
      refine re_if (fun e74 => ?_) (fun e74 => ?_)
      · refine re_sw_in (v := 8) (off := 355) (tgt := 388) X dL_law_33 e74 (by decide) (by decide) (by decide +kernel) (by decide) ?_
        refine re_aload_n X dL_law_388 rfl rfl ?_
        refine re_aload_n X dL_law_389 rfl rfl ?_
        refine re_iload_n X dL_law_390 rfl rfl ?_
        refine re_iconst (v := 1) X dL_law_391 (by decide) ?_
        refine re_iadd X dL_law_392 ?_
        refine re_ck (fun hi75 => ?_)
        refine re_xld X hX hbl hi75 dL_law_393 ?_
        refine re_aload_n X dL_law_394 rfl rfl ?_
        refine re_iload_n X dL_law_395 rfl rfl ?_
        refine re_iconst (v := 2) X dL_law_396 (by decide) ?_
        refine re_iadd X dL_law_397 ?_
        refine re_ck (fun hi76 => ?_)
        refine re_xld X hX hbl hi76 dL_law_398 ?_
        refine re_callVi X (lk_X9_pending l w (xs (zIx (x3 + 1))) (xs (zIx (x3 + 2))) hx0) (ca_X9_pending (by decide) (by decide)) ml_RL_49 im_X9_pending se_X9_pending cl_9 hx0 rfl rfl rfl (zle rfl) zRoL dL_law_399 (fun r77 M78 hr77 => ?_)
        refine re_aload_n X dL_law_402 rfl rfl ?_
        refine re_aload_n X dL_law_403 rfl rfl ?_
        refine re_iload_n X dL_law_404 rfl rfl ?_
        refine re_iconst (v := 1) X dL_law_405 (by decide) ?_
        refine re_iadd X dL_law_406 ?_
        refine re_ck (fun hi79 => ?_)
        refine re_xld X hX hbl hi79 dL_law_407 ?_
        refine re_aload_n X dL_law_408 rfl rfl ?_
        refine re_iload_n X dL_law_409 rfl rfl ?_
        refine re_iconst (v := 2) X dL_law_410 (by decide) ?_
        refine re_iadd X dL_law_411 ?_
        refine re_ck (fun hi80 => ?_)
        refine re_xld X hX hbl hi80 dL_law_412 ?_
        refine re_callVi X (lk_X10_pending l w (xs (zIx (x3 + 1))) (xs (zIx (x3 + 2))) hm0) (ca_X10_pending (by decide) (by decide)) ml_RL_53 im_X10_pending se_X10_pending cl_10 hm0 rfl rfl rfl (zle rfl) zRoL dL_law_413 (fun r81 M82 hr81 => ?_)
        refine re_icmp_eq (tgt := 701) X dL_law_416 (by decide) (fun _ => ?_) (fun _ => ?_)
        · refine re_iinc (v := 6) (lv' := [some (.ref b), some (.ref (zA w 0)), some (.ref (zA w 74)), some (.int (x3 + 6))]) X dL_law_701 rfl (by decide) rfl ?_
          refine re_goto (tgt := 18) X dL_law_704 (by decide) ?_
          exact ih (x3 + 6) M82
        · refine re_iconst (v := 0) X dL_law_419 (by decide) ?_
          exact re_lret0 X dL_law_420
      refine re_if (fun e83 => ?_) (fun e83 => ?_)
      · refine re_sw_in (v := 9) (off := 388) (tgt := 421) X dL_law_33 e83 (by decide) (by decide) (by decide +kernel) (by decide) ?_
        refine re_aload_n X dL_law_421 rfl rfl ?_
        refine re_aload_n X dL_law_422 rfl rfl ?_
        refine re_iload_n X dL_law_423 rfl rfl ?_
        refine re_iconst (v := 1) X dL_law_424 (by decide) ?_
        refine re_iadd X dL_law_425 ?_
        refine re_ck (fun hi84 => ?_)
        refine re_xld X hX hbl hi84 dL_law_426 ?_
        refine re_aload_n X dL_law_427 rfl rfl ?_
        refine re_iload_n X dL_law_428 rfl rfl ?_
        refine re_iconst (v := 2) X dL_law_429 (by decide) ?_
        refine re_iadd X dL_law_430 ?_
        refine re_ck (fun hi85 => ?_)
        refine re_xld X hX hbl hi85 dL_law_431 ?_
        refine re_callVi X (lk_X9_clause l w (xs (zIx (x3 + 1))) (xs (zIx (x3 + 2))) hx0) (ca_X9_clause (by decide) (by decide)) ml_RL_54 im_X9_clause se_X9_clause cl_9 hx0 rfl rfl rfl (zle rfl) zRoL dL_law_432 (fun r86 M87 hr86 => ?_)
        refine re_aload_n X dL_law_435 rfl rfl ?_
        refine re_aload_n X dL_law_436 rfl rfl ?_
        refine re_iload_n X dL_law_437 rfl rfl ?_
        refine re_iconst (v := 1) X dL_law_438 (by decide) ?_
        refine re_iadd X dL_law_439 ?_
        refine re_ck (fun hi88 => ?_)
        refine re_xld X hX hbl hi88 dL_law_440 ?_
        refine re_aload_n X dL_law_441 rfl rfl ?_
        refine re_iload_n X dL_law_442 rfl rfl ?_
        refine re_iconst (v := 2) X dL_law_443 (by decide) ?_
        refine re_iadd X dL_law_444 ?_
        refine re_ck (fun hi89 => ?_)
        refine re_xld X hX hbl hi89 dL_law_445 ?_
        refine re_callVi X (lk_X10_clause_ l w (xs (zIx (x3 + 1))) (xs (zIx (x3 + 2))) hm0) (ca_X10_clause_ (by decide) (by decide)) ml_RL_57 im_X10_clause_ se_X10_clause_ cl_10 hm0 rfl rfl rfl (zle rfl) zRoL dL_law_446 (fun r90 M91 hr90 => ?_)
        refine re_icmp_eq (tgt := 701) X dL_law_449 (by decide) (fun _ => ?_) (fun _ => ?_)
        · refine re_iinc (v := 6) (lv' := [some (.ref b), some (.ref (zA w 0)), some (.ref (zA w 74)), some (.int (x3 + 6))]) X dL_law_701 rfl (by decide) rfl ?_
          refine re_goto (tgt := 18) X dL_law_704 (by decide) ?_
          exact ih (x3 + 6) M91
        · refine re_iconst (v := 0) X dL_law_452 (by decide) ?_
          exact re_lret0 X dL_law_453
      refine re_if (fun e92 => ?_) (fun e92 => ?_)
      · refine re_sw_in (v := 10) (off := 421) (tgt := 454) X dL_law_33 e92 (by decide) (by decide) (by decide +kernel) (by decide) ?_
        refine re_aload_n X dL_law_454 rfl rfl ?_
        refine re_aload_n X dL_law_455 rfl rfl ?_
        refine re_iload_n X dL_law_456 rfl rfl ?_
        refine re_iconst (v := 1) X dL_law_457 (by decide) ?_
        refine re_iadd X dL_law_458 ?_
        refine re_ck (fun hi93 => ?_)
        refine re_xld X hX hbl hi93 dL_law_459 ?_
        refine re_callVi X (lk_X9_place l w (xs (zIx (x3 + 1))) hx0) (ca_X9_place (by decide) (by decide)) ml_RL_58 im_X9_place se_X9_place cl_9 hx0 rfl rfl rfl (zle rfl) zRoL dL_law_460 (fun r94 M95 hr94 => ?_)
        refine re_aload_n X dL_law_463 rfl rfl ?_
        refine re_aload_n X dL_law_464 rfl rfl ?_
        refine re_iload_n X dL_law_465 rfl rfl ?_
        refine re_iconst (v := 1) X dL_law_466 (by decide) ?_
        refine re_iadd X dL_law_467 ?_
        refine re_ck (fun hi96 => ?_)
        refine re_xld X hX hbl hi96 dL_law_468 ?_
        refine re_callVi X (lk_X10_place l w (xs (zIx (x3 + 1))) hm0) (ca_X10_place (by decide) (by decide)) ml_RL_61 im_X10_place se_X10_place cl_10 hm0 rfl rfl rfl (zle rfl) zRoL dL_law_469 (fun r97 M98 hr97 => ?_)
        refine re_icmp_eq (tgt := 701) X dL_law_472 (by decide) (fun _ => ?_) (fun _ => ?_)
        · refine re_iinc (v := 6) (lv' := [some (.ref b), some (.ref (zA w 0)), some (.ref (zA w 74)), some (.int (x3 + 6))]) X dL_law_701 rfl (by decide) rfl ?_
          refine re_goto (tgt := 18) X dL_law_704 (by decide) ?_
          exact ih (x3 + 6) M98
        · refine re_iconst (v := 0) X dL_law_475 (by decide) ?_
          exact re_lret0 X dL_law_476
      refine re_if (fun e99 => ?_) (fun e99 => ?_)
      · refine re_sw_in (v := 11) (off := 444) (tgt := 477) X dL_law_33 e99 (by decide) (by decide) (by decide +kernel) (by decide) ?_
        refine re_aload_n X dL_law_477 rfl rfl ?_
        refine re_aload_n X dL_law_478 rfl rfl ?_
        refine re_iload_n X dL_law_479 rfl rfl ?_
        refine re_iconst (v := 1) X dL_law_480 (by decide) ?_
        refine re_iadd X dL_law_481 ?_
        refine re_ck (fun hi100 => ?_)
        refine re_xld X hX hbl hi100 dL_law_482 ?_
        refine re_callVi X (lk_X9_speeches l w (xs (zIx (x3 + 1))) hx0) (ca_X9_speeches (by decide) (by decide)) ml_RL_62 im_X9_speeches se_X9_speeches cl_9 hx0 rfl rfl rfl (zle rfl) zRoL dL_law_483 (fun r101 M102 hr101 => ?_)
        refine re_aload_n X dL_law_486 rfl rfl ?_
        refine re_aload_n X dL_law_487 rfl rfl ?_
        refine re_iload_n X dL_law_488 rfl rfl ?_
        refine re_iconst (v := 1) X dL_law_489 (by decide) ?_
        refine re_iadd X dL_law_490 ?_
        refine re_ck (fun hi103 => ?_)
        refine re_xld X hX hbl hi103 dL_law_491 ?_
        refine re_callVi X (lk_X10_speeches l w (xs (zIx (x3 + 1))) hm0) (ca_X10_speeches (by decide) (by decide)) ml_RL_65 im_X10_speeches se_X10_speeches cl_10 hm0 rfl rfl rfl (zle rfl) zRoL dL_law_492 (fun r104 M105 hr104 => ?_)
        refine re_icmp_eq (tgt := 701) X dL_law_495 (by decide) (fun _ => ?_) (fun _ => ?_)
        · refine re_iinc (v := 6) (lv' := [some (.ref b), some (.ref (zA w 0)), some (.ref (zA w 74)), some (.int (x3 + 6))]) X dL_law_701 rfl (by decide) rfl ?_
          refine re_goto (tgt := 18) X dL_law_704 (by decide) ?_
          exact ih (x3 + 6) M105
        · refine re_iconst (v := 0) X dL_law_498 (by decide) ?_
          exact re_lret0 X dL_law_499
      refine re_if (fun e106 => ?_) (fun e106 => ?_)
      · refine re_sw_in (v := 12) (off := 467) (tgt := 500) X dL_law_33 e106 (by decide) (by decide) (by decide +kernel) (by decide) ?_
        refine re_aload_n X dL_law_500 rfl rfl ?_
        refine re_aload_n X dL_law_501 rfl rfl ?_
        refine re_iload_n X dL_law_502 rfl rfl ?_
        refine re_iconst (v := 1) X dL_law_503 (by decide) ?_
        refine re_iadd X dL_law_504 ?_
        refine re_ck (fun hi107 => ?_)
        refine re_xld X hX hbl hi107 dL_law_505 ?_
        refine re_callVi X (lk_X9_waits l w (xs (zIx (x3 + 1))) hx0) (ca_X9_waits (by decide) (by decide)) ml_RL_66 im_X9_waits se_X9_waits cl_9 hx0 rfl rfl rfl (zle rfl) zRoL dL_law_506 (fun r108 M109 hr108 => ?_)
        refine re_aload_n X dL_law_509 rfl rfl ?_
        refine re_aload_n X dL_law_510 rfl rfl ?_
        refine re_iload_n X dL_law_511 rfl rfl ?_
        refine re_iconst (v := 1) X dL_law_512 (by decide) ?_
        refine re_iadd X dL_law_513 ?_
        refine re_ck (fun hi110 => ?_)
        refine re_xld X hX hbl hi110 dL_law_514 ?_
        refine re_callVi X (lk_X10_waits l w (xs (zIx (x3 + 1))) hm0) (ca_X10_waits (by decide) (by decide)) ml_RL_69 im_X10_waits se_X10_waits cl_10 hm0 rfl rfl rfl (zle rfl) zRoL dL_law_515 (fun r111 M112 hr111 => ?_)
        refine re_icmp_eq (tgt := 701) X dL_law_518 (by decide) (fun _ => ?_) (fun _ => ?_)
        · refine re_iinc (v := 6) (lv' := [some (.ref b), some (.ref (zA w 0)), some (.ref (zA w 74)), some (.int (x3 + 6))]) X dL_law_701 rfl (by decide) rfl ?_
          refine re_goto (tgt := 18) X dL_law_704 (by decide) ?_
          exact ih (x3 + 6) M112
        · refine re_iconst (v := 0) X dL_law_521 (by decide) ?_
          exact re_lret0 X dL_law_522
      refine re_if (fun e113 => ?_) (fun e113 => ?_)
      · refine re_sw_in (v := 13) (off := 490) (tgt := 523) X dL_law_33 e113 (by decide) (by decide) (by decide +kernel) (by decide) ?_
        refine re_aload_n X dL_law_523 rfl rfl ?_
        refine re_aload_n X dL_law_524 rfl rfl ?_
        refine re_iload_n X dL_law_525 rfl rfl ?_
        refine re_iconst (v := 1) X dL_law_526 (by decide) ?_
        refine re_iadd X dL_law_527 ?_
        refine re_ck (fun hi114 => ?_)
        refine re_xld X hX hbl hi114 dL_law_528 ?_
        refine re_callVi X (lk_X9_overturned l w (xs (zIx (x3 + 1))) hx0) (ca_X9_overturned (by decide) (by decide)) ml_RL_70 im_X9_overturned se_X9_overturned cl_9 hx0 rfl rfl rfl (zle rfl) zRoL dL_law_529 (fun r115 M116 hr115 => ?_)
        refine re_aload_n X dL_law_532 rfl rfl ?_
        refine re_aload_n X dL_law_533 rfl rfl ?_
        refine re_iload_n X dL_law_534 rfl rfl ?_
        refine re_iconst (v := 1) X dL_law_535 (by decide) ?_
        refine re_iadd X dL_law_536 ?_
        refine re_ck (fun hi117 => ?_)
        refine re_xld X hX hbl hi117 dL_law_537 ?_
        refine re_callVi X (lk_X10_overturned l w (xs (zIx (x3 + 1))) hm0) (ca_X10_overturned (by decide) (by decide)) ml_RL_73 im_X10_overturned se_X10_overturned cl_10 hm0 rfl rfl rfl (zle rfl) zRoL dL_law_538 (fun r118 M119 hr118 => ?_)
        refine re_icmp_eq (tgt := 701) X dL_law_541 (by decide) (fun _ => ?_) (fun _ => ?_)
        · refine re_iinc (v := 6) (lv' := [some (.ref b), some (.ref (zA w 0)), some (.ref (zA w 74)), some (.int (x3 + 6))]) X dL_law_701 rfl (by decide) rfl ?_
          refine re_goto (tgt := 18) X dL_law_704 (by decide) ?_
          exact ih (x3 + 6) M119
        · refine re_iconst (v := 0) X dL_law_544 (by decide) ?_
          exact re_lret0 X dL_law_545
      refine re_if (fun e120 => ?_) (fun e120 => ?_)
      · refine re_sw_in (v := 14) (off := 513) (tgt := 546) X dL_law_33 e120 (by decide) (by decide) (by decide +kernel) (by decide) ?_
        refine re_aload_n X dL_law_546 rfl rfl ?_
        refine re_aload_n X dL_law_547 rfl rfl ?_
        refine re_iload_n X dL_law_548 rfl rfl ?_
        refine re_iconst (v := 1) X dL_law_549 (by decide) ?_
        refine re_iadd X dL_law_550 ?_
        refine re_ck (fun hi121 => ?_)
        refine re_xld X hX hbl hi121 dL_law_551 ?_
        refine re_aload_n X dL_law_552 rfl rfl ?_
        refine re_iload_n X dL_law_553 rfl rfl ?_
        refine re_iconst (v := 2) X dL_law_554 (by decide) ?_
        refine re_iadd X dL_law_555 ?_
        refine re_ck (fun hi122 => ?_)
        refine re_xld X hX hbl hi122 dL_law_556 ?_
        refine re_callVi X (lk_X9_beside l w (xs (zIx (x3 + 1))) (xs (zIx (x3 + 2))) hx0) (ca_X9_beside (by decide) (by decide)) ml_RL_74 im_X9_beside se_X9_beside cl_9 hx0 rfl rfl rfl (zle rfl) zRoL dL_law_557 (fun r123 M124 hr123 => ?_)
        refine re_aload_n X dL_law_560 rfl rfl ?_
        refine re_aload_n X dL_law_561 rfl rfl ?_
        refine re_iload_n X dL_law_562 rfl rfl ?_
        refine re_iconst (v := 1) X dL_law_563 (by decide) ?_
        refine re_iadd X dL_law_564 ?_
        refine re_ck (fun hi125 => ?_)
        refine re_xld X hX hbl hi125 dL_law_565 ?_
        refine re_aload_n X dL_law_566 rfl rfl ?_
        refine re_iload_n X dL_law_567 rfl rfl ?_
        refine re_iconst (v := 2) X dL_law_568 (by decide) ?_
        refine re_iadd X dL_law_569 ?_
        refine re_ck (fun hi126 => ?_)
        refine re_xld X hX hbl hi126 dL_law_570 ?_
        refine re_callVi X (lk_X10_beside l w (xs (zIx (x3 + 1))) (xs (zIx (x3 + 2))) hm0) (ca_X10_beside (by decide) (by decide)) ml_RL_77 im_X10_beside se_X10_beside cl_10 hm0 rfl rfl rfl (zle rfl) zRoL dL_law_571 (fun r127 M128 hr127 => ?_)
        refine re_icmp_eq (tgt := 701) X dL_law_574 (by decide) (fun _ => ?_) (fun _ => ?_)
        · refine re_iinc (v := 6) (lv' := [some (.ref b), some (.ref (zA w 0)), some (.ref (zA w 74)), some (.int (x3 + 6))]) X dL_law_701 rfl (by decide) rfl ?_
          refine re_goto (tgt := 18) X dL_law_704 (by decide) ?_
          exact ih (x3 + 6) M128
        · refine re_iconst (v := 0) X dL_law_577 (by decide) ?_
          exact re_lret0 X dL_law_578
      refine re_if (fun e129 => ?_) (fun e129 => ?_)
      · refine re_sw_in (v := 15) (off := 546) (tgt := 579) X dL_law_33 e129 (by decide) (by decide) (by decide +kernel) (by decide) ?_
        refine re_aload_n X dL_law_579 rfl rfl ?_
        refine re_aload_n X dL_law_580 rfl rfl ?_
        refine re_iload_n X dL_law_581 rfl rfl ?_
        refine re_iconst (v := 1) X dL_law_582 (by decide) ?_
        refine re_iadd X dL_law_583 ?_
        refine re_ck (fun hi130 => ?_)
        refine re_xld X hX hbl hi130 dL_law_584 ?_
        refine re_aload_n X dL_law_585 rfl rfl ?_
        refine re_iload_n X dL_law_586 rfl rfl ?_
        refine re_iconst (v := 2) X dL_law_587 (by decide) ?_
        refine re_iadd X dL_law_588 ?_
        refine re_ck (fun hi131 => ?_)
        refine re_xld X hX hbl hi131 dL_law_589 ?_
        refine re_aload_n X dL_law_590 rfl rfl ?_
        refine re_iload_n X dL_law_591 rfl rfl ?_
        refine re_iconst (v := 3) X dL_law_592 (by decide) ?_
        refine re_iadd X dL_law_593 ?_
        refine re_ck (fun hi132 => ?_)
        refine re_xld X hX hbl hi132 dL_law_594 ?_
        refine re_aload_n X dL_law_595 rfl rfl ?_
        refine re_iload_n X dL_law_596 rfl rfl ?_
        refine re_iconst (v := 4) X dL_law_597 (by decide) ?_
        refine re_iadd X dL_law_598 ?_
        refine re_ck (fun hi133 => ?_)
        refine re_xld X hX hbl hi133 dL_law_599 ?_
        refine re_callVz X (lk_X9_score l w (xs (zIx (x3 + 1))) (xs (zIx (x3 + 2))) (xs (zIx (x3 + 3))) (xs (zIx (x3 + 4))) hx0) (ca_X9_score (by decide) (by decide)) ml_RL_78 im_X9_score se_X9_score cl_9 hx0 rfl rfl rfl (zle rfl) zRoL dL_law_600 (fun r134 M135 hr134 => ?_)
        refine re_aload_n X dL_law_603 rfl rfl ?_
        refine re_aload_n X dL_law_604 rfl rfl ?_
        refine re_iload_n X dL_law_605 rfl rfl ?_
        refine re_iconst (v := 1) X dL_law_606 (by decide) ?_
        refine re_iadd X dL_law_607 ?_
        refine re_ck (fun hi136 => ?_)
        refine re_xld X hX hbl hi136 dL_law_608 ?_
        refine re_aload_n X dL_law_609 rfl rfl ?_
        refine re_iload_n X dL_law_610 rfl rfl ?_
        refine re_iconst (v := 2) X dL_law_611 (by decide) ?_
        refine re_iadd X dL_law_612 ?_
        refine re_ck (fun hi137 => ?_)
        refine re_xld X hX hbl hi137 dL_law_613 ?_
        refine re_aload_n X dL_law_614 rfl rfl ?_
        refine re_iload_n X dL_law_615 rfl rfl ?_
        refine re_iconst (v := 3) X dL_law_616 (by decide) ?_
        refine re_iadd X dL_law_617 ?_
        refine re_ck (fun hi138 => ?_)
        refine re_xld X hX hbl hi138 dL_law_618 ?_
        refine re_aload_n X dL_law_619 rfl rfl ?_
        refine re_iload_n X dL_law_620 rfl rfl ?_
        refine re_iconst (v := 4) X dL_law_621 (by decide) ?_
        refine re_iadd X dL_law_622 ?_
        refine re_ck (fun hi139 => ?_)
        refine re_xld X hX hbl hi139 dL_law_623 ?_
        refine re_callVz X (lk_X10_score l w (xs (zIx (x3 + 1))) (xs (zIx (x3 + 2))) (xs (zIx (x3 + 3))) (xs (zIx (x3 + 4))) hm0) (ca_X10_score (by decide) (by decide)) ml_RL_82 im_X10_score se_X10_score cl_10 hm0 rfl rfl rfl (zle rfl) zRoL dL_law_624 (fun r140 M141 hr140 => ?_)
        refine re_icmp_eq (tgt := 701) X dL_law_627 (by decide) (fun _ => ?_) (fun _ => ?_)
        · refine re_iinc (v := 6) (lv' := [some (.ref b), some (.ref (zA w 0)), some (.ref (zA w 74)), some (.int (x3 + 6))]) X dL_law_701 rfl (by decide) rfl ?_
          refine re_goto (tgt := 18) X dL_law_704 (by decide) ?_
          exact ih (x3 + 6) M141
        · refine re_iconst (v := 0) X dL_law_630 (by decide) ?_
          exact re_lret0 X dL_law_631
      refine re_if (fun e142 => ?_) (fun e142 => ?_)
      · refine re_sw_in (v := 16) (off := 599) (tgt := 632) X dL_law_33 e142 (by decide) (by decide) (by decide +kernel) (by decide) ?_
        refine re_aload_n X dL_law_632 rfl rfl ?_
        refine re_aload_n X dL_law_633 rfl rfl ?_
        refine re_iload_n X dL_law_634 rfl rfl ?_
        refine re_iconst (v := 1) X dL_law_635 (by decide) ?_
        refine re_iadd X dL_law_636 ?_
        refine re_ck (fun hi143 => ?_)
        refine re_xld X hX hbl hi143 dL_law_637 ?_
        refine re_callVi X (lk_X9_mean l w (xs (zIx (x3 + 1))) hx0) (ca_X9_mean (by decide) (by decide)) ml_RL_83 im_X9_mean se_X9_mean cl_9 hx0 rfl rfl rfl (zle rfl) zRoL dL_law_638 (fun r144 M145 hr144 => ?_)
        refine re_aload_n X dL_law_641 rfl rfl ?_
        refine re_aload_n X dL_law_642 rfl rfl ?_
        refine re_iload_n X dL_law_643 rfl rfl ?_
        refine re_iconst (v := 1) X dL_law_644 (by decide) ?_
        refine re_iadd X dL_law_645 ?_
        refine re_ck (fun hi146 => ?_)
        refine re_xld X hX hbl hi146 dL_law_646 ?_
        refine re_callVi X (lk_X10_mean l w (xs (zIx (x3 + 1))) hm0) (ca_X10_mean (by decide) (by decide)) ml_RL_86 im_X10_mean se_X10_mean cl_10 hm0 rfl rfl rfl (zle rfl) zRoL dL_law_647 (fun r147 M148 hr147 => ?_)
        refine re_icmp_eq (tgt := 701) X dL_law_650 (by decide) (fun _ => ?_) (fun _ => ?_)
        · refine re_iinc (v := 6) (lv' := [some (.ref b), some (.ref (zA w 0)), some (.ref (zA w 74)), some (.int (x3 + 6))]) X dL_law_701 rfl (by decide) rfl ?_
          refine re_goto (tgt := 18) X dL_law_704 (by decide) ?_
          exact ih (x3 + 6) M148
        · refine re_iconst (v := 0) X dL_law_653 (by decide) ?_
          exact re_lret0 X dL_law_654
      refine re_if (fun e149 => ?_) (fun e149 => ?_)
      · refine re_sw_in (v := 17) (off := 622) (tgt := 655) X dL_law_33 e149 (by decide) (by decide) (by decide +kernel) (by decide) ?_
        refine re_aload_n X dL_law_655 rfl rfl ?_
        refine re_aload_n X dL_law_656 rfl rfl ?_
        refine re_iload_n X dL_law_657 rfl rfl ?_
        refine re_iconst (v := 1) X dL_law_658 (by decide) ?_
        refine re_iadd X dL_law_659 ?_
        refine re_ck (fun hi150 => ?_)
        refine re_xld X hX hbl hi150 dL_law_660 ?_
        refine re_callVi X (lk_X9_award l w (xs (zIx (x3 + 1))) hx0) (ca_X9_award (by decide) (by decide)) ml_RL_87 im_X9_award se_X9_award cl_9 hx0 rfl rfl rfl (zle rfl) zRoL dL_law_661 (fun r151 M152 hr151 => ?_)
        refine re_aload_n X dL_law_664 rfl rfl ?_
        refine re_aload_n X dL_law_665 rfl rfl ?_
        refine re_iload_n X dL_law_666 rfl rfl ?_
        refine re_iconst (v := 1) X dL_law_667 (by decide) ?_
        refine re_iadd X dL_law_668 ?_
        refine re_ck (fun hi153 => ?_)
        refine re_xld X hX hbl hi153 dL_law_669 ?_
        refine re_callVi X (lk_X10_award l w (xs (zIx (x3 + 1))) hm0) (ca_X10_award (by decide) (by decide)) ml_RL_90 im_X10_award se_X10_award cl_10 hm0 rfl rfl rfl (zle rfl) zRoL dL_law_670 (fun r154 M155 hr154 => ?_)
        refine re_icmp_eq (tgt := 701) X dL_law_673 (by decide) (fun _ => ?_) (fun _ => ?_)
        · refine re_iinc (v := 6) (lv' := [some (.ref b), some (.ref (zA w 0)), some (.ref (zA w 74)), some (.int (x3 + 6))]) X dL_law_701 rfl (by decide) rfl ?_
          refine re_goto (tgt := 18) X dL_law_704 (by decide) ?_
          exact ih (x3 + 6) M155
        · refine re_iconst (v := 0) X dL_law_676 (by decide) ?_
          exact re_lret0 X dL_law_677
      refine re_if (fun e156 => ?_) (fun e156 => ?_)
      · refine re_sw_in (v := 18) (off := 645) (tgt := 678) X dL_law_33 e156 (by decide) (by decide) (by decide +kernel) (by decide) ?_
        refine re_aload_n X dL_law_678 rfl rfl ?_
        refine re_aload_n X dL_law_679 rfl rfl ?_
        refine re_iload_n X dL_law_680 rfl rfl ?_
        refine re_iconst (v := 1) X dL_law_681 (by decide) ?_
        refine re_iadd X dL_law_682 ?_
        refine re_ck (fun hi157 => ?_)
        refine re_xld X hX hbl hi157 dL_law_683 ?_
        refine re_callVi X (lk_X9_told l w (xs (zIx (x3 + 1))) hx0) (ca_X9_told (by decide) (by decide)) ml_RL_91 im_X9_told se_X9_told cl_9 hx0 rfl rfl rfl (zle rfl) zRoL dL_law_684 (fun r158 M159 hr158 => ?_)
        refine re_aload_n X dL_law_687 rfl rfl ?_
        refine re_aload_n X dL_law_688 rfl rfl ?_
        refine re_iload_n X dL_law_689 rfl rfl ?_
        refine re_iconst (v := 1) X dL_law_690 (by decide) ?_
        refine re_iadd X dL_law_691 ?_
        refine re_ck (fun hi160 => ?_)
        refine re_xld X hX hbl hi160 dL_law_692 ?_
        refine re_callVi X (lk_X10_told l w (xs (zIx (x3 + 1))) hm0) (ca_X10_told (by decide) (by decide)) ml_RL_94 im_X10_told se_X10_told cl_10 hm0 rfl rfl rfl (zle rfl) zRoL dL_law_693 (fun r161 M162 hr161 => ?_)
        refine re_icmp_eq (tgt := 701) X dL_law_696 (by decide) (fun _ => ?_) (fun _ => ?_)
        · refine re_iinc (v := 6) (lv' := [some (.ref b), some (.ref (zA w 0)), some (.ref (zA w 74)), some (.int (x3 + 6))]) X dL_law_701 rfl (by decide) rfl ?_
          refine re_goto (tgt := 18) X dL_law_704 (by decide) ?_
          exact ih (x3 + 6) M162
        · refine re_iconst (v := 0) X dL_law_699 (by decide) ?_
          exact re_lret0 X dL_law_700
      refine re_sw_out (tgt := 701) X dL_law_33 (by
          have e2 := lv_neT (a := 0) e2 (by decide)
          have e17 := lv_neT (a := 1) e17 (by decide)
          have e24 := lv_neT (a := 2) e24 (by decide)
          have e29 := lv_neT (a := 3) e29 (by decide)
          have e38 := lv_neT (a := 4) e38 (by decide)
          have e53 := lv_neT (a := 5) e53 (by decide)
          have e60 := lv_neT (a := 6) e60 (by decide)
          have e67 := lv_neT (a := 7) e67 (by decide)
          have e74 := lv_neT (a := 8) e74 (by decide)
          have e83 := lv_neT (a := 9) e83 (by decide)
          have e92 := lv_neT (a := 10) e92 (by decide)
          have e99 := lv_neT (a := 11) e99 (by decide)
          have e106 := lv_neT (a := 12) e106 (by decide)
          have e113 := lv_neT (a := 13) e113 (by decide)
          have e120 := lv_neT (a := 14) e120 (by decide)
          have e129 := lv_neT (a := 15) e129 (by decide)
          have e142 := lv_neT (a := 16) e142 (by decide)
          have e149 := lv_neT (a := 17) e149 (by decide)
          have e156 := lv_neT (a := 18) e156 (by decide)
          omega) (by decide) ?_
      refine re_iinc (v := 6) (lv' := [some (.ref b), some (.ref (zA w 0)), some (.ref (zA w 74)), some (.int (x3 + 6))]) X dL_law_701 rfl (by decide) rfl ?_
      refine re_goto (tgt := 18) X dL_law_704 (by decide) ?_
      exact ih (x3 + 6) M

