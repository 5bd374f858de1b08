/-! DebateHouse$Jury.take -/
abbrev rm_X1_take : Room := { frames := 1, cells := 0, slots := 0, locals := 20 }
def f_X1_take_B62 (u1 : Int32) (u2 : Int32) (u3 : Int32) (u4 : Int32)  (M : zMem) : zTr := zCk (zIn u1 6) (zLt (zUp M 65 (zIx u1) u2) (fun M6 => zCk (zIn u1 6) (zCk (zIn u3 24) (zLt (zUp M6 (67 + zIx u1) (zIx u3) u4) (fun M9 => some (1, M9))))))
def f_X1_take (u1 : Int32) (u2 : Int32) (u3 : Int32) (u4 : Int32) (M : zMem) : zTr := if u1 < 0 then some (0, M) else if 6 ≤ u1 then some (0, M) else zBd (f_X9_isSchool u2 M) (fun r1 M2 => if r1 = 0 then some (0, M2) else zBd (f_X9_isMember u3 M2) (fun r3 M4 => if r3 = 0 then some (0, M4) else if u4 < 0 then some (0, M4) else if u4 ≤ 100 then zCk (zIn u1 6) (if (M4 65 (zIx u1)) = (-1) then f_X1_take_B62 u1 u2 u3 u4 M4 else zCk (zIn u1 6) (if (M4 65 (zIx u1)) = u2 then f_X1_take_B62 u1 u2 u3 u4 M4 else some (0, M4))) else some (0, M4)))
set_option maxRecDepth 100000 in
theorem lb_X1_take_62 {p : Program} {l : Launch} {e : Env} {s : State} {m : MethodId} {args : Array Value} {below : List Frame} {meth : Method} {c : Code} {w : zWD} {u1 : Int32} {u2 : Int32} {u3 : Int32} {u4 : Int32} (X : zCx p s m args meth c w (zFree w) RX1 cX1_take 5 (some .boolean)) (ho : zKd w 64 = (1, 4)) : ∀ (M : zMem), zRm p l e rm_X1_take s m args below meth c w 2 62 [some (.ref (zA w 64)), some (.int u1), some (.int u2), some (.int u3), some (.int u4)] [] M (f_X1_take_B62 u1 u2 u3 u4 M) := by
  intro M
  unfold f_X1_take_B62
  refine re_aload_n X dX1_take_62 rfl rfl ?_
  refine re_getR X cl_1 (by decide) fl_RX1_9 ho rfl (zR_1_1 ho) dX1_take_63 ?_
  refine re_iload_n X dX1_take_66 rfl rfl ?_
  refine re_iload_n X dX1_take_67 rfl rfl ?_
  refine re_ck (fun hi7 => ?_)
  refine re_iast X (zQ_1_1 X.clo ho) hi7 (j := zIx u1) rfl dX1_take_68 (fun M6 => ?_)
  refine re_aload_n X dX1_take_69 rfl rfl ?_
  refine re_getR X cl_1 (by decide) fl_RX1_17 ho rfl (zR_1_2 ho) dX1_take_70 ?_
  refine re_iload_n X dX1_take_73 rfl rfl ?_
  refine re_ck (fun hi8 => ?_)
  refine re_aald X (zQ_1_2 X.clo ho) (by decide) hi8 rfl (rw_66 (zIx_lt hi8)) dX1_take_74 ?_
  refine re_iload_n X dX1_take_75 rfl rfl ?_
  refine re_iload X dX1_take_76 rfl ?_
  refine re_ck (fun hi10 => ?_)
  refine re_iast X (rk_66 X.clo (zQ_1_2 X.clo ho) (zIx_lt hi8)) hi10 (j := zIx u3) rfl dX1_take_78 (fun M9 => ?_)
  refine re_iconst (v := 1) X dX1_take_79 (by decide) ?_
  exact re_zret X (Or.inr rfl) dX1_take_80

set_option maxRecDepth 100000 in
theorem lk_X1_take (l : Launch) (w : zWD) (u1 : Int32) (u2 : Int32) (u3 : Int32) (u4 : Int32) (ho : zKd w 64 = (1, 4)) : zMt l w yX1_take cX1_take 5 (some .boolean) rm_X1_take 2 [.ref (zA w 64), .int u1, .int u2, .int u3, .int u4] (fun M => f_X1_take u1 u2 u3 u4 M) := by
  refine zMt.of (by decide) [some (.ref (zA w 64)), some (.int u1), some (.int u2), some (.int u3), some (.int u4)] rfl (zle rfl) (by intro v hv; simp only [List.mem_cons, List.not_mem_nil, or_false] at hv; rcases hv with rfl | rfl | rfl | rfl | rfl <;> rfl) ?_
  intro p e s m args below meth c X M
  unfold f_X1_take
  refine re_iload_n X dX1_take_0 rfl rfl ?_
  refine re_if_lt (tgt := 24) X dX1_take_1 (by decide) (fun _ => ?_) (fun _ => ?_)
  · refine re_iconst (v := 0) X dX1_take_24 (by decide) ?_
    exact re_zret X (Or.inl rfl) dX1_take_25
  · refine re_iload_n X dX1_take_4 rfl rfl ?_
    refine re_bipush (v := 6) X dX1_take_5 (by decide) ?_
    refine re_icmp_ge (tgt := 24) X dX1_take_7 (by decide) (fun _ => ?_) (fun _ => ?_)
    · refine re_iconst (v := 0) X dX1_take_24 (by decide) ?_
      exact re_zret X (Or.inl rfl) dX1_take_25
    · refine re_iload_n X dX1_take_10 rfl rfl ?_
      refine re_callNz X (lk_X9_isSchool l w u2) (ca_X9_isSchool (by decide) (by decide)) (zN_11) sm_X9_isSchool rfl rfl rfl (zle rfl) zRo dX1_take_11 (fun r1 M2 hr1 => ?_)
      refine re_if_eq (tgt := 24) X dX1_take_14 (by decide) (fun _ => ?_) (fun _ => ?_)
      · refine re_iconst (v := 0) X dX1_take_24 (by decide) ?_
        exact re_zret X (Or.inl rfl) dX1_take_25
      · refine re_iload_n X dX1_take_17 rfl rfl ?_
        refine re_callNz X (lk_X9_isMember l w u3) (ca_X9_isMember (by decide) (by decide)) (zN_12) sm_X9_isMember rfl rfl rfl (zle rfl) zRo dX1_take_18 (fun r3 M4 hr3 => ?_)
        refine re_if_ne (tgt := 26) X dX1_take_21 (by decide) (fun _ => ?_) (fun _ => ?_)
        · refine re_iconst (v := 0) X dX1_take_24 (by decide) ?_
          exact re_zret X (Or.inl rfl) dX1_take_25
        · refine re_iload X dX1_take_26 rfl ?_
          refine re_if_lt (tgt := 38) X dX1_take_28 (by decide) (fun _ => ?_) (fun _ => ?_)
          · refine re_iconst (v := 0) X dX1_take_38 (by decide) ?_
            exact re_zret X (Or.inl rfl) dX1_take_39
          · refine re_iload X dX1_take_31 rfl ?_
            refine re_bipush (v := 100) X dX1_take_33 (by decide) ?_
            refine re_icmp_le (tgt := 40) X dX1_take_35 (by decide) (fun _ => ?_) (fun _ => ?_)
            · refine re_aload_n X dX1_take_40 rfl rfl ?_
              refine re_getR X cl_1 (by decide) fl_RX1_9 ho rfl (zR_1_1 ho) dX1_take_41 ?_
              refine re_iload_n X dX1_take_44 rfl rfl ?_
              refine re_ck (fun hi5 => ?_)
              refine re_iald X (zQ_1_1 X.clo ho) hi5 (j := zIx u1) rfl dX1_take_45 ?_
              refine re_iconst (v := -1) X dX1_take_46 (by decide) ?_
              refine re_icmp_eq (tgt := 62) X dX1_take_47 (by decide) (fun _ => ?_) (fun _ => ?_)
              · exact lb_X1_take_62 X ho M4
              · refine re_aload_n X dX1_take_50 rfl rfl ?_
                refine re_getR X cl_1 (by decide) fl_RX1_9 ho rfl (zR_1_1 ho) dX1_take_51 ?_
                refine re_iload_n X dX1_take_54 rfl rfl ?_
                refine re_ck (fun hi11 => ?_)
                refine re_iald X (zQ_1_1 X.clo ho) hi11 (j := zIx u1) rfl dX1_take_55 ?_
                refine re_iload_n X dX1_take_56 rfl rfl ?_
                refine re_icmp_eq (tgt := 62) X dX1_take_57 (by decide) (fun _ => ?_) (fun _ => ?_)
                · exact lb_X1_take_62 X ho M4
                · refine re_iconst (v := 0) X dX1_take_60 (by decide) ?_
                  exact re_zret X (Or.inl rfl) dX1_take_61
            · refine re_iconst (v := 0) X dX1_take_38 (by decide) ?_
              exact re_zret X (Or.inl rfl) dX1_take_39
theorem ca_X1_take {R : Room} (h1 : rm_X1_take.frames + 1 ≤ R.frames) (h2 : 8 + (5 + 11) + rm_X1_take.locals ≤ R.locals) : zCa yX1_take cX1_take 5 (some .boolean) rm_X1_take R 4 := ⟨cd_X1_take, iz_RX1, ⟨by decide, by decide, by decide⟩, rfl, rfl, h1, h2⟩
/-! DebateHouse$Jury.counts -/
abbrev rm_X1_counts : Room := { frames := 1, cells := 0, slots := 0, locals := 20 }
def f_X1_counts (u1 : Int32) (u2 : Int32) (M : zMem) : zTr := if u1 < 0 then some (0, M) else if 6 ≤ u1 then some (0, M) else zBd (f_X9_isMember u2 M) (fun r1 M2 => if r1 = 0 then some (0, M2) else zCk (zIn u1 6) (zCk (zIn u2 24) (if (M2 (67 + zIx u1) (zIx u2)) = (-1) then some (0, M2) else zCk (zIn u1 6) (zCk (zIn u2 24) (if (M2 65 (zIx u1)) = (M2 14 (zIx u2)) then some (0, M2) else some (1, M2))))))
set_option maxRecDepth 100000 in
theorem lk_X1_counts (l : Launch) (w : zWD) (u1 : Int32) (u2 : Int32) (ho : zKd w 64 = (1, 4)) : zMt l w yX1_counts cX1_counts 3 (some .boolean) rm_X1_counts 2 [.ref (zA w 64), .int u1, .int u2] (fun M => f_X1_counts u1 u2 M) := by
  refine zMt.of (by decide) [some (.ref (zA w 64)), some (.int u1), some (.int u2)] rfl (zle rfl) (by intro v hv; simp only [List.mem_cons, List.not_mem_nil, or_false] at hv; rcases hv with rfl | rfl | rfl <;> rfl) ?_
  intro p e s m args below meth c X M
  unfold f_X1_counts
  refine re_iload_n X dX1_counts_0 rfl rfl ?_
  refine re_if_lt (tgt := 48) X dX1_counts_1 (by decide) (fun _ => ?_) (fun _ => ?_)
  · refine re_iconst (v := 0) X dX1_counts_48 (by decide) ?_
    exact re_zret X (Or.inl rfl) dX1_counts_49
  · refine re_iload_n X dX1_counts_4 rfl rfl ?_
    refine re_bipush (v := 6) X dX1_counts_5 (by decide) ?_
    refine re_icmp_ge (tgt := 48) X dX1_counts_7 (by decide) (fun _ => ?_) (fun _ => ?_)
    · refine re_iconst (v := 0) X dX1_counts_48 (by decide) ?_
      exact re_zret X (Or.inl rfl) dX1_counts_49
    · refine re_iload_n X dX1_counts_10 rfl rfl ?_
      refine re_callNz X (lk_X9_isMember l w u2) (ca_X9_isMember (by decide) (by decide)) (zN_12) sm_X9_isMember rfl rfl rfl (zle rfl) zRo dX1_counts_11 (fun r1 M2 hr1 => ?_)
      refine re_if_eq (tgt := 48) X dX1_counts_14 (by decide) (fun _ => ?_) (fun _ => ?_)
      · refine re_iconst (v := 0) X dX1_counts_48 (by decide) ?_
        exact re_zret X (Or.inl rfl) dX1_counts_49
      · refine re_aload_n X dX1_counts_17 rfl rfl ?_
        refine re_getR X cl_1 (by decide) fl_RX1_17 ho rfl (zR_1_2 ho) dX1_counts_18 ?_
        refine re_iload_n X dX1_counts_21 rfl rfl ?_
        refine re_ck (fun hi3 => ?_)
        refine re_aald X (zQ_1_2 X.clo ho) (by decide) hi3 rfl (rw_66 (zIx_lt hi3)) dX1_counts_22 ?_
        refine re_iload_n X dX1_counts_23 rfl rfl ?_
        refine re_ck (fun hi4 => ?_)
        refine re_iald X (rk_66 X.clo (zQ_1_2 X.clo ho) (zIx_lt hi3)) hi4 (j := zIx u2) rfl dX1_counts_24 ?_
        refine re_iconst (v := -1) X dX1_counts_25 (by decide) ?_
        refine re_icmp_eq (tgt := 48) X dX1_counts_26 (by decide) (fun _ => ?_) (fun _ => ?_)
        · refine re_iconst (v := 0) X dX1_counts_48 (by decide) ?_
          exact re_zret X (Or.inl rfl) dX1_counts_49
        · refine re_aload_n X dX1_counts_29 rfl rfl ?_
          refine re_getR X cl_1 (by decide) fl_RX1_9 ho rfl (zR_1_1 ho) dX1_counts_30 ?_
          refine re_iload_n X dX1_counts_33 rfl rfl ?_
          refine re_ck (fun hi5 => ?_)
          refine re_iald X (zQ_1_1 X.clo ho) hi5 (j := zIx u1) rfl dX1_counts_34 ?_
          refine re_aload_n X dX1_counts_35 rfl rfl ?_
          refine re_getR X cl_1 (by decide) fl_RX1_23 ho rfl (zR_1_0 ho) dX1_counts_36 ?_
          refine re_iload_n X dX1_counts_39 rfl rfl ?_
          refine re_ck (fun hi6 => ?_)
          refine re_iald X (zQ_1_0 X.clo ho) hi6 (j := zIx u2) rfl dX1_counts_40 ?_
          refine re_icmp_eq (tgt := 48) X dX1_counts_41 (by decide) (fun _ => ?_) (fun _ => ?_)
          · refine re_iconst (v := 0) X dX1_counts_48 (by decide) ?_
            exact re_zret X (Or.inl rfl) dX1_counts_49
          · refine re_iconst (v := 1) X dX1_counts_44 (by decide) ?_
            refine re_goto (tgt := 49) X dX1_counts_45 (by decide) ?_
            exact re_zret X (Or.inr rfl) dX1_counts_49
theorem ca_X1_counts {R : Room} (h1 : rm_X1_counts.frames + 1 ≤ R.frames) (h2 : 8 + (3 + 11) + rm_X1_counts.locals ≤ R.locals) : zCa yX1_counts cX1_counts 3 (some .boolean) rm_X1_counts R 2 := ⟨cd_X1_counts, iz_RX1, ⟨by decide, by decide, by decide⟩, rfl, rfl, h1, h2⟩
/-! DebateHouse$Jury.scaled -/
abbrev rm_X1_scaled : Room := { frames := 2, cells := 0, slots := 0, locals := 42 }
def f_X1_scaled_B62 (u1 : Int32) (u2 : Int32)  (x3 : Int32) (x4 : Int32) (M : zMem) : zTr := if x4 ≤ x3 then some (500, M) else zCk (zIn u1 6) (zCk (zIn u2 24) (zCk (¬ (x4 - x3) = 0) (some ((((M (67 + zIx u1) (zIx u2)) - x3) * 1000) / (x4 - x3), M))))
def f_X1_scaled_L9 (u1 : Int32) (u2 : Int32)  : Nat → Int32 → Int32 → Int32 → zMem → zTr
  | 0, _, _, _, _ => none
  | n + 1, x3, x4, x5, M => if 24 ≤ x5 then f_X1_scaled_B62 u1 u2 x3 x4 M else zBd (f_X1_counts u1 x5 M) (fun r3 M4 => if r3 = 0 then f_X1_scaled_L9 u1 u2 n x3 x4 (x5 + 1) M4 else zCk (zIn u1 6) (zCk (zIn x5 24) (zCk (zIn u1 6) (zCk (zIn x5 24) (f_X1_scaled_L9 u1 u2 n (zMin x3 (M4 (67 + zIx u1) (zIx x5))) (zMax x4 (M4 (67 + zIx u1) (zIx x5))) (x5 + 1) M4)))))
def f_X1_scaled (u1 : Int32) (u2 : Int32) (M : zMem) : zTr := f_X1_scaled_L9 u1 u2 zFu 100 0 0 M
set_option maxRecDepth 100000 in
theorem lb_X1_scaled_62 {p : Program} {l : Launch} {e : Env} {s : State} {m : MethodId} {args : Array Value} {below : List Frame} {meth : Method} {c : Code} {w : zWD} {u1 : Int32} {u2 : Int32} (X : zCx p s m args meth c w (zFree w) RX1 cX1_scaled 6 (some .int)) (ho : zKd w 64 = (1, 4)) : ∀ (x3 : Int32) (x4 : Int32) (M : zMem), zRm p l e rm_X1_scaled s m args below meth c w 1 62 [some (.ref (zA w 64)), some (.int u1), some (.int u2), some (.int x3), some (.int x4), none] [] M (f_X1_scaled_B62 u1 u2 x3 x4 M) := by
  intro x3 x4 M
  unfold f_X1_scaled_B62
  refine re_iload X dX1_scaled_62 rfl ?_
  refine re_iload_n X dX1_scaled_64 rfl rfl ?_
  refine re_icmp_le (tgt := 90) X dX1_scaled_65 (by decide) (fun _ => ?_) (fun _ => ?_)
  · refine re_sipush (v := 500) X dX1_scaled_90 (by decide) ?_
    exact re_iret X dX1_scaled_93
  · refine re_aload_n X dX1_scaled_68 rfl rfl ?_
    refine re_getR X cl_1 (by decide) fl_RX1_17 ho rfl (zR_1_2 ho) dX1_scaled_69 ?_
    refine re_iload_n X dX1_scaled_72 rfl rfl ?_
    refine re_ck (fun hi1 => ?_)
    refine re_aald X (zQ_1_2 X.clo ho) (by decide) hi1 rfl (rw_66 (zIx_lt hi1)) dX1_scaled_73 ?_
    refine re_iload_n X dX1_scaled_74 rfl rfl ?_
    refine re_ck (fun hi2 => ?_)
    refine re_iald X (rk_66 X.clo (zQ_1_2 X.clo ho) (zIx_lt hi1)) hi2 (j := zIx u2) rfl dX1_scaled_75 ?_
    refine re_iload_n X dX1_scaled_76 rfl rfl ?_
    refine re_isub X dX1_scaled_77 ?_
    refine re_sipush (v := 1000) X dX1_scaled_78 (by decide) ?_
    refine re_imul X dX1_scaled_81 ?_
    refine re_iload X dX1_scaled_82 rfl ?_
    refine re_iload_n X dX1_scaled_84 rfl rfl ?_
    refine re_isub X dX1_scaled_85 ?_
    refine re_idiv X dX1_scaled_86 ?_
    refine re_goto (tgt := 93) X dX1_scaled_87 (by decide) ?_
    exact re_iret X dX1_scaled_93

set_option maxRecDepth 100000 in
theorem lb_X1_scaled_9 {p : Program} {l : Launch} {e : Env} {s : State} {m : MethodId} {args : Array Value} {below : List Frame} {meth : Method} {c : Code} {w : zWD} {u1 : Int32} {u2 : Int32} (X : zCx p s m args meth c w (zFree w) RX1 cX1_scaled 6 (some .int)) (ho : zKd w 64 = (1, 4)) : ∀ (n : Nat) (x3 : Int32) (x4 : Int32) (x5 : Int32) (M : zMem), zRm p l e rm_X1_scaled s m args below meth c w 1 9 [some (.ref (zA w 64)), some (.int u1), some (.int u2), some (.int x3), some (.int x4), some (.int x5)] [] M (f_X1_scaled_L9 u1 u2 n x3 x4 x5 M) := by
  intro n
  induction n with
  | zero => intro x3 x4 x5 M; exact re_none
  | succ n ih =>
    intro x3 x4 x5 M
    rw [f_X1_scaled_L9]
    refine re_iload X dX1_scaled_9 rfl ?_
    refine re_bipush (v := 24) X dX1_scaled_11 (by decide) ?_
    refine re_icmp_ge (tgt := 62) X dX1_scaled_13 (by decide) (fun _ => ?_) (fun _ => ?_)
    · exact re_sub (lb_X1_scaled_62 X ho x3 x4 M) ⟨rfl, ⟨rfl, ⟨rfl, ⟨rfl, ⟨rfl, trivial⟩⟩⟩⟩⟩
    · refine re_aload_n X dX1_scaled_16 rfl rfl ?_
      refine re_iload_n X dX1_scaled_17 rfl rfl ?_
      refine re_iload X dX1_scaled_18 rfl ?_
      refine re_callVz X (lk_X1_counts l w u1 x5 ho) (ca_X1_counts (by decide) (by decide)) ml_RX1_33 im_X1_counts se_X1_counts cl_1 ho rfl rfl rfl (zle rfl) zRo dX1_scaled_20 (fun r3 M4 hr3 => ?_)
      refine re_if_eq (tgt := 56) X dX1_scaled_23 (by decide) (fun _ => ?_) (fun _ => ?_)
      · refine re_iinc (v := 1) (lv' := [some (.ref (zA w 64)), some (.int u1), some (.int u2), some (.int x3), some (.int x4), some (.int (x5 + 1))]) X dX1_scaled_56 rfl (by decide) rfl ?_
        refine re_goto (tgt := 9) X dX1_scaled_59 (by decide) ?_
        exact ih x3 x4 (x5 + 1) M4
      · refine re_iload_n X dX1_scaled_26 rfl rfl ?_
        refine re_aload_n X dX1_scaled_27 rfl rfl ?_
        refine re_getR X cl_1 (by decide) fl_RX1_17 ho rfl (zR_1_2 ho) dX1_scaled_28 ?_
        refine re_iload_n X dX1_scaled_31 rfl rfl ?_
        refine re_ck (fun hi5 => ?_)
        refine re_aald X (zQ_1_2 X.clo ho) (by decide) hi5 rfl (rw_66 (zIx_lt hi5)) dX1_scaled_32 ?_
        refine re_iload X dX1_scaled_33 rfl ?_
        refine re_ck (fun hi6 => ?_)
        refine re_iald X (rk_66 X.clo (zQ_1_2 X.clo ho) (zIx_lt hi5)) hi6 (j := zIx x5) rfl dX1_scaled_35 ?_
        refine re_mmin X ml_RX1_48 (by decide) rfl (zle rfl) zRo dX1_scaled_36 ?_
        refine re_istore_n (lv' := [some (.ref (zA w 64)), some (.int u1), some (.int u2), some (.int (zMin x3 (M4 (67 + zIx u1) (zIx x5)))), some (.int x4), some (.int x5)]) X dX1_scaled_39 rfl (zlt rfl) rfl ?_
        refine re_iload X dX1_scaled_40 rfl ?_
        refine re_aload_n X dX1_scaled_42 rfl rfl ?_
        refine re_getR X cl_1 (by decide) fl_RX1_17 ho rfl (zR_1_2 ho) dX1_scaled_43 ?_
        refine re_iload_n X dX1_scaled_46 rfl rfl ?_
        refine re_ck (fun hi7 => ?_)
        refine re_aald X (zQ_1_2 X.clo ho) (by decide) hi7 rfl (rw_66 (zIx_lt hi7)) dX1_scaled_47 ?_
        refine re_iload X dX1_scaled_48 rfl ?_
        refine re_ck (fun hi8 => ?_)
        refine re_iald X (rk_66 X.clo (zQ_1_2 X.clo ho) (zIx_lt hi7)) hi8 (j := zIx x5) rfl dX1_scaled_50 ?_
        refine re_mmax X ml_RX1_53 (by decide) rfl (zle rfl) zRo dX1_scaled_51 ?_
        refine re_istore (lv' := [some (.ref (zA w 64)), some (.int u1), some (.int u2), some (.int (zMin x3 (M4 (67 + zIx u1) (zIx x5)))), some (.int (zMax x4 (M4 (67 + zIx u1) (zIx x5)))), some (.int x5)]) X dX1_scaled_54 (zlt rfl) rfl ?_
        refine re_iinc (v := 1) (lv' := [some (.ref (zA w 64)), some (.int u1), some (.int u2), some (.int (zMin x3 (M4 (67 + zIx u1) (zIx x5)))), some (.int (zMax x4 (M4 (67 + zIx u1) (zIx x5)))), some (.int (x5 + 1))]) X dX1_scaled_56 rfl (by decide) rfl ?_
        refine re_goto (tgt := 9) X dX1_scaled_59 (by decide) ?_
        exact ih (zMin x3 (M4 (67 + zIx u1) (zIx x5))) (zMax x4 (M4 (67 + zIx u1) (zIx x5))) (x5 + 1) M4

set_option maxRecDepth 100000 in
theorem lk_X1_scaled (l : Launch) (w : zWD) (u1 : Int32) (u2 : Int32) (ho : zKd w 64 = (1, 4)) : zMt l w yX1_scaled cX1_scaled 6 (some .int) rm_X1_scaled 1 [.ref (zA w 64), .int u1, .int u2] (fun M => f_X1_scaled u1 u2 M) := by
  refine zMt.of (by decide) [some (.ref (zA w 64)), some (.int u1), some (.int u2), none, none, none] rfl (zle rfl) (by intro v hv; simp only [List.mem_cons, List.not_mem_nil, or_false] at hv; rcases hv with rfl | rfl | rfl <;> rfl) ?_
  intro p e s m args below meth c X M
  unfold f_X1_scaled
  refine re_bipush (v := 100) X dX1_scaled_0 (by decide) ?_
  refine re_istore_n (lv' := [some (.ref (zA w 64)), some (.int u1), some (.int u2), some (.int 100), none, none]) X dX1_scaled_2 rfl (zlt rfl) rfl ?_
  refine re_iconst (v := 0) X dX1_scaled_3 (by decide) ?_
  refine re_istore (lv' := [some (.ref (zA w 64)), some (.int u1), some (.int u2), some (.int 100), some (.int 0), none]) X dX1_scaled_4 (zlt rfl) rfl ?_
  refine re_iconst (v := 0) X dX1_scaled_6 (by decide) ?_
  refine re_istore (lv' := [some (.ref (zA w 64)), some (.int u1), some (.int u2), some (.int 100), some (.int 0), some (.int 0)]) X dX1_scaled_7 (zlt rfl) rfl ?_
  exact lb_X1_scaled_9 X ho zFu 100 0 0 M
theorem ca_X1_scaled {R : Room} (h1 : rm_X1_scaled.frames + 1 ≤ R.frames) (h2 : 8 + (6 + 11) + rm_X1_scaled.locals ≤ R.locals) : zCa yX1_scaled cX1_scaled 6 (some .int) rm_X1_scaled R 2 := ⟨cd_X1_scaled, iz_RX1, ⟨by decide, by decide, by decide⟩, rfl, rfl, h1, h2⟩
/-! DebateHouse$Jury.meanOf -/
abbrev rm_X1_meanOf : Room := { frames := 3, cells := 0, slots := 0, locals := 67 }
def f_X1_meanOf_B43 (u1 : Int32)  (x2 : Int32) (x3 : Int32) (M : zMem) : zTr := if x3 ≤ 0 then some (-1, M) else zCk (¬ x3 = 0) (some (x2 / x3, M))
def f_X1_meanOf_L7 (u1 : Int32)  : Nat → Int32 → Int32 → Int32 → zMem → zTr
  | 0, _, _, _, _ => none
  | n + 1, x2, x3, x4, M => if 6 ≤ x4 then f_X1_meanOf_B43 u1 x2 x3 M else zBd (f_X1_counts x4 u1 M) (fun r1 M2 => if r1 = 0 then f_X1_meanOf_L7 u1 n x2 x3 (x4 + 1) M2 else zBd (f_X1_scaled x4 u1 M2) (fun r3 M4 => f_X1_meanOf_L7 u1 n (x2 + r3) (x3 + 1) (x4 + 1) M4))
def f_X1_meanOf (u1 : Int32) (M : zMem) : zTr := f_X1_meanOf_L7 u1 zFu 0 0 0 M
set_option maxRecDepth 100000 in
theorem lb_X1_meanOf_43 {p : Program} {l : Launch} {e : Env} {s : State} {m : MethodId} {args : Array Value} {below : List Frame} {meth : Method} {c : Code} {w : zWD} {u1 : Int32} (X : zCx p s m args meth c w (zFree w) RX1 cX1_meanOf 5 (some .int)) (ho : zKd w 64 = (1, 4)) : ∀ (x2 : Int32) (x3 : Int32) (M : zMem), zRm p l e rm_X1_meanOf s m args below meth c w 1 43 [none, none, some (.int x2), some (.int x3), none] [] M (f_X1_meanOf_B43 u1 x2 x3 M) := by
  intro x2 x3 M
  unfold f_X1_meanOf_B43
  refine re_iload_n X dX1_meanOf_43 rfl rfl ?_
  refine re_if_le (tgt := 53) X dX1_meanOf_44 (by decide) (fun _ => ?_) (fun _ => ?_)
  · refine re_iconst (v := -1) X dX1_meanOf_53 (by decide) ?_
    exact re_iret X dX1_meanOf_54
  · refine re_iload_n X dX1_meanOf_47 rfl rfl ?_
    refine re_iload_n X dX1_meanOf_48 rfl rfl ?_
    refine re_idiv X dX1_meanOf_49 ?_
    refine re_goto (tgt := 54) X dX1_meanOf_50 (by decide) ?_
    exact re_iret X dX1_meanOf_54

set_option maxRecDepth 100000 in
theorem lb_X1_meanOf_7 {p : Program} {l : Launch} {e : Env} {s : State} {m : MethodId} {args : Array Value} {below : List Frame} {meth : Method} {c : Code} {w : zWD} {u1 : Int32} (X : zCx p s m args meth c w (zFree w) RX1 cX1_meanOf 5 (some .int)) (ho : zKd w 64 = (1, 4)) : ∀ (n : Nat) (x2 : Int32) (x3 : Int32) (x4 : Int32) (M : zMem), zRm p l e rm_X1_meanOf s m args below meth c w 1 7 [some (.ref (zA w 64)), some (.int u1), some (.int x2), some (.int x3), some (.int x4)] [] M (f_X1_meanOf_L7 u1 n x2 x3 x4 M) := by
  intro n
  induction n with
  | zero => intro x2 x3 x4 M; exact re_none
  | succ n ih =>
    intro x2 x3 x4 M
    rw [f_X1_meanOf_L7]
    refine re_iload X dX1_meanOf_7 rfl ?_
    refine re_bipush (v := 6) X dX1_meanOf_9 (by decide) ?_
    refine re_icmp_ge (tgt := 43) X dX1_meanOf_11 (by decide) (fun _ => ?_) (fun _ => ?_)
    · exact re_sub (lb_X1_meanOf_43 X ho x2 x3 M) ⟨rfl, ⟨rfl, trivial⟩⟩
    · refine re_aload_n X dX1_meanOf_14 rfl rfl ?_
      refine re_iload X dX1_meanOf_15 rfl ?_
      refine re_iload_n X dX1_meanOf_17 rfl rfl ?_
      refine re_callVz X (lk_X1_counts l w x4 u1 ho) (ca_X1_counts (by decide) (by decide)) ml_RX1_33 im_X1_counts se_X1_counts cl_1 ho rfl rfl rfl (zle rfl) zRo dX1_meanOf_18 (fun r1 M2 hr1 => ?_)
      refine re_if_eq (tgt := 37) X dX1_meanOf_21 (by decide) (fun _ => ?_) (fun _ => ?_)
      · refine re_iinc (v := 1) (lv' := [some (.ref (zA w 64)), some (.int u1), some (.int x2), some (.int x3), some (.int (x4 + 1))]) X dX1_meanOf_37 rfl (by decide) rfl ?_
        refine re_goto (tgt := 7) X dX1_meanOf_40 (by decide) ?_
        exact ih x2 x3 (x4 + 1) M2
      · refine re_iload_n X dX1_meanOf_24 rfl rfl ?_
        refine re_aload_n X dX1_meanOf_25 rfl rfl ?_
        refine re_iload X dX1_meanOf_26 rfl ?_
        refine re_iload_n X dX1_meanOf_28 rfl rfl ?_
        refine re_callVi X (lk_X1_scaled l w x4 u1 ho) (ca_X1_scaled (by decide) (by decide)) ml_RX1_37 im_X1_scaled se_X1_scaled cl_1 ho rfl rfl rfl (zle rfl) zRo dX1_meanOf_29 (fun r3 M4 hr3 => ?_)
        refine re_iadd X dX1_meanOf_32 ?_
        refine re_istore_n (lv' := [some (.ref (zA w 64)), some (.int u1), some (.int (x2 + r3)), some (.int x3), some (.int x4)]) X dX1_meanOf_33 rfl (zlt rfl) rfl ?_
        refine re_iinc (v := 1) (lv' := [some (.ref (zA w 64)), some (.int u1), some (.int (x2 + r3)), some (.int (x3 + 1)), some (.int x4)]) X dX1_meanOf_34 rfl (by decide) rfl ?_
        refine re_iinc (v := 1) (lv' := [some (.ref (zA w 64)), some (.int u1), some (.int (x2 + r3)), some (.int (x3 + 1)), some (.int (x4 + 1))]) X dX1_meanOf_37 rfl (by decide) rfl ?_
        refine re_goto (tgt := 7) X dX1_meanOf_40 (by decide) ?_
        exact ih (x2 + r3) (x3 + 1) (x4 + 1) M4

set_option maxRecDepth 100000 in
theorem lk_X1_meanOf (l : Launch) (w : zWD) (u1 : Int32) (ho : zKd w 64 = (1, 4)) : zMt l w yX1_meanOf cX1_meanOf 5 (some .int) rm_X1_meanOf 1 [.ref (zA w 64), .int u1] (fun M => f_X1_meanOf u1 M) := by
  refine zMt.of (by decide) [some (.ref (zA w 64)), some (.int u1), none, none, none] rfl (zle rfl) (by intro v hv; simp only [List.mem_cons, List.not_mem_nil, or_false] at hv; rcases hv with rfl | rfl <;> rfl) ?_
  intro p e s m args below meth c X M
  unfold f_X1_meanOf
  refine re_iconst (v := 0) X dX1_meanOf_0 (by decide) ?_
  refine re_istore_n (lv' := [some (.ref (zA w 64)), some (.int u1), some (.int 0), none, none]) X dX1_meanOf_1 rfl (zlt rfl) rfl ?_
  refine re_iconst (v := 0) X dX1_meanOf_2 (by decide) ?_
  refine re_istore_n (lv' := [some (.ref (zA w 64)), some (.int u1), some (.int 0), some (.int 0), none]) X dX1_meanOf_3 rfl (zlt rfl) rfl ?_
  refine re_iconst (v := 0) X dX1_meanOf_4 (by decide) ?_
  refine re_istore (lv' := [some (.ref (zA w 64)), some (.int u1), some (.int 0), some (.int 0), some (.int 0)]) X dX1_meanOf_5 (zlt rfl) rfl ?_
  exact lb_X1_meanOf_7 X ho zFu 0 0 0 M
theorem ca_X1_meanOf {R : Room} (h1 : rm_X1_meanOf.frames + 1 ≤ R.frames) (h2 : 8 + (5 + 11) + rm_X1_meanOf.locals ≤ R.locals) : zCa yX1_meanOf cX1_meanOf 5 (some .int) rm_X1_meanOf R 1 := ⟨cd_X1_meanOf, iz_RX1, ⟨by decide, by decide, by decide⟩, rfl, rfl, h1, h2⟩
/-! DebateHouse$Jury.countAheadOf -/
abbrev rm_X1_countAheadOf : Room := { frames := 0, cells := 0, slots := 0, locals := 0 }
def f_X1_countAheadOf_L4 (u1 : Int32)  : Nat → Int32 → Int32 → zMem → zTr
  | 0, _, _, _ => none
  | n + 1, x2, x3, M => if 24 ≤ x3 then some (x2, M) else zCk (zIn x3 24) (zCk (zIn u1 24) (if (M 73 (zIx u1)) < (M 73 (zIx x3)) then f_X1_countAheadOf_L4 u1 n (x2 + 1) (x3 + 1) M else zCk (zIn x3 24) (zCk (zIn u1 24) (if (M 73 (zIx x3)) = (M 73 (zIx u1)) then (if u1 ≤ x3 then f_X1_countAheadOf_L4 u1 n x2 (x3 + 1) M else f_X1_countAheadOf_L4 u1 n (x2 + 1) (x3 + 1) M) else f_X1_countAheadOf_L4 u1 n x2 (x3 + 1) M))))
def f_X1_countAheadOf (u1 : Int32) (M : zMem) : zTr := f_X1_countAheadOf_L4 u1 zFu 0 0 M
set_option maxRecDepth 100000 in
theorem lb_X1_countAheadOf_4 {p : Program} {l : Launch} {e : Env} {s : State} {m : MethodId} {args : Array Value} {below : List Frame} {meth : Method} {c : Code} {w : zWD} {u1 : Int32} (X : zCx p s m args meth c w (zFree w) RX1 cX1_countAheadOf 4 (some .int)) (ho : zKd w 64 = (1, 4)) : ∀ (n : Nat) (x2 : Int32) (x3 : Int32) (M : zMem), zRm p l e rm_X1_countAheadOf s m args below meth c w 1 4 [some (.ref (zA w 64)), some (.int u1), some (.int x2), some (.int x3)] [] M (f_X1_countAheadOf_L4 u1 n x2 x3 M) := by
  intro n
  induction n with
  | zero => intro x2 x3 M; exact re_none
  | succ n ih =>
    intro x2 x3 M
    rw [f_X1_countAheadOf_L4]
    refine re_iload_n X dX1_countAheadOf_4 rfl rfl ?_
    refine re_bipush (v := 24) X dX1_countAheadOf_5 (by decide) ?_
    refine re_icmp_ge (tgt := 54) X dX1_countAheadOf_7 (by decide) (fun _ => ?_) (fun _ => ?_)
    · refine re_iload_n X dX1_countAheadOf_54 rfl rfl ?_
      exact re_iret X dX1_countAheadOf_55
    · refine re_aload_n X dX1_countAheadOf_10 rfl rfl ?_
      refine re_getR X cl_1 (by decide) fl_RX1_20 ho rfl (zR_1_3 ho) dX1_countAheadOf_11 ?_
      refine re_iload_n X dX1_countAheadOf_14 rfl rfl ?_
      refine re_ck (fun hi1 => ?_)
      refine re_iald X (zQ_1_3 X.clo ho) hi1 (j := zIx x3) rfl dX1_countAheadOf_15 ?_
      refine re_aload_n X dX1_countAheadOf_16 rfl rfl ?_
      refine re_getR X cl_1 (by decide) fl_RX1_20 ho rfl (zR_1_3 ho) dX1_countAheadOf_17 ?_
      refine re_iload_n X dX1_countAheadOf_20 rfl rfl ?_
      refine re_ck (fun hi2 => ?_)
      refine re_iald X (zQ_1_3 X.clo ho) hi2 (j := zIx u1) rfl dX1_countAheadOf_21 ?_
      refine re_icmp_gt (tgt := 45) X dX1_countAheadOf_22 (by decide) (fun _ => ?_) (fun _ => ?_)
      · refine re_iinc (v := 1) (lv' := [some (.ref (zA w 64)), some (.int u1), some (.int (x2 + 1)), some (.int x3)]) X dX1_countAheadOf_45 rfl (by decide) rfl ?_
        refine re_iinc (v := 1) (lv' := [some (.ref (zA w 64)), some (.int u1), some (.int (x2 + 1)), some (.int (x3 + 1))]) X dX1_countAheadOf_48 rfl (by decide) rfl ?_
        refine re_goto (tgt := 4) X dX1_countAheadOf_51 (by decide) ?_
        exact ih (x2 + 1) (x3 + 1) M
      · refine re_aload_n X dX1_countAheadOf_25 rfl rfl ?_
        refine re_getR X cl_1 (by decide) fl_RX1_20 ho rfl (zR_1_3 ho) dX1_countAheadOf_26 ?_
        refine re_iload_n X dX1_countAheadOf_29 rfl rfl ?_
        refine re_ck (fun hi3 => ?_)
        refine re_iald X (zQ_1_3 X.clo ho) hi3 (j := zIx x3) rfl dX1_countAheadOf_30 ?_
        refine re_aload_n X dX1_countAheadOf_31 rfl rfl ?_
        refine re_getR X cl_1 (by decide) fl_RX1_20 ho rfl (zR_1_3 ho) dX1_countAheadOf_32 ?_
        refine re_iload_n X dX1_countAheadOf_35 rfl rfl ?_
        refine re_ck (fun hi4 => ?_)
        refine re_iald X (zQ_1_3 X.clo ho) hi4 (j := zIx u1) rfl dX1_countAheadOf_36 ?_
        refine re_icmp_ne (tgt := 48) X dX1_countAheadOf_37 (by decide) (fun _ => ?_) (fun _ => ?_)
        · refine re_iload_n X dX1_countAheadOf_40 rfl rfl ?_
          refine re_iload_n X dX1_countAheadOf_41 rfl rfl ?_
          refine re_icmp_ge (tgt := 48) X dX1_countAheadOf_42 (by decide) (fun _ => ?_) (fun _ => ?_)
          · refine re_iinc (v := 1) (lv' := [some (.ref (zA w 64)), some (.int u1), some (.int x2), some (.int (x3 + 1))]) X dX1_countAheadOf_48 rfl (by decide) rfl ?_
            refine re_goto (tgt := 4) X dX1_countAheadOf_51 (by decide) ?_
            exact ih x2 (x3 + 1) M
          · refine re_iinc (v := 1) (lv' := [some (.ref (zA w 64)), some (.int u1), some (.int (x2 + 1)), some (.int x3)]) X dX1_countAheadOf_45 rfl (by decide) rfl ?_
            refine re_iinc (v := 1) (lv' := [some (.ref (zA w 64)), some (.int u1), some (.int (x2 + 1)), some (.int (x3 + 1))]) X dX1_countAheadOf_48 rfl (by decide) rfl ?_
            refine re_goto (tgt := 4) X dX1_countAheadOf_51 (by decide) ?_
            exact ih (x2 + 1) (x3 + 1) M
        · refine re_iinc (v := 1) (lv' := [some (.ref (zA w 64)), some (.int u1), some (.int x2), some (.int (x3 + 1))]) X dX1_countAheadOf_48 rfl (by decide) rfl ?_
          refine re_goto (tgt := 4) X dX1_countAheadOf_51 (by decide) ?_
          exact ih x2 (x3 + 1) M

set_option maxRecDepth 100000 in
theorem lk_X1_countAheadOf (l : Launch) (w : zWD) (u1 : Int32) (ho : zKd w 64 = (1, 4)) : zMt l w yX1_countAheadOf cX1_countAheadOf 4 (some .int) rm_X1_countAheadOf 1 [.ref (zA w 64), .int u1] (fun M => f_X1_countAheadOf u1 M) := by
  refine zMt.of (by decide) [some (.ref (zA w 64)), some (.int u1), none, none] rfl (zle rfl) (by intro v hv; simp only [List.mem_cons, List.not_mem_nil, or_false] at hv; rcases hv with rfl | rfl <;> rfl) ?_
  intro p e s m args below meth c X M
  unfold f_X1_countAheadOf
  refine re_iconst (v := 0) X dX1_countAheadOf_0 (by decide) ?_
  refine re_istore_n (lv' := [some (.ref (zA w 64)), some (.int u1), some (.int 0), none]) X dX1_countAheadOf_1 rfl (zlt rfl) rfl ?_
  refine re_iconst (v := 0) X dX1_countAheadOf_2 (by decide) ?_
  refine re_istore_n (lv' := [some (.ref (zA w 64)), some (.int u1), some (.int 0), some (.int 0)]) X dX1_countAheadOf_3 rfl (zlt rfl) rfl ?_
  exact lb_X1_countAheadOf_4 X ho zFu 0 0 M
theorem ca_X1_countAheadOf {R : Room} (h1 : rm_X1_countAheadOf.frames + 1 ≤ R.frames) (h2 : 8 + (4 + 11) + rm_X1_countAheadOf.locals ≤ R.locals) : zCa yX1_countAheadOf cX1_countAheadOf 4 (some .int) rm_X1_countAheadOf R 1 := ⟨cd_X1_countAheadOf, iz_RX1, ⟨by decide, by decide, by decide⟩, rfl, rfl, h1, h2⟩
/-! DebateHouse$Jury.memberAt -/
abbrev rm_X1_memberAt : Room := { frames := 4, cells := 0, slots := 0, locals := 91 }
def f_X1_memberAt_L27 (u1 : Int32)  : Nat → Int32 → zMem → zTr
  | 0, _, _ => none
  | n + 1, x2, M => if 24 ≤ x2 then some (-1, M) else zCk (zIn x2 24) (if (M 73 (zIx x2)) = (-1) then f_X1_memberAt_L27 u1 n (x2 + 1) M else zBd (f_X1_countAheadOf x2 M) (fun r2 M3 => if r2 = u1 then some (x2, M3) else f_X1_memberAt_L27 u1 n (x2 + 1) M3))
def f_X1_memberAt_L2 (u1 : Int32)  : Nat → Int32 → zMem → zTr
  | 0, _, _ => none
  | n + 1, x2, M => if 24 ≤ x2 then f_X1_memberAt_L27 u1 zFu 0 M else zBd (f_X1_meanOf x2 M) (fun r4 M5 => zCk (zIn x2 24) (zLt (zUp M5 73 (zIx x2) r4) (fun M6 => f_X1_memberAt_L2 u1 n (x2 + 1) M6)))
def f_X1_memberAt (u1 : Int32) (M : zMem) : zTr := f_X1_memberAt_L2 u1 zFu 0 M
set_option maxRecDepth 100000 in
theorem lb_X1_memberAt_27 {p : Program} {l : Launch} {e : Env} {s : State} {m : MethodId} {args : Array Value} {below : List Frame} {meth : Method} {c : Code} {w : zWD} {u1 : Int32} (X : zCx p s m args meth c w (zFree w) RX1 cX1_memberAt 3 (some .int)) (ho : zKd w 64 = (1, 4)) : ∀ (n : Nat) (x2 : Int32) (M : zMem), zRm p l e rm_X1_memberAt s m args below meth c w 1 27 [some (.ref (zA w 64)), some (.int u1), some (.int x2)] [] M (f_X1_memberAt_L27 u1 n x2 M) := by
  intro n
  induction n with
  | zero => intro x2 M; exact re_none
  | succ n ih =>
    intro x2 M
    rw [f_X1_memberAt_L27]
    refine re_iload_n X dX1_memberAt_27 rfl rfl ?_
    refine re_bipush (v := 24) X dX1_memberAt_28 (by decide) ?_
    refine re_icmp_ge (tgt := 60) X dX1_memberAt_30 (by decide) (fun _ => ?_) (fun _ => ?_)
    · refine re_iconst (v := -1) X dX1_memberAt_60 (by decide) ?_
      exact re_iret X dX1_memberAt_61
    · refine re_aload_n X dX1_memberAt_33 rfl rfl ?_
      refine re_getR X cl_1 (by decide) fl_RX1_20 ho rfl (zR_1_3 ho) dX1_memberAt_34 ?_
      refine re_iload_n X dX1_memberAt_37 rfl rfl ?_
      refine re_ck (fun hi1 => ?_)
      refine re_iald X (zQ_1_3 X.clo ho) hi1 (j := zIx x2) rfl dX1_memberAt_38 ?_
      refine re_iconst (v := -1) X dX1_memberAt_39 (by decide) ?_
      refine re_icmp_eq (tgt := 54) X dX1_memberAt_40 (by decide) (fun _ => ?_) (fun _ => ?_)
      · refine re_iinc (v := 1) (lv' := [some (.ref (zA w 64)), some (.int u1), some (.int (x2 + 1))]) X dX1_memberAt_54 rfl (by decide) rfl ?_
        refine re_goto (tgt := 27) X dX1_memberAt_57 (by decide) ?_
        exact ih (x2 + 1) M
      · refine re_aload_n X dX1_memberAt_43 rfl rfl ?_
        refine re_iload_n X dX1_memberAt_44 rfl rfl ?_
        refine re_callVi X (lk_X1_countAheadOf l w x2 ho) (ca_X1_countAheadOf (by decide) (by decide)) ml_RX1_45 im_X1_countAheadOf se_X1_countAheadOf cl_1 ho rfl rfl rfl (zle rfl) zRo dX1_memberAt_45 (fun r2 M3 hr2 => ?_)
        refine re_iload_n X dX1_memberAt_48 rfl rfl ?_
        refine re_icmp_ne (tgt := 54) X dX1_memberAt_49 (by decide) (fun _ => ?_) (fun _ => ?_)
        · refine re_iload_n X dX1_memberAt_52 rfl rfl ?_
          exact re_iret X dX1_memberAt_53
        · refine re_iinc (v := 1) (lv' := [some (.ref (zA w 64)), some (.int u1), some (.int (x2 + 1))]) X dX1_memberAt_54 rfl (by decide) rfl ?_
          refine re_goto (tgt := 27) X dX1_memberAt_57 (by decide) ?_
          exact ih (x2 + 1) M3

set_option maxRecDepth 100000 in
theorem lb_X1_memberAt_2 {p : Program} {l : Launch} {e : Env} {s : State} {m : MethodId} {args : Array Value} {below : List Frame} {meth : Method} {c : Code} {w : zWD} {u1 : Int32} (X : zCx p s m args meth c w (zFree w) RX1 cX1_memberAt 3 (some .int)) (ho : zKd w 64 = (1, 4)) : ∀ (n : Nat) (x2 : Int32) (M : zMem), zRm p l e rm_X1_memberAt s m args below meth c w 1 2 [some (.ref (zA w 64)), some (.int u1), some (.int x2)] [] M (f_X1_memberAt_L2 u1 n x2 M) := by
  intro n
  induction n with
  | zero => intro x2 M; exact re_none
  | succ n ih =>
    intro x2 M
    rw [f_X1_memberAt_L2]
    refine re_iload_n X dX1_memberAt_2 rfl rfl ?_
    refine re_bipush (v := 24) X dX1_memberAt_3 (by decide) ?_
    refine re_icmp_ge (tgt := 25) X dX1_memberAt_5 (by decide) (fun _ => ?_) (fun _ => ?_)
    · refine re_iconst (v := 0) X dX1_memberAt_25 (by decide) ?_
      refine re_istore_n (lv' := [some (.ref (zA w 64)), some (.int u1), some (.int 0)]) X dX1_memberAt_26 rfl (zlt rfl) rfl ?_
      exact lb_X1_memberAt_27 X ho zFu 0 M
    · refine re_aload_n X dX1_memberAt_8 rfl rfl ?_
      refine re_getR X cl_1 (by decide) fl_RX1_20 ho rfl (zR_1_3 ho) dX1_memberAt_9 ?_
      refine re_iload_n X dX1_memberAt_12 rfl rfl ?_
      refine re_aload_n X dX1_memberAt_13 rfl rfl ?_
      refine re_iload_n X dX1_memberAt_14 rfl rfl ?_
      refine re_callVi X (lk_X1_meanOf l w x2 ho) (ca_X1_meanOf (by decide) (by decide)) ml_RX1_41 im_X1_meanOf se_X1_meanOf cl_1 ho rfl rfl rfl (zle rfl) zRo dX1_memberAt_15 (fun r4 M5 hr4 => ?_)
      refine re_ck (fun hi7 => ?_)
      refine re_iast X (zQ_1_3 X.clo ho) hi7 (j := zIx x2) rfl dX1_memberAt_18 (fun M6 => ?_)
      refine re_iinc (v := 1) (lv' := [some (.ref (zA w 64)), some (.int u1), some (.int (x2 + 1))]) X dX1_memberAt_19 rfl (by decide) rfl ?_
      refine re_goto (tgt := 2) X dX1_memberAt_22 (by decide) ?_
      exact ih (x2 + 1) M6

set_option maxRecDepth 100000 in
theorem lk_X1_memberAt (l : Launch) (w : zWD) (u1 : Int32) (ho : zKd w 64 = (1, 4)) : zMt l w yX1_memberAt cX1_memberAt 3 (some .int) rm_X1_memberAt 1 [.ref (zA w 64), .int u1] (fun M => f_X1_memberAt u1 M) := by
  refine zMt.of (by decide) [some (.ref (zA w 64)), some (.int u1), none] rfl (zle rfl) (by intro v hv; simp only [List.mem_cons, List.not_mem_nil, or_false] at hv; rcases hv with rfl | rfl <;> rfl) ?_
  intro p e s m args below meth c X M
  unfold f_X1_memberAt
  refine re_iconst (v := 0) X dX1_memberAt_0 (by decide) ?_
  refine re_istore_n (lv' := [some (.ref (zA w 64)), some (.int u1), some (.int 0)]) X dX1_memberAt_1 rfl (zlt rfl) rfl ?_
  exact lb_X1_memberAt_2 X ho zFu 0 M
theorem ca_X1_memberAt {R : Room} (h1 : rm_X1_memberAt.frames + 1 ≤ R.frames) (h2 : 8 + (3 + 11) + rm_X1_memberAt.locals ≤ R.locals) : zCa yX1_memberAt cX1_memberAt 3 (some .int) rm_X1_memberAt R 1 := ⟨cd_X1_memberAt, iz_RX1, ⟨by decide, by decide, by decide⟩, rfl, rfl, h1, h2⟩
