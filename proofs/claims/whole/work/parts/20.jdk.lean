/-! java/lang/Integer.bitCount -/
abbrev rm_J6_bitCount_0f7a4 : Room := { frames := 0, cells := 0, slots := 0, locals := 0 }
def f_J6_bitCount_0f7a4 (u1 : Int32) (M : zMem) : zTr := some ((((((((u1 - ((zUsr u1 1) &&& 1431655765)) &&& 858993459) + ((zUsr (u1 - ((zUsr u1 1) &&& 1431655765)) 2) &&& 858993459)) + (zUsr (((u1 - ((zUsr u1 1) &&& 1431655765)) &&& 858993459) + ((zUsr (u1 - ((zUsr u1 1) &&& 1431655765)) 2) &&& 858993459)) 4)) &&& 252645135) + (zUsr (((((u1 - ((zUsr u1 1) &&& 1431655765)) &&& 858993459) + ((zUsr (u1 - ((zUsr u1 1) &&& 1431655765)) 2) &&& 858993459)) + (zUsr (((u1 - ((zUsr u1 1) &&& 1431655765)) &&& 858993459) + ((zUsr (u1 - ((zUsr u1 1) &&& 1431655765)) 2) &&& 858993459)) 4)) &&& 252645135) 8)) + (zUsr ((((((u1 - ((zUsr u1 1) &&& 1431655765)) &&& 858993459) + ((zUsr (u1 - ((zUsr u1 1) &&& 1431655765)) 2) &&& 858993459)) + (zUsr (((u1 - ((zUsr u1 1) &&& 1431655765)) &&& 858993459) + ((zUsr (u1 - ((zUsr u1 1) &&& 1431655765)) 2) &&& 858993459)) 4)) &&& 252645135) + (zUsr (((((u1 - ((zUsr u1 1) &&& 1431655765)) &&& 858993459) + ((zUsr (u1 - ((zUsr u1 1) &&& 1431655765)) 2) &&& 858993459)) + (zUsr (((u1 - ((zUsr u1 1) &&& 1431655765)) &&& 858993459) + ((zUsr (u1 - ((zUsr u1 1) &&& 1431655765)) 2) &&& 858993459)) 4)) &&& 252645135) 8)) 16)) &&& 63, M)
set_option maxRecDepth 100000 in
theorem lk_J6_bitCount_0f7a4 (l : Launch) (w : zWD) (u1 : Int32)  : zMt l w yJ6_bitCount_0f7a4 cJ6_bitCount_0f7a4 1 (some .int) rm_J6_bitCount_0f7a4 1 [.int u1] (fun M => f_J6_bitCount_0f7a4 u1 M) := by
  refine zMt.of (by decide) [some (.int u1)] rfl (zle rfl) (by intro v hv; simp only [List.mem_cons, List.not_mem_nil, or_false] at hv; rcases hv with rfl <;> rfl) ?_
  intro p e s m args below meth c X M
  unfold f_J6_bitCount_0f7a4
  refine re_iload_n X dJ6_bitCount_0f7a4_0 rfl rfl ?_
  refine re_iload_n X dJ6_bitCount_0f7a4_1 rfl rfl ?_
  refine re_iconst (v := 1) X dJ6_bitCount_0f7a4_2 (by decide) ?_
  refine re_iushr X dJ6_bitCount_0f7a4_3 ?_
  refine re_ldcw (v := 1431655765) X co_RJ6_265 dJ6_bitCount_0f7a4_4 ?_
  refine re_iand X dJ6_bitCount_0f7a4_7 ?_
  refine re_isub X dJ6_bitCount_0f7a4_8 ?_
  refine re_istore_n (lv' := [some (.int (u1 - ((zUsr u1 1) &&& 1431655765)))]) X dJ6_bitCount_0f7a4_9 rfl (zlt rfl) rfl ?_
  refine re_iload_n X dJ6_bitCount_0f7a4_10 rfl rfl ?_
  refine re_ldcw (v := 858993459) X co_RJ6_266 dJ6_bitCount_0f7a4_11 ?_
  refine re_iand X dJ6_bitCount_0f7a4_14 ?_
  refine re_iload_n X dJ6_bitCount_0f7a4_15 rfl rfl ?_
  refine re_iconst (v := 2) X dJ6_bitCount_0f7a4_16 (by decide) ?_
  refine re_iushr X dJ6_bitCount_0f7a4_17 ?_
  refine re_ldcw (v := 858993459) X co_RJ6_266 dJ6_bitCount_0f7a4_18 ?_
  refine re_iand X dJ6_bitCount_0f7a4_21 ?_
  refine re_iadd X dJ6_bitCount_0f7a4_22 ?_
  refine re_istore_n (lv' := [some (.int (((u1 - ((zUsr u1 1) &&& 1431655765)) &&& 858993459) + ((zUsr (u1 - ((zUsr u1 1) &&& 1431655765)) 2) &&& 858993459)))]) X dJ6_bitCount_0f7a4_23 rfl (zlt rfl) rfl ?_
  refine re_iload_n X dJ6_bitCount_0f7a4_24 rfl rfl ?_
  refine re_iload_n X dJ6_bitCount_0f7a4_25 rfl rfl ?_
  refine re_iconst (v := 4) X dJ6_bitCount_0f7a4_26 (by decide) ?_
  refine re_iushr X dJ6_bitCount_0f7a4_27 ?_
  refine re_iadd X dJ6_bitCount_0f7a4_28 ?_
  refine re_ldcw (v := 252645135) X co_RJ6_267 dJ6_bitCount_0f7a4_29 ?_
  refine re_iand X dJ6_bitCount_0f7a4_32 ?_
  refine re_istore_n (lv' := [some (.int (((((u1 - ((zUsr u1 1) &&& 1431655765)) &&& 858993459) + ((zUsr (u1 - ((zUsr u1 1) &&& 1431655765)) 2) &&& 858993459)) + (zUsr (((u1 - ((zUsr u1 1) &&& 1431655765)) &&& 858993459) + ((zUsr (u1 - ((zUsr u1 1) &&& 1431655765)) 2) &&& 858993459)) 4)) &&& 252645135))]) X dJ6_bitCount_0f7a4_33 rfl (zlt rfl) rfl ?_
  refine re_iload_n X dJ6_bitCount_0f7a4_34 rfl rfl ?_
  refine re_iload_n X dJ6_bitCount_0f7a4_35 rfl rfl ?_
  refine re_bipush (v := 8) X dJ6_bitCount_0f7a4_36 (by decide) ?_
  refine re_iushr X dJ6_bitCount_0f7a4_38 ?_
  refine re_iadd X dJ6_bitCount_0f7a4_39 ?_
  refine re_istore_n (lv' := [some (.int ((((((u1 - ((zUsr u1 1) &&& 1431655765)) &&& 858993459) + ((zUsr (u1 - ((zUsr u1 1) &&& 1431655765)) 2) &&& 858993459)) + (zUsr (((u1 - ((zUsr u1 1) &&& 1431655765)) &&& 858993459) + ((zUsr (u1 - ((zUsr u1 1) &&& 1431655765)) 2) &&& 858993459)) 4)) &&& 252645135) + (zUsr (((((u1 - ((zUsr u1 1) &&& 1431655765)) &&& 858993459) + ((zUsr (u1 - ((zUsr u1 1) &&& 1431655765)) 2) &&& 858993459)) + (zUsr (((u1 - ((zUsr u1 1) &&& 1431655765)) &&& 858993459) + ((zUsr (u1 - ((zUsr u1 1) &&& 1431655765)) 2) &&& 858993459)) 4)) &&& 252645135) 8)))]) X dJ6_bitCount_0f7a4_40 rfl (zlt rfl) rfl ?_
  refine re_iload_n X dJ6_bitCount_0f7a4_41 rfl rfl ?_
  refine re_iload_n X dJ6_bitCount_0f7a4_42 rfl rfl ?_
  refine re_bipush (v := 16) X dJ6_bitCount_0f7a4_43 (by decide) ?_
  refine re_iushr X dJ6_bitCount_0f7a4_45 ?_
  refine re_iadd X dJ6_bitCount_0f7a4_46 ?_
  refine re_istore_n (lv' := [some (.int (((((((u1 - ((zUsr u1 1) &&& 1431655765)) &&& 858993459) + ((zUsr (u1 - ((zUsr u1 1) &&& 1431655765)) 2) &&& 858993459)) + (zUsr (((u1 - ((zUsr u1 1) &&& 1431655765)) &&& 858993459) + ((zUsr (u1 - ((zUsr u1 1) &&& 1431655765)) 2) &&& 858993459)) 4)) &&& 252645135) + (zUsr (((((u1 - ((zUsr u1 1) &&& 1431655765)) &&& 858993459) + ((zUsr (u1 - ((zUsr u1 1) &&& 1431655765)) 2) &&& 858993459)) + (zUsr (((u1 - ((zUsr u1 1) &&& 1431655765)) &&& 858993459) + ((zUsr (u1 - ((zUsr u1 1) &&& 1431655765)) 2) &&& 858993459)) 4)) &&& 252645135) 8)) + (zUsr ((((((u1 - ((zUsr u1 1) &&& 1431655765)) &&& 858993459) + ((zUsr (u1 - ((zUsr u1 1) &&& 1431655765)) 2) &&& 858993459)) + (zUsr (((u1 - ((zUsr u1 1) &&& 1431655765)) &&& 858993459) + ((zUsr (u1 - ((zUsr u1 1) &&& 1431655765)) 2) &&& 858993459)) 4)) &&& 252645135) + (zUsr (((((u1 - ((zUsr u1 1) &&& 1431655765)) &&& 858993459) + ((zUsr (u1 - ((zUsr u1 1) &&& 1431655765)) 2) &&& 858993459)) + (zUsr (((u1 - ((zUsr u1 1) &&& 1431655765)) &&& 858993459) + ((zUsr (u1 - ((zUsr u1 1) &&& 1431655765)) 2) &&& 858993459)) 4)) &&& 252645135) 8)) 16)))]) X dJ6_bitCount_0f7a4_47 rfl (zlt rfl) rfl ?_
  refine re_iload_n X dJ6_bitCount_0f7a4_48 rfl rfl ?_
  refine re_bipush (v := 63) X dJ6_bitCount_0f7a4_49 (by decide) ?_
  refine re_iand X dJ6_bitCount_0f7a4_51 ?_
  exact re_iret X dJ6_bitCount_0f7a4_52
theorem ca_J6_bitCount_0f7a4 {R : Room} (h1 : rm_J6_bitCount_0f7a4.frames + 1 ≤ R.frames) (h2 : 8 + (1 + 11) + rm_J6_bitCount_0f7a4.locals ≤ R.locals) : zCa yJ6_bitCount_0f7a4 cJ6_bitCount_0f7a4 1 (some .int) rm_J6_bitCount_0f7a4 R 1 := ⟨cd_J6_bitCount_0f7a4, iz_RJ6, ⟨by decide, by decide, by decide⟩, rfl, rfl, h1, h2⟩
