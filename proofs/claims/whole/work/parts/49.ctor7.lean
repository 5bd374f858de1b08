set_option maxRecDepth 100000 in
theorem kc_0 (l : Launch) (B : zBs) (M : zMem) (hz : ∀ c, c ∉ [] → ∀ i, M c i = 0) {r3 : Int32} {M3 : zMem} (hf3 : f_X6_clear 3 M = some (r3, M3)) (hy3 : ∀ c, c ∉ [3, 7, 6, 5, 4, 1, 2] → ∀ i, M3 c i = 0) {r8 : Int32} {M8 : zMem} (hf8 : f_X6_clear 8 M3 = some (r8, M8)) (hy8 : ∀ c, c ∉ [8, 12, 11, 10, 9, 3, 7, 6, 5, 4, 1, 2] → ∀ i, M8 c i = 0) {r21 : Int32} {M21 : zMem} (hf21 : f_X7_startAnew 21 (zUp M8 22 5 (-1)) = some (r21, M21)) (hy21 : ∀ c, c ∉ [21, 33, 36, 35, 34, 25, 32, 31, 30, 29, 28, 27, 26, 22, 24, 23, 40, 39, 38, 37, 15, 20, 19, 18, 17, 16, 14, 13, 8, 12, 11, 10, 9, 3, 7, 6, 5, 4, 1, 2] → ∀ i, M21 c i = 0) {r41 : Int32} {M41 : zMem} (hf41 : f_X7_startAnew 41 (zUp M21 42 5 (-1)) = some (r41, M41)) (hy41 : ∀ c, c ∉ [41, 53, 56, 55, 54, 45, 52, 51, 50, 49, 48, 47, 46, 42, 44, 43, 60, 59, 58, 57, 21, 33, 36, 35, 34, 25, 32, 31, 30, 29, 28, 27, 26, 22, 24, 23, 40, 39, 38, 37, 15, 20, 19, 18, 17, 16, 14, 13, 8, 12, 11, 10, 9, 3, 7, 6, 5, 4, 1, 2] → ∀ i, M41 c i = 0) {r64 : Int32} {M64 : zMem} (hf64 : f_X1_init (zUp M41 61 5 (-1)) = some (r64, M64)) (hy64 : ∀ c, c ∉ [64, 73, 66, 67, 68, 69, 70, 71, 72, 65, 61, 63, 62, 41, 53, 56, 55, 54, 45, 52, 51, 50, 49, 48, 47, 46, 42, 44, 43, 60, 59, 58, 57, 21, 33, 36, 35, 34, 25, 32, 31, 30, 29, 28, 27, 26, 22, 24, 23, 40, 39, 38, 37, 15, 20, 19, 18, 17, 16, 14, 13, 8, 12, 11, 10, 9, 3, 7, 6, 5, 4, 1, 2] → ∀ i, M64 c i = 0) : zKc l yX9_init cX9_init 1 { frames := 4, cells := 73, slots := 7063, locals := 84 } 73 7063 B 9 [.null, .null, .null, .null, .null, .null, .null, .null, .null, .null] [] [0, 64, 73, 66, 67, 68, 69, 70, 71, 72, 65, 61, 63, 62, 41, 53, 56, 55, 54, 45, 52, 51, 50, 49, 48, 47, 46, 42, 44, 43, 60, 59, 58, 57, 21, 33, 36, 35, 34, 25, 32, 31, 30, 29, 28, 27, 26, 22, 24, 23, 40, 39, 38, 37, 15, 20, 19, 18, 17, 16, 14, 13, 8, 12, 11, 10, 9, 3, 7, 6, 5, 4, 1, 2] 0 (fun _ => []) M M64 := by
  refine zKc.of (by decide) (fun ad a => [some (.ref a)]) (fun ad a => rfl) (fun ad a => zle rfl) (fun ad a v hv => by simp only [List.mem_cons, List.not_mem_nil, or_false] at hv; rcases hv with rfl <;> rfl) ?_
  intro p e s m args below meth c ad a Y hin
  refine rx_aload_n Y dX9_init_0 rfl rfl ?_
  refine rx_obj Y ol_RX9 im_obj cd_obj rfl (by decide) (zle rfl) dX9_init_1 ?_
  refine rx_aload_n Y dX9_init_4 rfl rfl ?_
  refine rx_new Y cl_8 kl_RX9_9 ib_RX8 iz_RX8 (by decide +kernel) [.null, .int 0] (by decide +kernel) (by decide) (by decide) dX9_init_5 (fun q1 => ?_)
  refine rx_dup Y dX9_init_8 rfl ?_
  have hz3 : ∀ c, c ∉ [] → ∀ i, M c i = 0 := zhz (by decide) hz
  refine rx_ctorNA (n := 0) (e0 := [(a, .inr (9, [.null, .null, .null, .null, .null, .null, .null, .null, .null, .null]))]) (As := []) Y (kc_1 l B M hz3) rfl cd_X8_init iz_RX8 ⟨by decide, by decide, by decide⟩ zN_0 im_X8_init rfl ⟨rfl, rfl⟩ ⟨by decide, by decide⟩ rfl rfl rfl (zle rfl) ⟨by decide, by decide⟩ dX9_init_9 (fun ad2 k2 e2 => ?_)
  have hz4 : ∀ c, c ∉ [1, 2] → ∀ i, M c i = 0 := zhz (by decide) hz3
  refine rx_putF (tl := []) (k := 0) (fs' := [.ref q1, .null, .null, .null, .null, .null, .null, .null, .null, .null]) Y cl_9 (by decide) fl_RX9_12 rfl hin rfl rfl rfl (zlt rfl) rfl dX9_init_12 ?_
  refine rx_aload_n Y dX9_init_15 rfl rfl ?_
  refine rx_new Y cl_6 kl_RX9_16 ib_RX6 iz_RX6 (by decide +kernel) [.null, .null, .null, .null, .int 0, .int 0, .int 0, .int 0] (by decide +kernel) (by decide) (by decide) dX9_init_16 (fun q5 => ?_)
  refine rx_dup Y dX9_init_19 rfl ?_
  have hz7 : ∀ c, c ∉ [1, 2] → ∀ i, M c i = 0 := zhz (by decide) hz4
  refine rx_ctorA (n := 0) (e0 := [(a, .inr (9, [.ref q1, .null, .null, .null, .null, .null, .null, .null, .null, .null]))]) (As := []) Y (kc_3 l B M hz7 hf3) rfl cd_X6_init iz_RX6 ⟨by decide, by decide, by decide⟩ ml_RX9_18 im_X6_init rfl ⟨rfl, rfl⟩ ⟨by decide, by decide⟩ rfl rfl rfl (zle rfl) ⟨by decide, by decide⟩ dX9_init_20 (fun ad6 k6 e6 => ?_)
  refine rx_putF (tl := []) (k := 1) (fs' := [.ref q1, .ref q5, .null, .null, .null, .null, .null, .null, .null, .null]) Y cl_9 (by decide) fl_RX9_19 rfl hin rfl rfl rfl (zlt rfl) rfl dX9_init_23 ?_
  refine rx_aload_n Y dX9_init_26 rfl rfl ?_
  refine rx_new Y cl_6 kl_RX9_16 ib_RX6 iz_RX6 (by decide +kernel) [.null, .null, .null, .null, .int 0, .int 0, .int 0, .int 0] (by decide +kernel) (by decide) (by decide) dX9_init_27 (fun q8 => ?_)
  refine rx_dup Y dX9_init_30 rfl ?_
  have hz10 : ∀ c, c ∉ [3, 7, 6, 5, 4, 1, 2] → ∀ i, M3 c i = 0 := zhz (by decide) hy3
  refine rx_ctorA (n := 0) (e0 := [(a, .inr (9, [.ref q1, .ref q5, .null, .null, .null, .null, .null, .null, .null, .null]))]) (As := []) Y (kc_8 l B M3 hz10 hf8) rfl cd_X6_init iz_RX6 ⟨by decide, by decide, by decide⟩ ml_RX9_18 im_X6_init rfl ⟨rfl, rfl⟩ ⟨by decide, by decide⟩ rfl rfl rfl (zle rfl) ⟨by decide, by decide⟩ dX9_init_31 (fun ad9 k9 e9 => ?_)
  refine rx_putF (tl := []) (k := 2) (fs' := [.ref q1, .ref q5, .ref q8, .null, .null, .null, .null, .null, .null, .null]) Y cl_9 (by decide) fl_RX9_23 rfl hin rfl rfl rfl (zlt rfl) rfl dX9_init_34 ?_
  refine rx_aload_n Y dX9_init_37 rfl rfl ?_
  refine rx_new Y cl_5 kl_RX9_26 ib_RX5 iz_RX5 (by decide +kernel) [.null, .null, .int 0, .int 0, .int 0] (by decide +kernel) (by decide) (by decide) dX9_init_38 (fun q11 => ?_)
  refine rx_dup Y dX9_init_41 rfl ?_
  refine rx_aload_n Y dX9_init_42 rfl rfl ?_
  refine rx_get (tl := [(q11, .inr (5, [.null, .null, .int 0, .int 0, .int 0]))]) Y cl_9 (by decide) fl_RX9_12 rfl dX9_init_43 ?_
  refine rx_aload_n Y dX9_init_46 rfl rfl ?_
  refine rx_get (tl := [(q11, .inr (5, [.null, .null, .int 0, .int 0, .int 0]))]) Y cl_9 (by decide) fl_RX9_23 rfl dX9_init_47 ?_
  have hz13 : ∀ c, c ∉ [8, 12, 11, 10, 9, 3, 7, 6, 5, 4, 1, 2] → ∀ i, M8 c i = 0 := zhz (by decide) hy8
  refine rx_ctorA (n := 2) (e0 := [(a, .inr (9, [.ref q1, .ref q5, .ref q8, .null, .null, .null, .null, .null, .null, .null]))]) (As := [.ref q1, .ref q8]) Y (kc_13 l B M8 hz13) (zv2 ((k9 1 (by decide)).trans ((k6 1 (by decide)).trans e2)) e9) cd_X5_init iz_RX5 ⟨by decide, by decide, by decide⟩ ml_RX9_28 im_X5_init rfl ⟨rfl, rfl⟩ ⟨by decide, by decide⟩ rfl rfl rfl (zle rfl) ⟨by decide, by decide⟩ dX9_init_50 (fun ad12 k12 e12 => ?_)
  have hz14 : ∀ c, c ∉ [13, 8, 12, 11, 10, 9, 3, 7, 6, 5, 4, 1, 2] → ∀ i, M8 c i = 0 := zhz (by decide) hz13
  refine rx_putF (tl := []) (k := 3) (fs' := [.ref q1, .ref q5, .ref q8, .ref q11, .null, .null, .null, .null, .null, .null]) Y cl_9 (by decide) fl_RX9_31 rfl hin rfl rfl rfl (zlt rfl) rfl dX9_init_53 ?_
  refine rx_aload_n Y dX9_init_56 rfl rfl ?_
  refine rx_bipush (v := 24) Y dX9_init_57 (by decide) ?_
  refine rx_newa (atype := .int) (ty := .int) (cn := 14) (n := 24) (t0 := 1) Y rfl ac_int (by decide +kernel) (by decide) rfl rfl zRA_i (by decide +kernel) (by decide) (hz14 14 (by decide)) (by decide) (by decide) (by decide) (by decide) (by decide) dX9_init_59 (fun q15 => ?_)
  refine rx_putF (tl := []) (k := 4) (fs' := [.ref q1, .ref q5, .ref q8, .ref q11, .ref q15, .null, .null, .null, .null, .null]) Y cl_9 (by decide) fl_RX9_35 rfl hin rfl rfl rfl (zlt rfl) rfl dX9_init_61 ?_
  refine rx_aload_n Y dX9_init_64 rfl rfl ?_
  refine rx_new Y cl_2 kl_RX9_39 ib_RX2 iz_RX2 (by decide +kernel) [.null, .null, .null, .null, .null, .int 0] (by decide +kernel) (by decide) (by decide) dX9_init_65 (fun q16 => ?_)
  refine rx_dup Y dX9_init_68 rfl ?_
  have hz18 : ∀ c, c ∉ [14, 13, 8, 12, 11, 10, 9, 3, 7, 6, 5, 4, 1, 2] → ∀ i, M8 c i = 0 := zhz (by decide) hz14
  refine rx_ctorNA (n := 0) (e0 := [(a, .inr (9, [.ref q1, .ref q5, .ref q8, .ref q11, .ref q15, .null, .null, .null, .null, .null]))]) (As := []) Y (kc_15 l B M8 hz18) rfl cd_X2_init iz_RX2 ⟨by decide, by decide, by decide⟩ zN_1 im_X2_init rfl ⟨rfl, rfl⟩ ⟨by decide, by decide⟩ rfl rfl rfl (zle rfl) ⟨by decide, by decide⟩ dX9_init_69 (fun ad17 k17 e17 => ?_)
  have hz19 : ∀ c, c ∉ [15, 20, 19, 18, 17, 16, 14, 13, 8, 12, 11, 10, 9, 3, 7, 6, 5, 4, 1, 2] → ∀ i, M8 c i = 0 := zhz (by decide) hz18
  refine rx_putF (tl := []) (k := 5) (fs' := [.ref q1, .ref q5, .ref q8, .ref q11, .ref q15, .ref q16, .null, .null, .null, .null]) Y cl_9 (by decide) fl_RX9_42 rfl hin rfl rfl rfl (zlt rfl) rfl dX9_init_72 ?_
  refine rx_aload_n Y dX9_init_75 rfl rfl ?_
  refine rx_new Y cl_7 kl_RX9_46 ib_RX7 iz_RX7 (by decide +kernel) [.null, .null, .null, .null, .null, .null, .null, .null, .null, .int 0, .int 0, .int 0, .int 0, .int 0, .int 0, .int 0] (by decide +kernel) (by decide) (by decide) dX9_init_76 (fun q20 => ?_)
  refine rx_dup Y dX9_init_79 rfl ?_
  refine rx_aload_n Y dX9_init_80 rfl rfl ?_
  refine rx_get (tl := [(q20, .inr (7, [.null, .null, .null, .null, .null, .null, .null, .null, .null, .int 0, .int 0, .int 0, .int 0, .int 0, .int 0, .int 0]))]) Y cl_9 (by decide) fl_RX9_19 rfl dX9_init_81 ?_
  refine rx_aload_n Y dX9_init_84 rfl rfl ?_
  refine rx_get (tl := [(q20, .inr (7, [.null, .null, .null, .null, .null, .null, .null, .null, .null, .int 0, .int 0, .int 0, .int 0, .int 0, .int 0, .int 0]))]) Y cl_9 (by decide) fl_RX9_35 rfl dX9_init_85 ?_
  refine rx_aload_n Y dX9_init_88 rfl rfl ?_
  refine rx_get (tl := [(q20, .inr (7, [.null, .null, .null, .null, .null, .null, .null, .null, .null, .int 0, .int 0, .int 0, .int 0, .int 0, .int 0, .int 0]))]) Y cl_9 (by decide) fl_RX9_42 rfl dX9_init_89 ?_
  have hz22 : ∀ c, c ∉ [15, 20, 19, 18, 17, 16, 14, 13, 8, 12, 11, 10, 9, 3, 7, 6, 5, 4, 1, 2] → ∀ i, M8 c i = 0 := zhz (by decide) hz19
  refine rx_ctorA (n := 3) (e0 := [(a, .inr (9, [.ref q1, .ref q5, .ref q8, .ref q11, .ref q15, .ref q16, .null, .null, .null, .null]))]) (As := [.ref q5, .ref q15, .ref q16]) Y (kc_21 l B M8 hz22 hf21) (zv3 ((k17 3 (by decide)).trans ((k12 3 (by decide)).trans ((k9 3 (by decide)).trans e6))) ((k17 14 (by decide)).trans rfl) e17) cd_X7_init iz_RX7 ⟨by decide, by decide, by decide⟩ ml_RX9_48 im_X7_init rfl ⟨rfl, rfl⟩ ⟨by decide, by decide⟩ rfl rfl rfl (zle rfl) ⟨by decide, by decide⟩ dX9_init_92 (fun ad21 k21 e21 => ?_)
  refine rx_putF (tl := []) (k := 6) (fs' := [.ref q1, .ref q5, .ref q8, .ref q11, .ref q15, .ref q16, .ref q20, .null, .null, .null]) Y cl_9 (by decide) fl_RX9_51 rfl hin rfl rfl rfl (zlt rfl) rfl dX9_init_95 ?_
  refine rx_aload_n Y dX9_init_98 rfl rfl ?_
  refine rx_new Y cl_7 kl_RX9_46 ib_RX7 iz_RX7 (by decide +kernel) [.null, .null, .null, .null, .null, .null, .null, .null, .null, .int 0, .int 0, .int 0, .int 0, .int 0, .int 0, .int 0] (by decide +kernel) (by decide) (by decide) dX9_init_99 (fun q23 => ?_)
  refine rx_dup Y dX9_init_102 rfl ?_
  refine rx_aload_n Y dX9_init_103 rfl rfl ?_
  refine rx_get (tl := [(q23, .inr (7, [.null, .null, .null, .null, .null, .null, .null, .null, .null, .int 0, .int 0, .int 0, .int 0, .int 0, .int 0, .int 0]))]) Y cl_9 (by decide) fl_RX9_19 rfl dX9_init_104 ?_
  refine rx_aload_n Y dX9_init_107 rfl rfl ?_
  refine rx_get (tl := [(q23, .inr (7, [.null, .null, .null, .null, .null, .null, .null, .null, .null, .int 0, .int 0, .int 0, .int 0, .int 0, .int 0, .int 0]))]) Y cl_9 (by decide) fl_RX9_35 rfl dX9_init_108 ?_
  refine rx_aload_n Y dX9_init_111 rfl rfl ?_
  refine rx_get (tl := [(q23, .inr (7, [.null, .null, .null, .null, .null, .null, .null, .null, .null, .int 0, .int 0, .int 0, .int 0, .int 0, .int 0, .int 0]))]) Y cl_9 (by decide) fl_RX9_42 rfl dX9_init_112 ?_
  have hz25 : ∀ c, c ∉ [21, 33, 36, 35, 34, 25, 32, 31, 30, 29, 28, 27, 26, 22, 24, 23, 40, 39, 38, 37, 15, 20, 19, 18, 17, 16, 14, 13, 8, 12, 11, 10, 9, 3, 7, 6, 5, 4, 1, 2] → ∀ i, M21 c i = 0 := zhz (by decide) hy21
  refine rx_ctorA (n := 3) (e0 := [(a, .inr (9, [.ref q1, .ref q5, .ref q8, .ref q11, .ref q15, .ref q16, .ref q20, .null, .null, .null]))]) (As := [.ref q5, .ref q15, .ref q16]) Y (kc_41 l B M21 hz25 hf41) (zv3 ((k21 3 (by decide)).trans ((k17 3 (by decide)).trans ((k12 3 (by decide)).trans ((k9 3 (by decide)).trans e6)))) ((k21 14 (by decide)).trans ((k17 14 (by decide)).trans rfl)) ((k21 15 (by decide)).trans e17)) cd_X7_init iz_RX7 ⟨by decide, by decide, by decide⟩ ml_RX9_48 im_X7_init rfl ⟨rfl, rfl⟩ ⟨by decide, by decide⟩ rfl rfl rfl (zle rfl) ⟨by decide, by decide⟩ dX9_init_115 (fun ad24 k24 e24 => ?_)
  refine rx_putF (tl := []) (k := 7) (fs' := [.ref q1, .ref q5, .ref q8, .ref q11, .ref q15, .ref q16, .ref q20, .ref q23, .null, .null]) Y cl_9 (by decide) fl_RX9_55 rfl hin rfl rfl rfl (zlt rfl) rfl dX9_init_118 ?_
  refine rx_aload_n Y dX9_init_121 rfl rfl ?_
  refine rx_new Y cl_0 kl_RX9_58 ib_RX0 iz_RX0 (by decide +kernel) [.null, .null, .null, .null, .int 0, .int 0, .int 0, .int 0] (by decide +kernel) (by decide) (by decide) dX9_init_122 (fun q26 => ?_)
  refine rx_dup Y dX9_init_125 rfl ?_
  refine rx_aload_n Y dX9_init_126 rfl rfl ?_
  refine rx_get (tl := [(q26, .inr (0, [.null, .null, .null, .null, .int 0, .int 0, .int 0, .int 0]))]) Y cl_9 (by decide) fl_RX9_19 rfl dX9_init_127 ?_
  refine rx_aload_n Y dX9_init_130 rfl rfl ?_
  refine rx_get (tl := [(q26, .inr (0, [.null, .null, .null, .null, .int 0, .int 0, .int 0, .int 0]))]) Y cl_9 (by decide) fl_RX9_35 rfl dX9_init_131 ?_
  have hz28 : ∀ c, c ∉ [41, 53, 56, 55, 54, 45, 52, 51, 50, 49, 48, 47, 46, 42, 44, 43, 60, 59, 58, 57, 21, 33, 36, 35, 34, 25, 32, 31, 30, 29, 28, 27, 26, 22, 24, 23, 40, 39, 38, 37, 15, 20, 19, 18, 17, 16, 14, 13, 8, 12, 11, 10, 9, 3, 7, 6, 5, 4, 1, 2] → ∀ i, M41 c i = 0 := zhz (by decide) hy41
  refine rx_ctorA (n := 2) (e0 := [(a, .inr (9, [.ref q1, .ref q5, .ref q8, .ref q11, .ref q15, .ref q16, .ref q20, .ref q23, .null, .null]))]) (As := [.ref q5, .ref q15]) Y (kc_61 l B M41 hz28) (zv2 ((k24 3 (by decide)).trans ((k21 3 (by decide)).trans ((k17 3 (by decide)).trans ((k12 3 (by decide)).trans ((k9 3 (by decide)).trans e6))))) ((k24 14 (by decide)).trans ((k21 14 (by decide)).trans ((k17 14 (by decide)).trans rfl)))) cd_X0_init iz_RX0 ⟨by decide, by decide, by decide⟩ ml_RX9_60 im_X0_init rfl ⟨rfl, rfl⟩ ⟨by decide, by decide⟩ rfl rfl rfl (zle rfl) ⟨by decide, by decide⟩ dX9_init_134 (fun ad27 k27 e27 => ?_)
  have hz29 : ∀ c, c ∉ [61, 63, 62, 41, 53, 56, 55, 54, 45, 52, 51, 50, 49, 48, 47, 46, 42, 44, 43, 60, 59, 58, 57, 21, 33, 36, 35, 34, 25, 32, 31, 30, 29, 28, 27, 26, 22, 24, 23, 40, 39, 38, 37, 15, 20, 19, 18, 17, 16, 14, 13, 8, 12, 11, 10, 9, 3, 7, 6, 5, 4, 1, 2] → ∀ i, (zUp M41 61 5 (-1)) c i = 0 := zhzU (by decide) (zhz (by decide) hz28)
  refine rx_putF (tl := []) (k := 8) (fs' := [.ref q1, .ref q5, .ref q8, .ref q11, .ref q15, .ref q16, .ref q20, .ref q23, .ref q26, .null]) Y cl_9 (by decide) fl_RX9_63 rfl hin rfl rfl rfl (zlt rfl) rfl dX9_init_137 ?_
  refine rx_aload_n Y dX9_init_140 rfl rfl ?_
  refine rx_new Y cl_1 kl_RX9_67 ib_RX1 iz_RX1 (by decide +kernel) [.null, .null, .null, .null] (by decide +kernel) (by decide) (by decide) dX9_init_141 (fun q30 => ?_)
  refine rx_dup Y dX9_init_144 rfl ?_
  refine rx_aload_n Y dX9_init_145 rfl rfl ?_
  refine rx_get (tl := [(q30, .inr (1, [.null, .null, .null, .null]))]) Y cl_9 (by decide) fl_RX9_35 rfl dX9_init_146 ?_
  have hz32 : ∀ c, c ∉ [61, 63, 62, 41, 53, 56, 55, 54, 45, 52, 51, 50, 49, 48, 47, 46, 42, 44, 43, 60, 59, 58, 57, 21, 33, 36, 35, 34, 25, 32, 31, 30, 29, 28, 27, 26, 22, 24, 23, 40, 39, 38, 37, 15, 20, 19, 18, 17, 16, 14, 13, 8, 12, 11, 10, 9, 3, 7, 6, 5, 4, 1, 2] → ∀ i, (zUp M41 61 5 (-1)) c i = 0 := zhz (by decide) hz29
  refine rx_ctorA (n := 1) (e0 := [(a, .inr (9, [.ref q1, .ref q5, .ref q8, .ref q11, .ref q15, .ref q16, .ref q20, .ref q23, .ref q26, .null]))]) (As := [.ref q15]) Y (kc_64 l B (zUp M41 61 5 (-1)) hz32 hf64) (zv1 ((k27 14 (by decide)).trans ((k24 14 (by decide)).trans ((k21 14 (by decide)).trans ((k17 14 (by decide)).trans rfl))))) cd_X1_init iz_RX1 ⟨by decide, by decide, by decide⟩ ml_RX9_69 im_X1_init rfl ⟨rfl, rfl⟩ ⟨by decide, by decide⟩ rfl rfl rfl (zle rfl) ⟨by decide, by decide⟩ dX9_init_149 (fun ad31 k31 e31 => ?_)
  refine rx_putF (tl := []) (k := 9) (fs' := [.ref q1, .ref q5, .ref q8, .ref q11, .ref q15, .ref q16, .ref q20, .ref q23, .ref q26, .ref q30]) Y cl_9 (by decide) fl_RX9_72 rfl hin rfl rfl rfl (zlt rfl) rfl dX9_init_152 ?_
  refine rx_done (o := 0) (N := 10) (by decide +kernel) (by decide) (by decide +kernel) (by decide) (zlc (congrArg Value.ref ((k31 1 (by decide)).trans ((k27 1 (by decide)).trans ((k24 1 (by decide)).trans ((k21 1 (by decide)).trans ((k17 1 (by decide)).trans ((k12 1 (by decide)).trans ((k9 1 (by decide)).trans ((k6 1 (by decide)).trans e2))))))))) (zlc (congrArg Value.ref ((k31 3 (by decide)).trans ((k27 3 (by decide)).trans ((k24 3 (by decide)).trans ((k21 3 (by decide)).trans ((k17 3 (by decide)).trans ((k12 3 (by decide)).trans ((k9 3 (by decide)).trans e6)))))))) (zlc (congrArg Value.ref ((k31 8 (by decide)).trans ((k27 8 (by decide)).trans ((k24 8 (by decide)).trans ((k21 8 (by decide)).trans ((k17 8 (by decide)).trans ((k12 8 (by decide)).trans e9))))))) (zlc (congrArg Value.ref ((k31 13 (by decide)).trans ((k27 13 (by decide)).trans ((k24 13 (by decide)).trans ((k21 13 (by decide)).trans ((k17 13 (by decide)).trans e12)))))) (zlc (congrArg Value.ref ((k31 14 (by decide)).trans ((k27 14 (by decide)).trans ((k24 14 (by decide)).trans ((k21 14 (by decide)).trans ((k17 14 (by decide)).trans rfl)))))) (zlc (congrArg Value.ref ((k31 15 (by decide)).trans ((k27 15 (by decide)).trans ((k24 15 (by decide)).trans ((k21 15 (by decide)).trans e17))))) (zlc (congrArg Value.ref ((k31 21 (by decide)).trans ((k27 21 (by decide)).trans ((k24 21 (by decide)).trans e21)))) (zlc (congrArg Value.ref ((k31 41 (by decide)).trans ((k27 41 (by decide)).trans e24))) (zlc (congrArg Value.ref ((k31 61 (by decide)).trans e27)) (zlc (congrArg Value.ref e31) rfl)))))))))) ?_
  exact rx_end Y rfl (zAd_keep (by decide) (zAd_tr (by decide) k31 (zAd_tr (by decide) k27 (zAd_tr (by decide) k24 (zAd_tr (by decide) k21 (zAd_tr (by decide) k17 (zAd_keep (by decide) (zAd_tr (by decide) k12 (zAd_tr (by decide) k9 (zAd_tr (by decide) k6 (zAd_tr (by decide) k2 (fun _ _ => rfl)))))))))))) rfl dX9_init_155
