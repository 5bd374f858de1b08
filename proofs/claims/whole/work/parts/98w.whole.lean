/-! ===== the law from its entry ===== -/
theorem wl_9 : Cond.classLink RL 7 RX9 ∈ zW := zW_of 82 (by decide +kernel) rfl
theorem wl_10 : Cond.classLink RL 10 RX10 ∈ zW := zW_of 978 (by decide +kernel) rfl
theorem wz_9 : Cond.initialized RX9 ∈ zW := zW_of 65 (by decide +kernel) rfl
theorem wz_10 : Cond.initialized RX10 ∈ zW := zW_of 75 (by decide +kernel) rfl
theorem wm_9 : Cond.methodLink RL 9 yX9_init ∈ zW := zW_of 84 (by decide +kernel) rfl
theorem wm_10 : Cond.methodLink RL 12 yX10_init ∈ zW := zW_of 980 (by decide +kernel) rfl
theorem wi_9 : Cond.instanceMethod yX9_init ∈ zW := zW_of 85 (by decide +kernel) rfl
theorem wi_10 : Cond.instanceMethod yX10_init ∈ zW := zW_of 981 (by decide +kernel) rfl
theorem wc_9 : Cond.code yX9_init cX9_init 1 none ∈ zW := zW_of 86 (by decide +kernel) rfl
theorem wc_10 : Cond.code yX10_init cX10_init 1 none ∈ zW := zW_of 982 (by decide +kernel) rfl
abbrev zLs0 : List Nat := [0, 64, 73, 66, 67, 68, 69, 70, 71, 72, 65, 61, 63, 62, 41, 53, 56, 55, 54, 45, 52, 51, 50, 49, 48, 47, 46, 42, 44, 43, 60, 59, 58, 57, 21, 33, 36, 35, 34, 25, 32, 31, 30, 29, 28, 27, 26, 22, 24, 23, 40, 39, 38, 37, 15, 20, 19, 18, 17, 16, 14, 13, 8, 12, 11, 10, 9, 3, 7, 6, 5, 4, 1, 2]
abbrev zLs1 : List Nat := [74, 139, 132, 133, 134, 135, 136, 137, 138, 125, 126, 127, 128, 129, 130, 131, 124, 123, 122, 140, 141, 142, 143, 144, 145, 146, 147, 148, 149, 150, 151, 152, 153, 154, 155, 156, 157, 158, 159, 160, 161, 162, 163, 164, 165, 166, 167, 168, 169, 170, 171, 172, 173, 174, 175, 176, 177, 178, 179, 180, 181, 182, 183, 184, 185, 186, 187, 188, 189, 190, 191, 192, 193, 194, 195, 196, 197, 198, 199, 200, 201, 202, 203, 204, 205, 206, 207, 208, 209, 210, 211, 212, 213, 214, 215, 216, 217, 218, 219, 220, 221, 222, 223, 224, 225, 226, 227, 228, 229, 230, 231, 232, 233, 234, 235, 236, 237, 238, 239, 240, 241, 242, 243, 244, 245, 246, 247, 248, 249, 250, 251, 252, 253, 254, 255, 256, 257, 258, 259, 260, 261, 262, 263, 264, 265, 266, 267, 268, 269, 270, 271, 272, 273, 274, 275, 276, 277, 278, 279, 280, 281, 282, 283, 284, 285, 286, 287, 288, 289, 290, 291, 292, 293, 294, 295, 296, 297, 298, 299, 300, 301, 302, 303, 304, 305, 306, 307, 308, 309, 310, 311, 312, 313, 314, 315, 316, 317, 318, 319, 320, 321, 322, 323, 324, 325, 326, 327, 328, 329, 330, 331, 332, 333, 334, 335, 336, 337, 338, 339, 340, 341, 342, 343, 344, 345, 346, 347, 348, 349, 350, 351, 352, 353, 354, 355, 356, 357, 358, 359, 360, 361, 362, 363, 364, 365, 366, 367, 368, 369, 370, 371, 372, 373, 374, 375, 376, 377, 378, 379, 380, 381, 382, 383, 384, 385, 386, 387, 388, 389, 390, 391, 392, 393, 394, 395, 396, 397, 398, 399, 400, 401, 402, 403, 404, 405, 406, 407, 408, 409, 410, 411, 412, 413, 414, 415, 416, 417, 418, 419, 420, 421, 422, 423, 424, 425, 426, 427, 428, 429, 430, 431, 432, 433, 434, 435, 436, 437, 438, 439, 440, 441, 442, 443, 444, 445, 446, 447, 448, 449, 450, 451, 452, 453, 454, 455, 456, 457, 458, 459, 460, 461, 462, 463, 464, 465, 466, 467, 468, 469, 470, 471, 472, 473, 474, 475, 476, 477, 478, 479, 480, 481, 482, 483, 484, 485, 486, 487, 488, 489, 490, 491, 492, 493, 494, 495, 496, 497, 498, 499, 500, 501, 502, 503, 504, 505, 506, 507, 508, 509, 510, 511, 512, 513, 514, 515, 516, 517, 518, 519, 520, 521, 522, 523, 524, 525, 526, 527, 528, 529, 530, 531, 532, 533, 534, 535, 536, 537, 538, 539, 540, 121, 120, 119, 118, 117, 116, 115, 114, 113, 112, 111, 110, 109, 108, 105, 106, 107, 102, 103, 104, 99, 100, 101, 98, 97, 96, 95, 94, 93, 92, 91, 90, 89, 86, 87, 88, 83, 84, 85, 80, 81, 82, 77, 78, 79, 76, 75, 0, 64, 73, 66, 67, 68, 69, 70, 71, 72, 65, 61, 63, 62, 41, 53, 56, 55, 54, 45, 52, 51, 50, 49, 48, 47, 46, 42, 44, 43, 60, 59, 58, 57, 21, 33, 36, 35, 34, 25, 32, 31, 30, 29, 28, 27, 26, 22, 24, 23, 40, 39, 38, 37, 15, 20, 19, 18, 17, 16, 14, 13, 8, 12, 11, 10, 9, 3, 7, 6, 5, 4, 1, 2]
theorem zLs1_cl : zCL zLs1 = true := by decide +kernel
theorem zLs0_cl : zCL zLs0 = true := by decide +kernel
theorem zLs0_all : ∀ c, c < 74 → 0 < c → c ∈ zLs0 := by decide +kernel
theorem zLs0_0 : 0 ∈ zLs0 := by decide +kernel
theorem zLs1_0 : 0 ∈ zLs1 := by decide +kernel
theorem zLs1_74 : 74 ∈ zLs1 := by decide +kernel
theorem zn_8 : ∀ c, c < 8 → 0 < c → c ∈ [3, 7, 6, 5, 4, 1, 2] := by decide +kernel
/-- both constructors, over the memory that they leave -/
theorem b_ctor (l : Launch) (B : zBs) : ∃ M64 M1 : zMem, zKc l yX9_init cX9_init 1 { frames := 4, cells := 73, slots := 7063, locals := 84 } 73 7063 B 9 [.null, .null, .null, .null, .null, .null, .null, .null, .null, .null] [] zLs0 0 (fun _ => []) zM0 M64 ∧ zKc l yX10_init cX10_init 1 { frames := 1, cells := 466, slots := 29776, locals := 21 } 466 29776 B 10 [.int 0, .null, .int 0, .int 0, .int 0, .int 0, .null, .null, .null, .null, .null, .null, .null, .null, .null, .null, .int 0, .null, .null, .null, .null, .null, .null, .null, .null, .int 0, .int 0, .int 0, .null, .null, .null, .int 0, .int 0, .int 0, .int 0, .int 0, .int 0, .int 0, .int 0, .int 0, .null, .null, .null, .null, .null, .null, .null, .null, .int 0, .int 0, .int 0, .null, .null, .null, .null, .null, .null, .null, .null, .null, .null] zLs0 zLs1 74 (fun _ => []) M64 M1 ∧ zInv M1 := by
  obtain ⟨M3, M8, M21, M41, M64, M1, ⟨e3, y3⟩, ⟨e8, y8⟩, ⟨e21, y21⟩, ⟨e41, y41⟩, ⟨e64, y64⟩, e1, hI⟩ := b_inv
  refine ⟨M64, M1, kc_0 l B zM0 (fun _ _ _ => rfl) e3 (fun c hc => y3 c (zNotIn (by decide +kernel) hc)) e8 (fun c hc => y8 c (zNotIn (by decide +kernel) hc)) e21 (fun c hc => y21 c (zNotIn (by decide +kernel) hc)) e41 (fun c hc => y41 c (zNotIn (by decide +kernel) hc)) e64 (fun c hc => y64 c (zNotIn (by decide +kernel) hc)), kc_74 l B M64 (fun c hc => y64 c (zNotIn zLs0_all hc)) e1, hI⟩
set_option maxHeartbeats 4000000 in
set_option maxRecDepth 100000 in
/-- YOUR PART: from the entry, for every script of at most 3072 ints, the law comes to its end with true -/
theorem whole_start {p : Program} {e : Env} {s : State} {m : MethodId} {below : List Frame} {meth : Method} {c : Code} (l : Launch) {b L : Nat} {xs : Nat → Int32} (hL : L ≤ 3072) (C0 : lw_At p s m meth c b L xs) : W p l e room_1 s m #[Value.ref b] below meth c s.heap [] 0 0 (lw_Z below #[Value.ref b] s) (entryFrame m ([Value.ref b] : List Value).toArray 4) := by
  obtain ⟨B, Y⟩ := b_world C0
  obtain ⟨hx, hb, hr, hml, hown, hts, hX, hbl, hlocks, hgv⟩ := id C0
  obtain ⟨M64, M1, K0, K74, hI⟩ := b_ctor l B
  obtain ⟨Mz, hlaw⟩ := law_ok (xs := xs) hL 1999 0 M1 (by omega) (by omega) hI
  have walk : zRx p l e room_1 s m #[Value.ref b] below meth c B (fun q => s.heap.size ≤ q) (lw_Z below #[Value.ref b] s) 0 0 (fun _ => 0) [] [] 0 [some (.ref b), none, none, none] [] zM0 := by
    refine rx_new Y cl_9 wl_9 ib_RX9 wz_9 (by decide +kernel) [.null, .null, .null, .null, .null, .null, .null, .null, .null, .null] (by decide +kernel) (by decide) (by decide) dL_law_0 (fun q1 => ?_)
    refine rx_dup Y dL_law_3 rfl ?_
    refine rx_ctor (n := 0) (e0 := []) (q := q1) Y K0 wc_9 wz_9 ⟨by decide, by decide, by decide⟩ wm_9 wi_9 rfl ⟨rfl, rfl⟩ ⟨by decide, by decide⟩ rfl rfl rfl (zle rfl) ⟨by decide, by decide⟩ dL_law_4 (fun ad1 n1 n2 => ?_)
    refine rx_astore_n (lv' := [some (.ref b), some (.ref q1), none, none]) Y dL_law_7 rfl (zlt rfl) rfl ?_
    refine rx_new Y cl_10 wl_10 ib_RX10 wz_10 zLs0_cl [.int 0, .null, .int 0, .int 0, .int 0, .int 0, .null, .null, .null, .null, .null, .null, .null, .null, .null, .null, .int 0, .null, .null, .null, .null, .null, .null, .null, .null, .int 0, .int 0, .int 0, .null, .null, .null, .int 0, .int 0, .int 0, .int 0, .int 0, .int 0, .int 0, .int 0, .int 0, .null, .null, .null, .null, .null, .null, .null, .null, .int 0, .int 0, .int 0, .null, .null, .null, .null, .null, .null, .null, .null, .null, .null] (by decide +kernel) (by decide) (by decide) dL_law_8 (fun q2 => ?_)
    refine rx_dup Y dL_law_11 rfl ?_
    refine rx_ctor (n := 0) (e0 := []) (q := q2) Y K74 wc_10 wz_10 ⟨by decide, by decide, by decide⟩ wm_10 wi_10 rfl ⟨rfl, rfl⟩ ⟨by decide, by decide⟩ rfl rfl rfl (zle rfl) ⟨by decide, by decide⟩ dL_law_12 (fun ad2 n3 n4 => ?_)
    refine rx_astore_n (lv' := [some (.ref b), some (.ref q1), some (.ref q2), none]) Y dL_law_15 rfl (zlt rfl) rfl ?_
    refine rx_iconst (v := 0) Y dL_law_16 (by decide) ?_
    refine rx_istore_n (lv' := [some (.ref b), some (.ref q1), some (.ref q2), some (.int 0)]) Y dL_law_17 rfl (zlt rfl) rfl ?_
    intro H locs lsl hP hD hS hLo
    have X := zCy.X Y hD zLs1_cl
    refine W.widen (k := 600000) (n := 7302250) (by decide) (by decide) ?_
    rw [List.append_nil] at hP
    have e1 : ad2 0 = q1 := (n3 0 zLs0_0).trans n2
    have K := lb_L_law_18 (l := l) (e := e) (below := below) (xs := xs) (L := L) X (zKd_of (zL_m.mpr zLs1_0) (by decide +kernel)) (zKd_of (zL_m.mpr zLs1_74) (by decide +kernel)) hX hbl zFu 0 M1 1 Mz hlaw H locs lsl hP hS (by
      show zLo lsl [some (.ref b), some (.ref (ad2 0)), some (.ref (ad2 74)), some (.int 0)]
      rw [e1, n4]
      exact hLo)
    intro T hT Z
    obtain ⟨t2, a1, b1⟩ := K T hT Z
    exact ⟨t2, a1, b1 rfl⟩
  have hl := lv_entry ([.ref b]) (n := 4) (Nat.le_of_ble_eq_true rfl)
  rw [lg_entry_eq]
  generalize hls : (lg_sl ([.ref b]) ++ List.replicate (4 - (lg_sl ([.ref b])).length) Slot.unset).toArray = ls at hl ⊢
  have hl : lv_has ls 4 [(0, .ref b)] := hl
  have hLo : zLo ls [some (.ref b), none, none, none] := by
    refine ⟨hl.1, hl.2.1, fun i v hi => ?_⟩
    match i, hi with
    | 0, hi =>
      cases hi
      exact ⟨hl.2.2 (0, .ref b) List.mem_cons_self, rfl⟩
    | 1, hi => cases hi
    | 2, hi => cases hi
    | 3, hi => cases hi
    | k + 4, hi => simp at hi
  exact walk s.heap [] ls (fun k q h => by
    rw [List.append_nil] at h
    obtain ⟨b', _, hb', _⟩ := zWl_mem (List.mem_of_getElem? h)
    exact absurd (zL_m.mp hb') (by simp)) ⟨fun c c' h => by simp at h, fun c x h => by simp at h, by simp, fun c h => by simp at h, fun x h => by simp at h⟩ va_S.rf hLo
