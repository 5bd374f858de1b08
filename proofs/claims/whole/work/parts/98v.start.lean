/-! ===== the start: texts, words, classes ===== -/
theorem zT_of {w : Cond} (k : Nat) (h : lw_tbl[k]? = some w) : w ∈ lw_tbl := List.mem_of_getElem? h
def zTm (i : Nat) : Term := .string (zSt.getD i (RL, 0, "", 0)).1 (zSt.getD i (RL, 0, "", 0)).2.1
def zTv (i : Nat) : Term := .field (zTm i) "java/lang/String" "value" "[B"
def zTc (i : Nat) : List Cond := Cond.exactly (zTm i) "java/lang/String" :: Cond.eq (.field (zTm i) "java/lang/String" "coder" "B") (.int 0) :: Cond.arrayOf (zTv i) .byte :: Cond.eq (.length (zTv i)) (.int (Int32.ofNat (zSl.getD i 0))) :: (List.range (zSl.getD i 0)).map (fun j => Cond.eq (.elem (zTv i) (.int (Int32.ofNat j))) (.int ((zSb.getD i []).getD j 0)))
def zTj : List Nat := [0, 1, 2, 3, 4, 5, 6, 7, 8, 9, 10, 11, 12, 13, 14, 15, 16, 17, 18, 19, 22, 20, 21, 23, 24]
def zTe (i : Nat) : List Cond := if i < 25 then [] else [Cond.eq (zTm (zTj.getD (i - 25) 0)) (zTm i)]
set_option maxRecDepth 100000 in
theorem zTx : (flatC (Jvm.Cond.and given_1 narrow_1)).drop 9 = (List.range 50).flatMap (fun i => zTc i ++ zTe i) := by decide +kernel
theorem zTx_in {i : Nat} {c : Cond} (hi : i < 50) (h : c ∈ zTc i) : c ∈ flatC (Jvm.Cond.and given_1 narrow_1) := List.mem_of_mem_drop (i := 9) (by rw [zTx]; exact List.mem_flatMap.mpr ⟨i, List.mem_range.mpr hi, List.mem_append_left _ h⟩)
theorem zSl_lt : ∀ i, i < 50 → zSl.getD i 0 < 2 ^ 31 := by decide +kernel
theorem b_S {args : Array Value} {s : State} {A : Nat → Prop} (hg : ∀ c ∈ flatC (Jvm.Cond.and given_1 narrow_1), c.before args s = true) (hA : ∀ a : Nat, a < s.heap.size → ¬ A a) : ∃ adK adV : Nat → Nat, ∀ i : Nat, i < zNS → (zTm i).eval args s none [] s = some (.ref (adK i)) ∧ va_O "java/lang/String" (adK i) A s s.heap ∧ va_OF "java/lang/String" "coder" "B" (.int 0) (adK i) A s s.heap ∧ va_OF "java/lang/String" "value" "[B" (.ref (adV i)) (adK i) A s s.heap ∧ va_T .byte (adV i) (zSl.getD i 0) (fun j => .int ((zSb.getD i []).getD j 0)) A s s.heap := by
  have h0 : ∀ i : Nat, ∃ q : Nat × Nat, i < zNS → (zTm i).eval args s none [] s = some (.ref q.1) ∧ va_O "java/lang/String" q.1 A s s.heap ∧ va_OF "java/lang/String" "coder" "B" (.int 0) q.1 A s s.heap ∧ va_OF "java/lang/String" "value" "[B" (.ref q.2) q.1 A s s.heap ∧ va_T .byte q.2 (zSl.getD i 0) (fun j => .int ((zSb.getD i []).getD j 0)) A s s.heap := by
    intro i
    by_cases hi : i < zNS
    · have hi5 : i < 50 := hi
      have hex : (Cond.exactly (zTm i) "java/lang/String").before args s = true := hg _ (zTx_in hi5 List.mem_cons_self)
      have hco : (Cond.eq (.field (zTm i) "java/lang/String" "coder" "B") (.int 0)).before args s = true := hg _ (zTx_in hi5 (List.mem_cons_of_mem _ List.mem_cons_self))
      have har : (Cond.arrayOf (zTv i) .byte).before args s = true := hg _ (zTx_in hi5 (List.mem_cons_of_mem _ (List.mem_cons_of_mem _ List.mem_cons_self)))
      have hle : (Cond.eq (.length (zTv i)) (.int (Int32.ofNat (zSl.getD i 0)))).before args s = true := hg _ (zTx_in hi5 (List.mem_cons_of_mem _ (List.mem_cons_of_mem _ (List.mem_cons_of_mem _ List.mem_cons_self))))
      have hel : ∀ j : Nat, j < zSl.getD i 0 → (Cond.eq (.elem (zTv i) (.int (Int32.ofNat j))) (.int ((zSb.getD i []).getD j 0))).before args s = true := fun j hj => hg _ (zTx_in hi5 (List.mem_cons_of_mem _ (List.mem_cons_of_mem _ (List.mem_cons_of_mem _ (List.mem_cons_of_mem _ (List.mem_map.mpr ⟨j, List.mem_range.mpr hj, rfl⟩))))))
      obtain ⟨a, c, cA, kA, q1, q2, q3, q4, q5, q6, -⟩ := Cond.exactly_spec (args := args) (first := s) (o := none) (s := s) (idx := []) (t := zTm i) (cls := "java/lang/String") hex
      obtain ⟨t, ht, hT⟩ := va_Tof (f := fun j => .int ((zSb.getD i []).getD j 0)) (A := A) (zSl_lt i hi5) har (va_eqt hle) (fun j hj => va_eqt (hel j hj)) hA
      exact ⟨(a, t), fun _ => ⟨q1, ⟨cA, q3, q5, by rw [q6]; exact q2, hA a (Array.getElem?_eq_some_iff.mp q3).1⟩, vk_OFof q1 (va_eqt hco) hA, vk_OFof q1 ht hA, hT⟩⟩
    · exact ⟨(0, 0), fun h => absurd h hi⟩
  obtain ⟨ad, had⟩ := Classical.axiomOfChoice h0
  exact ⟨fun i => (ad i).1, fun i => (ad i).2, fun i hi => had i hi⟩
set_option maxRecDepth 100000 in
theorem zSp_pl : zSt.map (fun q => some (Cond.stringRef q.1 q.2.1 q.2.2.1)) = [483, 550, 551, 552, 553, 554, 555, 556, 557, 570, 582, 583, 584, 592, 593, 594, 595, 596, 601, 602, 603, 604, 609, 610, 611, 1210, 1225, 1226, 1227, 1228, 1229, 1230, 1231, 1232, 1233, 1246, 1247, 1248, 1253, 1254, 1255, 1256, 1261, 1262, 1263, 1264, 1265, 1266, 1267, 1268].map (fun k => lw_tbl[k]?) := by decide +kernel
theorem zSp_in {q : String × Nat × String × Nat} (h : q ∈ zSt) : Cond.stringRef q.1 q.2.1 q.2.2.1 ∈ lw_tbl := by
  have h1 : some (Cond.stringRef q.1 q.2.1 q.2.2.1) ∈ zSt.map (fun q => some (Cond.stringRef q.1 q.2.1 q.2.2.1)) := List.mem_map.mpr ⟨q, h, rfl⟩
  rw [zSp_pl] at h1
  obtain ⟨k, -, e⟩ := List.mem_map.mp h1
  exact zT_of k e
set_option maxRecDepth 100000 in
theorem zNw_pl : zNw.map (fun q => some (Cond.methodLinkNest q.1 q.2.1 q.2.2.1 q.2.2.2)) = [92, 189, 302, 558, 569, 639, 646, 655, 656, 743, 776, 939, 940].map (fun k => lw_tbl[k]?) := by decide +kernel
theorem zNw_in {q : String × Nat × MethodName × String} (h : q ∈ zNw) : Cond.methodLinkNest q.1 q.2.1 q.2.2.1 q.2.2.2 ∈ lw_tbl := by
  have h1 : some (Cond.methodLinkNest q.1 q.2.1 q.2.2.1 q.2.2.2) ∈ zNw.map (fun q => some (Cond.methodLinkNest q.1 q.2.1 q.2.2.1 q.2.2.2)) := List.mem_map.mpr ⟨q, h, rfl⟩
  rw [zNw_pl] at h1
  obtain ⟨k, -, e⟩ := List.mem_map.mp h1
  exact zT_of k e
theorem zSt_i : ∀ q ∈ zSt, q.2.2.2 < zNS ∧ (zSt.getD q.2.2.2 (RL, 0, "", 0)).1 = q.1 ∧ (zSt.getD q.2.2.2 (RL, 0, "", 0)).2.1 = q.2.1 := by decide +kernel
theorem zW_tbl {w : Cond} (h : w ∈ zW) : w ∈ lw_tbl := (List.mem_filter.mp h).1
theorem b_over {args : Array Value} {s : State} {ty : FieldType} (h : (Cond.arrayOver (.array ty)).before args s = true) : ∃ (c : ClassId) (k : Class) (comp : ClassId), s.vm.findClass ("[" ++ (FieldType.array ty).toString) = some c ∧ s.vm.classes[c]? = some k ∧ k.kind = .array comp (.array ty) := by
  simp only [Cond.before, Cond.holds, Cond.value, beq_iff_eq] at h
  cases hc : s.vm.findClass (FieldType.array ty).toString with
  | none => simp [hc] at h
  | some comp =>
    simp only [hc, Option.bind_some, Option.bind_eq_some_iff, Option.map_eq_some_iff] at h
    obtain ⟨c, hi, k, hk, hb⟩ := h
    cases hkind : k.kind with
    | array component ty' =>
      rw [hkind] at hb
      simp at hb
      exact ⟨c, k, component, hb.2, hk, by rw [hkind, hb.1]⟩
    | _ => rw [hkind] at hb; simp at hb
theorem b_arr {s : State} {c : ClassId} {k : Class} {comp : ClassId} {ty : FieldType} (h1 : s.vm.classes[c]? = some k) (h2 : k.kind = .array comp ty) : ArrOfT s c ty := fun _ _ => ⟨(fun _ h => by cases h), k, h1, comp, h2⟩
theorem b_cls {args : Array Value} {s : State} (hts : ∀ w ∈ zW, w.before args s = true) : ∃ D : va_G, ∀ (c : Nat) (q : vw_C), vwCl[c]? = some q → u_Kn s q.1 q.2.1 q.2.2 (D.1 c) (D.2 c) := by
  have key : ∀ c : Nat, ∃ d : ClassId × (Nat → Nat), ∀ q : vw_C, vwCl[c]? = some q → u_Kn s q.1 q.2.1 q.2.2 d.1 d.2 := by
    intro c
    match c with
    | 0 => obtain ⟨a, b, h⟩ := u_known hts inX0 (hts _ ib_RX0); exact ⟨(a, b), fun q e => by cases e; exact h⟩
    | 1 => obtain ⟨a, b, h⟩ := u_known hts inX1 (hts _ ib_RX1); exact ⟨(a, b), fun q e => by cases e; exact h⟩
    | 2 => obtain ⟨a, b, h⟩ := u_known hts inX2 (hts _ ib_RX2); exact ⟨(a, b), fun q e => by cases e; exact h⟩
    | 3 => obtain ⟨a, b, h⟩ := u_known hts inX3 (hts _ ib_RX3); exact ⟨(a, b), fun q e => by cases e; exact h⟩
    | 4 => obtain ⟨a, b, h⟩ := u_known hts inX4 (hts _ ib_RX4); exact ⟨(a, b), fun q e => by cases e; exact h⟩
    | 5 => obtain ⟨a, b, h⟩ := u_known hts inX5 (hts _ ib_RX5); exact ⟨(a, b), fun q e => by cases e; exact h⟩
    | 6 => obtain ⟨a, b, h⟩ := u_known hts inX6 (hts _ ib_RX6); exact ⟨(a, b), fun q e => by cases e; exact h⟩
    | 7 => obtain ⟨a, b, h⟩ := u_known hts inX7 (hts _ ib_RX7); exact ⟨(a, b), fun q e => by cases e; exact h⟩
    | 8 => obtain ⟨a, b, h⟩ := u_known hts inX8 (hts _ ib_RX8); exact ⟨(a, b), fun q e => by cases e; exact h⟩
    | 9 => obtain ⟨a, b, h⟩ := u_known hts inX9 (hts _ ib_RX9); exact ⟨(a, b), fun q e => by cases e; exact h⟩
    | 10 => obtain ⟨a, b, h⟩ := u_known hts inX10 (hts _ ib_RX10); exact ⟨(a, b), fun q e => by cases e; exact h⟩
    | c + 11 => exact ⟨(0, fun _ => 0), fun q e => by simp at e⟩
  obtain ⟨f, hf⟩ := Classical.axiomOfChoice key
  exact ⟨(fun c => (f c).1, fun c => (f c).2), fun c q h => hf c q h⟩
theorem b_world {p : Program} {s : State} {m : MethodId} {meth : Method} {c : Code} {b L : Nat} {xs : Nat → Int32} (C0 : lw_At p s m meth c b L xs) : ∃ B : zBs, zCy p s m #[Value.ref b] meth c B (fun q => s.heap.size ≤ q) RL cL_law 4 (some .boolean) := by
  obtain ⟨hx, hb, hr, hml, hown, hts, hX, hbl, hlocks, hgv⟩ := id C0
  have hA : ∀ a : Nat, a < s.heap.size → ¬ (fun q => s.heap.size ≤ q) a := fun a ha => Nat.not_le.mpr ha
  have hg := flat_of_before _ hgv
  have hzw : ∀ w ∈ zW, w.before #[Value.ref b] s = true := fun w hw => hts w (zW_tbl hw)
  obtain ⟨D, hD⟩ := b_cls hzw
  obtain ⟨adK, adV, hS⟩ := b_S (A := fun q => s.heap.size ≤ q) hg hA
  obtain ⟨c1, k1, m1, f1, g1, t1⟩ := Cond.arrayClass_spec (hzw _ ac_byte)
  obtain ⟨c2, k2, m2, f2, g2, t2⟩ := Cond.arrayClass_spec (hzw _ ac_int)
  obtain ⟨c3, k3, m3, f3, g3, t3⟩ := Cond.arrayClass_spec (hzw _ ac_bool)
  have o1 : (Cond.arrayOver (.array .int)).before #[Value.ref b] s = true := hts _ (zT_of 405 (by decide +kernel))
  have o2 : (Cond.arrayOver (.array .boolean)).before #[Value.ref b] s = true := hts _ (zT_of 986 (by decide +kernel))
  obtain ⟨c4, k4, m4, f4, g4, t4⟩ := b_over o1
  obtain ⟨c5, k5, m5, f5, g5, t5⟩ := b_over o2
  refine ⟨(D, fun k => if k = 11 then c1 else if k = 12 then c2 else if k = 13 then c3 else if k = 14 then c4 else c5, adK, adV), hx, hb, hml, hown, hzw, hlocks, hr, ⟨⟨hD, ?_⟩, ?_, ?_, ?_, ?_, ?_, ?_, ?_⟩, fun q h => h, ⟨o1, o2⟩⟩
  · intro k q hk
    match k, hk with
    | 0, hk => cases hk; exact ⟨b_arr g1 t1, f1⟩
    | 1, hk => cases hk; exact ⟨b_arr g2 t2, f2⟩
    | 2, hk => cases hk; exact ⟨b_arr g3 t3, f3⟩
    | 3, hk => cases hk; exact ⟨b_arr g4 t4, f4⟩
    | 4, hk => cases hk; exact ⟨b_arr g5 t5, f5⟩
    | k + 5, hk => simp [zTys] at hk
  · intro a a' _ _ h1
    exact absurd (zL_m.mp h1) (by simp)
  · intro a i h1
    exact absurd (zL_m.mp h1) (by simp)
  · exact fun i hi => (hS i hi).2
  · have h1 : (Cond.eq (.static "java/lang/String" "COMPACT_STRINGS" "Z") (.int 1)).before #[Value.ref b] s = true := hg _ (List.mem_of_getElem? (i := 4) (by decide +kernel))
    exact va_Zof (hts _ (zT_of 497 (by decide +kernel))) (hts _ (zT_of 76 (by decide +kernel))) (va_eqt h1) hA
  · have h1 : (Cond.isRef (.static "jdk/internal/util/Preconditions" "SIOOBE_FORMATTER" "Ljava/util/function/BiFunction;")).before #[Value.ref b] s = true := hg _ (List.mem_of_getElem? (i := 5) (by decide +kernel))
    exact va_Zqof (hts _ (zT_of 513 (by decide +kernel))) (hts _ (zT_of 78 (by decide +kernel))) h1 hA
  · intro q hq
    obtain ⟨q1, q2, q3⟩ := zSt_i q hq
    have e := (hS _ q1).1
    unfold zTm at e
    rw [q2, q3] at e
    exact vk_R.of (hts _ (zSp_in hq)) e
  · intro q hq
    exact va_Nw.of rfl (hts _ (zNw_in hq))
