/-! the session: plain rules and steps -/
noncomputable def zIf {α : Type} (p : Prop) (a b : α) : α := @ite α p (Classical.propDecidable p) a b
theorem zIf_t {α : Type} {p : Prop} {a b : α} (h : p) : zIf p a b = a := if_pos h
theorem zIf_f {α : Type} {p : Prop} {a b : α} (h : ¬ p) : zIf p a b = b := if_neg h
noncomputable def zT (p : Prop) : Int32 := zIf p 1 0
theorem zT_t {p : Prop} (h : p) : zT p = 1 := zIf_t h
theorem zT_f {p : Prop} (h : ¬ p) : zT p = 0 := zIf_f h
theorem yB_T {p : Prop} [Decidable p] : yB p = zT p := by
  by_cases h : p
  · rw [yB_t h, zT_t h]
  · rw [yB_f h, zT_f h]
theorem zT_01 (p : Prop) : zT p = 0 ∨ zT p = 1 := by
  by_cases h : p
  · right; exact zT_t h
  · left; exact zT_f h
theorem zT_congr {p q : Prop} (h : p ↔ q) : zT p = zT q := by rw [propext h]
theorem zT_if {p : Prop} {a b : zTr} : (if zT p = 0 then a else b) = zIf p b a := by
  by_cases h : p
  · rw [zT_t h, zIf_t h, if_neg (by decide)]
  · rw [zT_f h, zIf_f h, if_pos rfl]
theorem zIf_ite {α : Type} {p : Prop} [Decidable p] {a b : α} : (if p then a else b) = zIf p a b := by
  by_cases h : p
  · rw [if_pos h, zIf_t h]
  · rw [if_neg h, zIf_f h]
def zBc (u : Int32) : Int32 := match f_J6_bitCount_0f7a4 u (fun _ _ => 0) with
  | some q => q.1
  | none => 0
theorem k_bc (u : Int32) (M : zMem) : f_J6_bitCount_0f7a4 u M = some (zBc u, M) := rfl
/-- is the member there -/
def s_in (S : zMem) (m : Int32) : Prop := zIn m 24 ∧ (zUsr (S 0 11) m &&& 1) = 1
def s_told (S : zMem) (w m d a b : Int32) : Prop :=
  if w = 3 then True
  else if w = 4 then 1 ≤ a ∧ a ≤ 9999
  else if w = 6 then zIn m 24 ∧ zIn d 8 ∧ (0 ≤ a ∧ a ≤ 999) ∧ (0 ≤ b ∧ b ≤ 999)
  else if w = 8 then (a &&& b) = 0 ∧ ((a ||| b) &&& (S 0 11 ^^^ (-1))) = 0
  else if w = 9 then a = 0 ∨ a = 1
  else zIn m 24
def s_wk (S : zMem) (u : Int32) : Prop := zIn u 300 ∧ u < S 0 9
def s_mmk (S : zMem) (d a : Int32) : Prop :=
  if d = 0 then S 12 3 = 0 ∧ 1 ≤ a ∧ a ≤ 20
  else if d = 1 then S 12 3 ≠ 0 ∧ s_mayAm S (zIx a)
  else if d = 2 then S 12 3 ≠ 0 ∧ 0 < zIx (S 4 8)
  else if d = 3 then 0 < a
  else if d = 4 then S 12 3 ≠ 0
  else if d = 5 then 0 < a
  else True
def s_mv (E S : zMem) (m d a : Int32) : Prop := (zIn d 8 ∧ 0 < E 4 (zIx d)) ∧ zIx (S 4 8) < 8 ∧
  (if d = 7 then ¬ zFi (S 5) 7 (zIx (S 4 8)) 0 < zIx (S 4 8) ∧ s_wk S (S 0 10) ∧ S 19 (zIx (S 0 10)) = 0
   else (S 1 5 = -1 ∨ S 1 5 = m) ∧ (zIx (S 4 8) = 0 ∨ E 4 (zIx (S 5 (zIx (S 4 8) - 1))) < E 4 (zIx d)) ∧ s_mmk S d a)
def s_dec (E S : zMem) (b : Int32) : Prop := 0 < zIx (S 4 8) ∧ S 10 (zIx (S 4 8) - 1) ≠ 0 ∧ S 11 (zIx (S 4 8) - 1) ≠ 0 ∧ yB (E 5 (zIx (S 5 (zIx (S 4 8) - 1))) = 3) = b
def s_ord (E S : zMem) (w m d a : Int32) : Prop :=
  if w = 2 then ¬ zFi (S 2) m (zIx (S 1 4)) 0 < zIx (S 1 4) ∧ S 1 5 ≠ m
  else if w = 3 then 0 < zIx (S 1 4) ∧ S 1 5 = -1
  else if w = 4 then True
  else if w = 5 then E 3 7 ≠ 0 ∧ S 1 5 ≠ -1 ∧ S 1 5 ≠ m ∧ S 1 7 = 0
  else if w = 6 then s_mv E S m d a
  else if w = 7 then 0 < zIx (S 4 8) ∧ S 10 (zIx (S 4 8) - 1) = 0 ∧ S 6 (zIx (S 4 8) - 1) ≠ m
  else if w = 8 then s_dec E S 0
  else if w = 9 then s_dec E S 1
  else True
def s_ofm (w : Int32) : Prop := w ≠ 3 ∧ w ≠ 4 ∧ w ≠ 8 ∧ w ≠ 9
noncomputable def s_rule (E S : zMem) (w m d a b : Int32) : Int32 :=
  zIf (¬ s_told S w m d a b) 1 (zIf (s_ofm w ∧ zT (s_in S m) = zT (w = 0)) 2 (zIf (w = 0 ∨ w = 1) 0 (zIf (S 0 15 ≠ 0) 3 (zIf (zBc (S 0 11) < E 3 5) 4 (zIf (0 < S 0 13 ∧ w ≠ 4) 5 (zIf (s_ord E S w m d a) 0 6))))))
def s_oth (E S : zMem) (w d r : Int32) : Prop := r = 0 ∨ (r = 6 ∧ ((w = 6 ∧ (zIn d 8 ∧ 0 < E 4 (zIx d)) ∧ zIx (S 4 8) < 8) ∨ (w = 5 ∧ S 1 5 ≠ -1)))
def s_carr (E : zMem) (k a b : Int32) : Prop :=
  if E 5 (zIx k) = 0 then ¬ 2 * zBc a ≤ zBc a + zBc b
  else if E 5 (zIx k) = 1 then ¬ 3 * zBc a < 2 * (zBc a + zBc b) ∧ ¬ zBc a ≤ 0
  else if E 5 (zIx k) = 2 then ¬ 4 * zBc a ≤ zBc a + zBc b
  else False
def s_carry (S : zMem) (k a b : Int32) : zMem :=
  if k = 0 then s_lay S (zIx a) b
  else if k = 1 then s_amend S (zIx a) b
  else if k = 2 then s_endDeb S
  else if k = 3 then (if a ≤ 0 then S else zUp S 0 12 a)
  else if k = 4 then zUp (s_away S) 4 8 0
  else if k = 5 then zUp S 0 13 a
  else if k = 6 then zUp (zUp S 0 15 1) 4 8 0
  else S
noncomputable def s_settle (S : zMem) (u : Int32) (c : Prop) : zMem := zIf (s_wk S u) (zUp (zUp S 19 (zIx u) 1) 18 (zIx u) (if S 18 (zIx u) = 0 then zT c else 1)) S
noncomputable def s_votes (E S : zMem) (k : Nat) (c : Prop) : zMem :=
  (fun (t : Nat) (S1 : zMem) => if S 5 t = 7 then s_settle S1 (S 9 t) c else zIf c (s_carry S1 (S 5 t) (S 7 t) (S 8 t)) S1) (zIx (S 4 8) - 1) (zUp (zUp S 4 8 (nI (zIx (S 4 8) - 1))) 17 k (zT c))
noncomputable def s_decide (E S : zMem) (k : Nat) (w a b : Int32) : zMem := s_votes E S k (if w = 9 then a = 1 else s_carr E (S 5 (zIx (S 4 8) - 1)) a b)
def s_ticks (S : zMem) (n : Int32) : zMem := zUp (s_spend (zUp S 0 14 (S 0 14 + n)) n) 0 13 (zMax 0 (S 0 13 - n))
noncomputable def s_do (E S : zMem) (k : Nat) (w m d a b : Int32) : zMem :=
  if w = 0 then zUp S 0 11 (S 0 11 ||| (1 <<< (m &&& 31)))
  else if w = 1 then s_drop (zUp S 0 11 (S 0 11 &&& ((1 <<< (m &&& 31)) ^^^ (-1)))) m
  else if w = 2 then s_ask S m
  else if w = 3 then s_deb (s_call E S (S 0 12))
  else if w = 4 then s_ticks S a
  else if w = 5 then s_yield S m
  else if w = 6 then s_push E S (zIx d) m a b (S 0 10)
  else if w = 7 then s_sec S
  else s_decide E S k w a b
def s_w1 (S : zMem) (k : Nat) (r : Int32) : zMem := zUp (zUp (zUp (zUp (zUp S 16 k r) 17 k (-1)) 18 k 0) 19 k 0) 0 9 (nI (k + 1))
noncomputable def s_step (E S : zMem) (k : Nat) (w m d a b r : Int32) : zMem := zIf (r = 0) (s_do E (s_w1 S k r) k w m d a b) (zIf (r = 6 ∧ (w = 6 ∨ w = 5)) (zUp (s_w1 S k r) 0 10 (nI k)) (s_w1 S k r))
