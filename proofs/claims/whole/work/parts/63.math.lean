/-! ===== the session as plain data: S j i is place i of cell j, cells as in the session's own order ===== -/
def yLo (j : Nat) : Nat := if j = 0 then 9 else if j = 1 then 4 else if j = 4 then 8 else if j = 12 then 3 else 0
def zHi (S : zMem) (j : Nat) : Nat := if j = 0 then 16 else if j = 1 then 8 else if j = 2 then zIx (S 1 4) else if j = 3 then 24 else if j = 4 then 9 else if j < 12 then zIx (S 4 8) else if j = 12 then 6 else if j < 16 then zIx (S 12 4) else zIx (S 0 9)
/-- the memory M holds, at the cells from f on, the n cells of S from a on -/
def zCR (a n f : Nat) (S M : zMem) : Prop := ∀ j i, j < n → yLo (a + j) ≤ i → i < zHi S (a + j) → M (f + j) i = S (a + j) i
abbrev zCF (f : Nat) (S M : zMem) : Prop := zCR 1 3 f S M
abbrev zCM (f : Nat) (S M : zMem) : Prop := zCR 4 8 f S M
abbrev zCP (f : Nat) (S M : zMem) : Prop := zCR 12 4 f S M
theorem zCF_1 {f : Nat} {S M : zMem} (h : zCF f S M) {i : Nat} (h1 : 4 ≤ i) (h2 : i < 8) : M f i = S 1 i := h 0 i (by omega) h1 h2
theorem zCF_q {f : Nat} {S M : zMem} (h : zCF f S M) {i : Nat} (h2 : i < zIx (S 1 4)) : M (f + 1) i = S 2 i := h 1 i (by omega) (Nat.zero_le _) h2
theorem zCF_s {f : Nat} {S M : zMem} (h : zCF f S M) {i : Nat} (h2 : i < 24) : M (f + 2) i = S 3 i := h 2 i (by omega) (Nat.zero_le _) h2
theorem zCF_of {f : Nat} {S M : zMem} (h1 : ∀ i, 4 ≤ i → i < 8 → M f i = S 1 i) (h2 : ∀ i, i < zIx (S 1 4) → M (f + 1) i = S 2 i) (h3 : ∀ i, i < 24 → M (f + 2) i = S 3 i) : zCF f S M := by
  intro j i hj hl hh
  rcases (by omega : j = 0 ∨ j = 1 ∨ j = 2) with e | e | e
  · subst e; exact h1 i hl hh
  · subst e; exact h2 i hh
  · subst e; exact h3 i hh
theorem zCM_8 {f : Nat} {S M : zMem} (h : zCM f S M) : M f 8 = S 4 8 := h 0 8 (by omega) (Nat.le_refl _) (Nat.lt_succ_self 8)
theorem zCM_c {f : Nat} {S M : zMem} (h : zCM f S M) {i : Nat} (j : Nat) (h1 : 1 ≤ j) (h3 : j < 8) (h2 : i < zIx (S 4 8)) : M (f + j) i = S (4 + j) i := by
  rcases (by omega : j = 1 ∨ j = 2 ∨ j = 3 ∨ j = 4 ∨ j = 5 ∨ j = 6 ∨ j = 7) with e | e | e | e | e | e | e <;> (subst e; exact h _ i (by omega) (Nat.zero_le _) h2)
theorem zCM_of {f : Nat} {S M : zMem} (h1 : M f 8 = S 4 8) (h2 : ∀ j i, 1 ≤ j → j < 8 → i < zIx (S 4 8) → M (f + j) i = S (4 + j) i) : zCM f S M := by
  intro j i hj hl hh
  rcases (by omega : j = 0 ∨ j = 1 ∨ j = 2 ∨ j = 3 ∨ j = 4 ∨ j = 5 ∨ j = 6 ∨ j = 7) with e | e | e | e | e | e | e | e
  · subst e
    have a1 : 8 ≤ i := hl
    have a2 : i < 9 := hh
    have : i = 8 := by omega
    subst this
    exact h1
  all_goals (subst e; exact h2 _ i (by omega) (by omega) hh)
theorem zCP_0 {f : Nat} {S M : zMem} (h : zCP f S M) {i : Nat} (h1 : 3 ≤ i) (h2 : i < 6) : M f i = S 12 i := h 0 i (by omega) h1 h2
theorem zCP_c {f : Nat} {S M : zMem} (h : zCP f S M) {i : Nat} (j : Nat) (h1 : 1 ≤ j) (h3 : j < 4) (h2 : i < zIx (S 12 4)) : M (f + j) i = S (12 + j) i := by
  rcases (by omega : j = 1 ∨ j = 2 ∨ j = 3) with e | e | e <;> (subst e; exact h _ i (by omega) (Nat.zero_le _) h2)
theorem zCP_of {f : Nat} {S M : zMem} (h1 : ∀ i, 3 ≤ i → i < 6 → M f i = S 12 i) (h2 : ∀ j i, 1 ≤ j → j < 4 → i < zIx (S 12 4) → M (f + j) i = S (12 + j) i) : zCP f S M := by
  intro j i hj hl hh
  rcases (by omega : j = 0 ∨ j = 1 ∨ j = 2 ∨ j = 3) with e | e | e | e
  · subst e; exact h1 i hl hh
  all_goals (subst e; exact h2 _ i (by omega) (by omega) hh)
/-- nothing but the n cells from f on is changed -/
def yFr (f n : Nat) (M M' : zMem) : Prop := ∀ c, c < f ∨ f + n ≤ c → M' c = M c
theorem yFr_r {f n : Nat} {M : zMem} : yFr f n M M := fun _ _ => rfl
theorem yFr_t {f n : Nat} {M M1 M2 : zMem} (h1 : yFr f n M M1) (h2 : yFr f n M1 M2) : yFr f n M M2 := fun c hc => (h2 c hc).trans (h1 c hc)
theorem yFr_u {f n : Nat} {M M1 : zMem} {c i : Nat} {v : Int32} (h : yFr f n M M1) (h1 : f ≤ c) (h2 : c < f + n) : yFr f n M (zUp M1 c i v) := fun a ha => (zUp_off (by omega)).trans (h a ha)
theorem yFr_m {f n g k : Nat} {M M' : zMem} (h : yFr f n M M') (h1 : g ≤ f) (h2 : f + n ≤ g + k) : yFr g k M M' := fun c hc => h c (by omega)
/-! the floor -/
def s_free (S : zMem) : zMem := zUp (zUp (zUp S 1 5 (-1)) 1 6 0) 1 7 0
def s_deq (S : zMem) (p : Nat) : zMem := yPc (zUp S 1 4 (nI (zIx (S 1 4) - 1))) 2 (fun i => if i < p then S 2 i else S 2 (i + 1))
def s_lv (S : zMem) (u : Int32) : zMem := if zFi (S 2) u (zIx (S 1 4)) 0 < zIx (S 1 4) then s_deq S (zFi (S 2) u (zIx (S 1 4)) 0) else S
def s_drop (S : zMem) (u : Int32) : zMem := if S 1 5 = u then s_free (s_lv S u) else s_lv S u
def s_ask (S : zMem) (u : Int32) : zMem := zUp (zUp S 2 (zIx (S 1 4)) u) 1 4 (nI (zIx (S 1 4) + 1))
def s_spk (E S : zMem) (m : Nat) : Int32 := if E 3 6 = 0 then S 3 m else zSum (fun k => if E 14 k = E 14 m then S 3 k else 0) 24
def s_nx (E S : zMem) (n : Nat) : Nat := zNx (fun i => s_spk E S (zIx (S 2 i))) n
def s_call (E S : zMem) (t : Int32) : zMem := zUp (zUp (zUp (zUp (s_deq S (s_nx E S (zIx (S 1 4)))) 1 5 (S 2 (s_nx E S (zIx (S 1 4))))) 1 6 t) 1 7 0) 3 (zIx (S 2 (s_nx E S (zIx (S 1 4))))) (S 3 (zIx (S 2 (s_nx E S (zIx (S 1 4))))) + 1)
def s_yield (S : zMem) (u : Int32) : zMem := zUp (zUp S 1 5 u) 1 7 1
def s_spend (S : zMem) (n : Int32) : zMem := if zMax 0 (S 1 6 - n) = 0 then s_free (zUp S 1 6 (zMax 0 (S 1 6 - n))) else zUp S 1 6 (zMax 0 (S 1 6 - n))
/-- the floor as it must be -/
def zWF (S : zMem) (n : Nat) : Prop := S 1 4 = nI n ∧ n ≤ 24 ∧ (∀ i, i < n → zIn (S 2 i) 24) ∧ (∀ i j, i < j → j < n → S 2 i ≠ S 2 j)
