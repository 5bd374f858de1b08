theorem zle {a b : Nat} (h : Nat.ble a b = true) : a ≤ b := Nat.le_of_ble_eq_true h
theorem zlt {a b : Nat} (h : Nat.ble (a + 1) b = true) : a < b := Nat.le_of_ble_eq_true h
section ZQ
variable {w : zWD}
theorem zR_0_0 {o : Nat} (h : zKd w o = (0, 8)) : zRf o 0 = 3 :=
  (by decide +kernel : ∀ o, o < zNB → zKd0 o = (0, 8) → zRf o 0 = 3) o (zKd0_nb (zKd_live h (by omega)).2 (by omega) (by omega)) (zKd_live h (by omega)).2
theorem zQ_0_0 (K : zClo w) {o : Nat} (h : zKd w o = (0, 8)) : zKd w (3) = (6, 8) := zQ K h (by omega) (by omega) rfl (zR_0_0 h) (by decide +kernel)
theorem zR_0_1 {o : Nat} (h : zKd w o = (0, 8)) : zRf o 1 = 14 :=
  (by decide +kernel : ∀ o, o < zNB → zKd0 o = (0, 8) → zRf o 1 = 14) o (zKd0_nb (zKd_live h (by omega)).2 (by omega) (by omega)) (zKd_live h (by omega)).2
theorem zQ_0_1 (K : zClo w) {o : Nat} (h : zKd w o = (0, 8)) : zKd w (14) = (12, 24) := zQ K h (by omega) (by omega) rfl (zR_0_1 h) (by decide +kernel)
theorem zR_0_2 {o : Nat} (h : zKd w o = (0, 8)) : zRf o 2 = o + 1 :=
  (by decide +kernel : ∀ o, o < zNB → zKd0 o = (0, 8) → zRf o 2 = o + 1) o (zKd0_nb (zKd_live h (by omega)).2 (by omega) (by omega)) (zKd_live h (by omega)).2
theorem zQ_0_2 (K : zClo w) {o : Nat} (h : zKd w o = (0, 8)) : zKd w (o + 1) = (12, 24) := zQ K h (by omega) (by omega) rfl (zR_0_2 h) ((by decide +kernel : ∀ o, o < zNB → zKd0 o = (0, 8) → zKd0 (o + 1) = (12, 24)) o (zKd0_nb (zKd_live h (by omega)).2 (by omega) (by omega)) (zKd_live h (by omega)).2)
theorem zR_0_3 {o : Nat} (h : zKd w o = (0, 8)) : zRf o 3 = o + 2 :=
  (by decide +kernel : ∀ o, o < zNB → zKd0 o = (0, 8) → zRf o 3 = o + 2) o (zKd0_nb (zKd_live h (by omega)).2 (by omega) (by omega)) (zKd_live h (by omega)).2
theorem zQ_0_3 (K : zClo w) {o : Nat} (h : zKd w o = (0, 8)) : zKd w (o + 2) = (12, 24) := zQ K h (by omega) (by omega) rfl (zR_0_3 h) ((by decide +kernel : ∀ o, o < zNB → zKd0 o = (0, 8) → zKd0 (o + 2) = (12, 24)) o (zKd0_nb (zKd_live h (by omega)).2 (by omega) (by omega)) (zKd_live h (by omega)).2)
theorem zR_1_0 (_ : zKd w 64 = (1, 4)) : zRf 64 0 = 14 := by decide +kernel
theorem zQ_1_0 (K : zClo w) (h : zKd w 64 = (1, 4)) : zKd w 14 = (12, 24) := zQ K h (by omega) (by omega) rfl (zR_1_0 h) (by decide +kernel)
theorem zR_1_1 (_ : zKd w 64 = (1, 4)) : zRf 64 1 = 65 := by decide +kernel
theorem zQ_1_1 (K : zClo w) (h : zKd w 64 = (1, 4)) : zKd w 65 = (12, 6) := zQ K h (by omega) (by omega) rfl (zR_1_1 h) (by decide +kernel)
theorem zR_1_2 (_ : zKd w 64 = (1, 4)) : zRf 64 2 = 66 := by decide +kernel
theorem zQ_1_2 (K : zClo w) (h : zKd w 64 = (1, 4)) : zKd w 66 = (19, 6) := zQ K h (by omega) (by omega) rfl (zR_1_2 h) (by decide +kernel)
theorem zR_1_3 (_ : zKd w 64 = (1, 4)) : zRf 64 3 = 73 := by decide +kernel
theorem zQ_1_3 (K : zClo w) (h : zKd w 64 = (1, 4)) : zKd w 73 = (12, 24) := zQ K h (by omega) (by omega) rfl (zR_1_3 h) (by decide +kernel)
theorem zR_2_0 (_ : zKd w 15 = (2, 6)) : zRf 15 0 = 16 := by decide +kernel
theorem zQ_2_0 (K : zClo w) (h : zKd w 15 = (2, 6)) : zKd w 16 = (12, 300) := zQ K h (by omega) (by omega) rfl (zR_2_0 h) (by decide +kernel)
theorem zR_2_1 (_ : zKd w 15 = (2, 6)) : zRf 15 1 = 17 := by decide +kernel
theorem zQ_2_1 (K : zClo w) (h : zKd w 15 = (2, 6)) : zKd w 17 = (12, 300) := zQ K h (by omega) (by omega) rfl (zR_2_1 h) (by decide +kernel)
theorem zR_2_2 (_ : zKd w 15 = (2, 6)) : zRf 15 2 = 18 := by decide +kernel
theorem zQ_2_2 (K : zClo w) (h : zKd w 15 = (2, 6)) : zKd w 18 = (12, 300) := zQ K h (by omega) (by omega) rfl (zR_2_2 h) (by decide +kernel)
theorem zR_2_3 (_ : zKd w 15 = (2, 6)) : zRf 15 3 = 19 := by decide +kernel
theorem zQ_2_3 (K : zClo w) (h : zKd w 15 = (2, 6)) : zKd w 19 = (12, 300) := zQ K h (by omega) (by omega) rfl (zR_2_3 h) (by decide +kernel)
theorem zR_2_4 (_ : zKd w 15 = (2, 6)) : zRf 15 4 = 20 := by decide +kernel
theorem zQ_2_4 (K : zClo w) (h : zKd w 15 = (2, 6)) : zKd w 20 = (12, 300) := zQ K h (by omega) (by omega) rfl (zR_2_4 h) (by decide +kernel)
theorem zR_3_0 {o : Nat} (h : zKd w o = (3, 9)) : zRf o 0 = 3 :=
  (by decide +kernel : ∀ o, o < zNB → zKd0 o = (3, 9) → zRf o 0 = 3) o (zKd0_nb (zKd_live h (by omega)).2 (by omega) (by omega)) (zKd_live h (by omega)).2
theorem zQ_3_0 (K : zClo w) {o : Nat} (h : zKd w o = (3, 9)) : zKd w (3) = (6, 8) := zQ K h (by omega) (by omega) rfl (zR_3_0 h) (by decide +kernel)
theorem zR_3_1 {o : Nat} (h : zKd w o = (3, 9)) : zRf o 1 = o + 1 :=
  (by decide +kernel : ∀ o, o < zNB → zKd0 o = (3, 9) → zRf o 1 = o + 1) o (zKd0_nb (zKd_live h (by omega)).2 (by omega) (by omega)) (zKd_live h (by omega)).2
theorem zQ_3_1 (K : zClo w) {o : Nat} (h : zKd w o = (3, 9)) : zKd w (o + 1) = (12, 8) := zQ K h (by omega) (by omega) rfl (zR_3_1 h) ((by decide +kernel : ∀ o, o < zNB → zKd0 o = (3, 9) → zKd0 (o + 1) = (12, 8)) o (zKd0_nb (zKd_live h (by omega)).2 (by omega) (by omega)) (zKd_live h (by omega)).2)
theorem zR_3_2 {o : Nat} (h : zKd w o = (3, 9)) : zRf o 2 = o + 2 :=
  (by decide +kernel : ∀ o, o < zNB → zKd0 o = (3, 9) → zRf o 2 = o + 2) o (zKd0_nb (zKd_live h (by omega)).2 (by omega) (by omega)) (zKd_live h (by omega)).2
theorem zQ_3_2 (K : zClo w) {o : Nat} (h : zKd w o = (3, 9)) : zKd w (o + 2) = (12, 8) := zQ K h (by omega) (by omega) rfl (zR_3_2 h) ((by decide +kernel : ∀ o, o < zNB → zKd0 o = (3, 9) → zKd0 (o + 2) = (12, 8)) o (zKd0_nb (zKd_live h (by omega)).2 (by omega) (by omega)) (zKd_live h (by omega)).2)
theorem zR_3_3 {o : Nat} (h : zKd w o = (3, 9)) : zRf o 3 = o + 3 :=
  (by decide +kernel : ∀ o, o < zNB → zKd0 o = (3, 9) → zRf o 3 = o + 3) o (zKd0_nb (zKd_live h (by omega)).2 (by omega) (by omega)) (zKd_live h (by omega)).2
theorem zQ_3_3 (K : zClo w) {o : Nat} (h : zKd w o = (3, 9)) : zKd w (o + 3) = (12, 8) := zQ K h (by omega) (by omega) rfl (zR_3_3 h) ((by decide +kernel : ∀ o, o < zNB → zKd0 o = (3, 9) → zKd0 (o + 3) = (12, 8)) o (zKd0_nb (zKd_live h (by omega)).2 (by omega) (by omega)) (zKd_live h (by omega)).2)
theorem zR_3_4 {o : Nat} (h : zKd w o = (3, 9)) : zRf o 4 = o + 4 :=
  (by decide +kernel : ∀ o, o < zNB → zKd0 o = (3, 9) → zRf o 4 = o + 4) o (zKd0_nb (zKd_live h (by omega)).2 (by omega) (by omega)) (zKd_live h (by omega)).2
theorem zQ_3_4 (K : zClo w) {o : Nat} (h : zKd w o = (3, 9)) : zKd w (o + 4) = (12, 8) := zQ K h (by omega) (by omega) rfl (zR_3_4 h) ((by decide +kernel : ∀ o, o < zNB → zKd0 o = (3, 9) → zKd0 (o + 4) = (12, 8)) o (zKd0_nb (zKd_live h (by omega)).2 (by omega) (by omega)) (zKd_live h (by omega)).2)
theorem zR_3_5 {o : Nat} (h : zKd w o = (3, 9)) : zRf o 5 = o + 5 :=
  (by decide +kernel : ∀ o, o < zNB → zKd0 o = (3, 9) → zRf o 5 = o + 5) o (zKd0_nb (zKd_live h (by omega)).2 (by omega) (by omega)) (zKd_live h (by omega)).2
theorem zQ_3_5 (K : zClo w) {o : Nat} (h : zKd w o = (3, 9)) : zKd w (o + 5) = (12, 8) := zQ K h (by omega) (by omega) rfl (zR_3_5 h) ((by decide +kernel : ∀ o, o < zNB → zKd0 o = (3, 9) → zKd0 (o + 5) = (12, 8)) o (zKd0_nb (zKd_live h (by omega)).2 (by omega) (by omega)) (zKd_live h (by omega)).2)
theorem zR_3_6 {o : Nat} (h : zKd w o = (3, 9)) : zRf o 6 = o + 6 :=
  (by decide +kernel : ∀ o, o < zNB → zKd0 o = (3, 9) → zRf o 6 = o + 6) o (zKd0_nb (zKd_live h (by omega)).2 (by omega) (by omega)) (zKd_live h (by omega)).2
theorem zQ_3_6 (K : zClo w) {o : Nat} (h : zKd w o = (3, 9)) : zKd w (o + 6) = (13, 8) := zQ K h (by omega) (by omega) rfl (zR_3_6 h) ((by decide +kernel : ∀ o, o < zNB → zKd0 o = (3, 9) → zKd0 (o + 6) = (13, 8)) o (zKd0_nb (zKd_live h (by omega)).2 (by omega) (by omega)) (zKd_live h (by omega)).2)
theorem zR_3_7 {o : Nat} (h : zKd w o = (3, 9)) : zRf o 7 = o + 7 :=
  (by decide +kernel : ∀ o, o < zNB → zKd0 o = (3, 9) → zRf o 7 = o + 7) o (zKd0_nb (zKd_live h (by omega)).2 (by omega) (by omega)) (zKd_live h (by omega)).2
theorem zQ_3_7 (K : zClo w) {o : Nat} (h : zKd w o = (3, 9)) : zKd w (o + 7) = (13, 8) := zQ K h (by omega) (by omega) rfl (zR_3_7 h) ((by decide +kernel : ∀ o, o < zNB → zKd0 o = (3, 9) → zKd0 (o + 7) = (13, 8)) o (zKd0_nb (zKd_live h (by omega)).2 (by omega) (by omega)) (zKd_live h (by omega)).2)
theorem zR_4_0 {o : Nat} (h : zKd w o = (4, 6)) : zRf o 0 = o + 1 :=
  (by decide +kernel : ∀ o, o < zNB → zKd0 o = (4, 6) → zRf o 0 = o + 1) o (zKd0_nb (zKd_live h (by omega)).2 (by omega) (by omega)) (zKd_live h (by omega)).2
theorem zQ_4_0 (K : zClo w) {o : Nat} (h : zKd w o = (4, 6)) : zKd w (o + 1) = (12, 320) := zQ K h (by omega) (by omega) rfl (zR_4_0 h) ((by decide +kernel : ∀ o, o < zNB → zKd0 o = (4, 6) → zKd0 (o + 1) = (12, 320)) o (zKd0_nb (zKd_live h (by omega)).2 (by omega) (by omega)) (zKd_live h (by omega)).2)
theorem zR_4_1 {o : Nat} (h : zKd w o = (4, 6)) : zRf o 1 = o + 2 :=
  (by decide +kernel : ∀ o, o < zNB → zKd0 o = (4, 6) → zRf o 1 = o + 2) o (zKd0_nb (zKd_live h (by omega)).2 (by omega) (by omega)) (zKd_live h (by omega)).2
theorem zQ_4_1 (K : zClo w) {o : Nat} (h : zKd w o = (4, 6)) : zKd w (o + 2) = (12, 320) := zQ K h (by omega) (by omega) rfl (zR_4_1 h) ((by decide +kernel : ∀ o, o < zNB → zKd0 o = (4, 6) → zKd0 (o + 2) = (12, 320)) o (zKd0_nb (zKd_live h (by omega)).2 (by omega) (by omega)) (zKd_live h (by omega)).2)
theorem zR_4_2 {o : Nat} (h : zKd w o = (4, 6)) : zRf o 2 = o + 3 :=
  (by decide +kernel : ∀ o, o < zNB → zKd0 o = (4, 6) → zRf o 2 = o + 3) o (zKd0_nb (zKd_live h (by omega)).2 (by omega) (by omega)) (zKd_live h (by omega)).2
theorem zQ_4_2 (K : zClo w) {o : Nat} (h : zKd w o = (4, 6)) : zKd w (o + 3) = (12, 320) := zQ K h (by omega) (by omega) rfl (zR_4_2 h) ((by decide +kernel : ∀ o, o < zNB → zKd0 o = (4, 6) → zKd0 (o + 3) = (12, 320)) o (zKd0_nb (zKd_live h (by omega)).2 (by omega) (by omega)) (zKd_live h (by omega)).2)
theorem zR_5_0 (_ : zKd w 13 = (5, 5)) : zRf 13 0 = 1 := by decide +kernel
theorem zQ_5_0 (K : zClo w) (h : zKd w 13 = (5, 5)) : zKd w 1 = (8, 2) := zQ K h (by omega) (by omega) rfl (zR_5_0 h) (by decide +kernel)
theorem zR_5_1 (_ : zKd w 13 = (5, 5)) : zRf 13 1 = 8 := by decide +kernel
theorem zQ_5_1 (K : zClo w) (h : zKd w 13 = (5, 5)) : zKd w 8 = (6, 8) := zQ K h (by omega) (by omega) rfl (zR_5_1 h) (by decide +kernel)
theorem zR_6_0 {o : Nat} (h : zKd w o = (6, 8)) : zRf o 0 = o + 1 :=
  (by decide +kernel : ∀ o, o < zNB → zKd0 o = (6, 8) → zRf o 0 = o + 1) o (zKd0_nb (zKd_live h (by omega)).2 (by omega) (by omega)) (zKd_live h (by omega)).2
theorem zQ_6_0 (K : zClo w) {o : Nat} (h : zKd w o = (6, 8)) : zKd w (o + 1) = (12, 8) := zQ K h (by omega) (by omega) rfl (zR_6_0 h) ((by decide +kernel : ∀ o, o < zNB → zKd0 o = (6, 8) → zKd0 (o + 1) = (12, 8)) o (zKd0_nb (zKd_live h (by omega)).2 (by omega) (by omega)) (zKd_live h (by omega)).2)
theorem zR_6_1 {o : Nat} (h : zKd w o = (6, 8)) : zRf o 1 = o + 2 :=
  (by decide +kernel : ∀ o, o < zNB → zKd0 o = (6, 8) → zRf o 1 = o + 2) o (zKd0_nb (zKd_live h (by omega)).2 (by omega) (by omega)) (zKd_live h (by omega)).2
theorem zQ_6_1 (K : zClo w) {o : Nat} (h : zKd w o = (6, 8)) : zKd w (o + 2) = (12, 8) := zQ K h (by omega) (by omega) rfl (zR_6_1 h) ((by decide +kernel : ∀ o, o < zNB → zKd0 o = (6, 8) → zKd0 (o + 2) = (12, 8)) o (zKd0_nb (zKd_live h (by omega)).2 (by omega) (by omega)) (zKd_live h (by omega)).2)
theorem zR_6_2 {o : Nat} (h : zKd w o = (6, 8)) : zRf o 2 = o + 3 :=
  (by decide +kernel : ∀ o, o < zNB → zKd0 o = (6, 8) → zRf o 2 = o + 3) o (zKd0_nb (zKd_live h (by omega)).2 (by omega) (by omega)) (zKd_live h (by omega)).2
theorem zQ_6_2 (K : zClo w) {o : Nat} (h : zKd w o = (6, 8)) : zKd w (o + 3) = (13, 8) := zQ K h (by omega) (by omega) rfl (zR_6_2 h) ((by decide +kernel : ∀ o, o < zNB → zKd0 o = (6, 8) → zKd0 (o + 3) = (13, 8)) o (zKd0_nb (zKd_live h (by omega)).2 (by omega) (by omega)) (zKd_live h (by omega)).2)
theorem zR_6_3 {o : Nat} (h : zKd w o = (6, 8)) : zRf o 3 = o + 4 :=
  (by decide +kernel : ∀ o, o < zNB → zKd0 o = (6, 8) → zRf o 3 = o + 4) o (zKd0_nb (zKd_live h (by omega)).2 (by omega) (by omega)) (zKd_live h (by omega)).2
theorem zQ_6_3 (K : zClo w) {o : Nat} (h : zKd w o = (6, 8)) : zKd w (o + 4) = (13, 8) := zQ K h (by omega) (by omega) rfl (zR_6_3 h) ((by decide +kernel : ∀ o, o < zNB → zKd0 o = (6, 8) → zKd0 (o + 4) = (13, 8)) o (zKd0_nb (zKd_live h (by omega)).2 (by omega) (by omega)) (zKd_live h (by omega)).2)
theorem zR_7_0 {o : Nat} (h : zKd w o = (7, 16)) : zRf o 0 = 3 :=
  (by decide +kernel : ∀ o, o < zNB → zKd0 o = (7, 16) → zRf o 0 = 3) o (zKd0_nb (zKd_live h (by omega)).2 (by omega) (by omega)) (zKd_live h (by omega)).2
theorem zQ_7_0 (K : zClo w) {o : Nat} (h : zKd w o = (7, 16)) : zKd w (3) = (6, 8) := zQ K h (by omega) (by omega) rfl (zR_7_0 h) (by decide +kernel)
theorem zR_7_1 {o : Nat} (h : zKd w o = (7, 16)) : zRf o 1 = 15 :=
  (by decide +kernel : ∀ o, o < zNB → zKd0 o = (7, 16) → zRf o 1 = 15) o (zKd0_nb (zKd_live h (by omega)).2 (by omega) (by omega)) (zKd_live h (by omega)).2
theorem zQ_7_1 (K : zClo w) {o : Nat} (h : zKd w o = (7, 16)) : zKd w (15) = (2, 6) := zQ K h (by omega) (by omega) rfl (zR_7_1 h) (by decide +kernel)
theorem zR_7_2 {o : Nat} (h : zKd w o = (7, 16)) : zRf o 2 = o + 1 :=
  (by decide +kernel : ∀ o, o < zNB → zKd0 o = (7, 16) → zRf o 2 = o + 1) o (zKd0_nb (zKd_live h (by omega)).2 (by omega) (by omega)) (zKd_live h (by omega)).2
theorem zQ_7_2 (K : zClo w) {o : Nat} (h : zKd w o = (7, 16)) : zKd w (o + 1) = (0, 8) := zQ K h (by omega) (by omega) rfl (zR_7_2 h) ((by decide +kernel : ∀ o, o < zNB → zKd0 o = (7, 16) → zKd0 (o + 1) = (0, 8)) o (zKd0_nb (zKd_live h (by omega)).2 (by omega) (by omega)) (zKd_live h (by omega)).2)
theorem zR_7_3 {o : Nat} (h : zKd w o = (7, 16)) : zRf o 3 = o + 4 :=
  (by decide +kernel : ∀ o, o < zNB → zKd0 o = (7, 16) → zRf o 3 = o + 4) o (zKd0_nb (zKd_live h (by omega)).2 (by omega) (by omega)) (zKd_live h (by omega)).2
theorem zQ_7_3 (K : zClo w) {o : Nat} (h : zKd w o = (7, 16)) : zKd w (o + 4) = (3, 9) := zQ K h (by omega) (by omega) rfl (zR_7_3 h) ((by decide +kernel : ∀ o, o < zNB → zKd0 o = (7, 16) → zKd0 (o + 4) = (3, 9)) o (zKd0_nb (zKd_live h (by omega)).2 (by omega) (by omega)) (zKd_live h (by omega)).2)
theorem zR_7_4 {o : Nat} (h : zKd w o = (7, 16)) : zRf o 4 = o + 12 :=
  (by decide +kernel : ∀ o, o < zNB → zKd0 o = (7, 16) → zRf o 4 = o + 12) o (zKd0_nb (zKd_live h (by omega)).2 (by omega) (by omega)) (zKd_live h (by omega)).2
theorem zQ_7_4 (K : zClo w) {o : Nat} (h : zKd w o = (7, 16)) : zKd w (o + 12) = (4, 6) := zQ K h (by omega) (by omega) rfl (zR_7_4 h) ((by decide +kernel : ∀ o, o < zNB → zKd0 o = (7, 16) → zKd0 (o + 12) = (4, 6)) o (zKd0_nb (zKd_live h (by omega)).2 (by omega) (by omega)) (zKd_live h (by omega)).2)
theorem zR_7_5 {o : Nat} (h : zKd w o = (7, 16)) : zRf o 5 = o + 16 :=
  (by decide +kernel : ∀ o, o < zNB → zKd0 o = (7, 16) → zRf o 5 = o + 16) o (zKd0_nb (zKd_live h (by omega)).2 (by omega) (by omega)) (zKd_live h (by omega)).2
theorem zQ_7_5 (K : zClo w) {o : Nat} (h : zKd w o = (7, 16)) : zKd w (o + 16) = (12, 300) := zQ K h (by omega) (by omega) rfl (zR_7_5 h) ((by decide +kernel : ∀ o, o < zNB → zKd0 o = (7, 16) → zKd0 (o + 16) = (12, 300)) o (zKd0_nb (zKd_live h (by omega)).2 (by omega) (by omega)) (zKd_live h (by omega)).2)
theorem zR_7_6 {o : Nat} (h : zKd w o = (7, 16)) : zRf o 6 = o + 17 :=
  (by decide +kernel : ∀ o, o < zNB → zKd0 o = (7, 16) → zRf o 6 = o + 17) o (zKd0_nb (zKd_live h (by omega)).2 (by omega) (by omega)) (zKd_live h (by omega)).2
theorem zQ_7_6 (K : zClo w) {o : Nat} (h : zKd w o = (7, 16)) : zKd w (o + 17) = (12, 300) := zQ K h (by omega) (by omega) rfl (zR_7_6 h) ((by decide +kernel : ∀ o, o < zNB → zKd0 o = (7, 16) → zKd0 (o + 17) = (12, 300)) o (zKd0_nb (zKd_live h (by omega)).2 (by omega) (by omega)) (zKd_live h (by omega)).2)
theorem zR_7_7 {o : Nat} (h : zKd w o = (7, 16)) : zRf o 7 = o + 18 :=
  (by decide +kernel : ∀ o, o < zNB → zKd0 o = (7, 16) → zRf o 7 = o + 18) o (zKd0_nb (zKd_live h (by omega)).2 (by omega) (by omega)) (zKd_live h (by omega)).2
theorem zQ_7_7 (K : zClo w) {o : Nat} (h : zKd w o = (7, 16)) : zKd w (o + 18) = (13, 300) := zQ K h (by omega) (by omega) rfl (zR_7_7 h) ((by decide +kernel : ∀ o, o < zNB → zKd0 o = (7, 16) → zKd0 (o + 18) = (13, 300)) o (zKd0_nb (zKd_live h (by omega)).2 (by omega) (by omega)) (zKd_live h (by omega)).2)
theorem zR_7_8 {o : Nat} (h : zKd w o = (7, 16)) : zRf o 8 = o + 19 :=
  (by decide +kernel : ∀ o, o < zNB → zKd0 o = (7, 16) → zRf o 8 = o + 19) o (zKd0_nb (zKd_live h (by omega)).2 (by omega) (by omega)) (zKd_live h (by omega)).2
theorem zQ_7_8 (K : zClo w) {o : Nat} (h : zKd w o = (7, 16)) : zKd w (o + 19) = (13, 300) := zQ K h (by omega) (by omega) rfl (zR_7_8 h) ((by decide +kernel : ∀ o, o < zNB → zKd0 o = (7, 16) → zKd0 (o + 19) = (13, 300)) o (zKd0_nb (zKd_live h (by omega)).2 (by omega) (by omega)) (zKd_live h (by omega)).2)
theorem zR_8_0 (_ : zKd w 1 = (8, 2)) : zRf 1 0 = 2 := by decide +kernel
theorem zQ_8_0 (K : zClo w) (h : zKd w 1 = (8, 2)) : zKd w 2 = (11, 600) := zQ K h (by omega) (by omega) rfl (zR_8_0 h) (by decide +kernel)
theorem zR_9_0 (_ : zKd w 0 = (9, 10)) : zRf 0 0 = 1 := by decide +kernel
theorem zQ_9_0 (K : zClo w) (h : zKd w 0 = (9, 10)) : zKd w 1 = (8, 2) := zQ K h (by omega) (by omega) rfl (zR_9_0 h) (by decide +kernel)
theorem zR_9_1 (_ : zKd w 0 = (9, 10)) : zRf 0 1 = 3 := by decide +kernel
theorem zQ_9_1 (K : zClo w) (h : zKd w 0 = (9, 10)) : zKd w 3 = (6, 8) := zQ K h (by omega) (by omega) rfl (zR_9_1 h) (by decide +kernel)
theorem zR_9_2 (_ : zKd w 0 = (9, 10)) : zRf 0 2 = 8 := by decide +kernel
theorem zQ_9_2 (K : zClo w) (h : zKd w 0 = (9, 10)) : zKd w 8 = (6, 8) := zQ K h (by omega) (by omega) rfl (zR_9_2 h) (by decide +kernel)
theorem zR_9_3 (_ : zKd w 0 = (9, 10)) : zRf 0 3 = 13 := by decide +kernel
theorem zQ_9_3 (K : zClo w) (h : zKd w 0 = (9, 10)) : zKd w 13 = (5, 5) := zQ K h (by omega) (by omega) rfl (zR_9_3 h) (by decide +kernel)
theorem zR_9_4 (_ : zKd w 0 = (9, 10)) : zRf 0 4 = 14 := by decide +kernel
theorem zQ_9_4 (K : zClo w) (h : zKd w 0 = (9, 10)) : zKd w 14 = (12, 24) := zQ K h (by omega) (by omega) rfl (zR_9_4 h) (by decide +kernel)
theorem zR_9_5 (_ : zKd w 0 = (9, 10)) : zRf 0 5 = 15 := by decide +kernel
theorem zQ_9_5 (K : zClo w) (h : zKd w 0 = (9, 10)) : zKd w 15 = (2, 6) := zQ K h (by omega) (by omega) rfl (zR_9_5 h) (by decide +kernel)
theorem zR_9_6 (_ : zKd w 0 = (9, 10)) : zRf 0 6 = 21 := by decide +kernel
theorem zQ_9_6 (K : zClo w) (h : zKd w 0 = (9, 10)) : zKd w 21 = (7, 16) := zQ K h (by omega) (by omega) rfl (zR_9_6 h) (by decide +kernel)
theorem zR_9_7 (_ : zKd w 0 = (9, 10)) : zRf 0 7 = 41 := by decide +kernel
theorem zQ_9_7 (K : zClo w) (h : zKd w 0 = (9, 10)) : zKd w 41 = (7, 16) := zQ K h (by omega) (by omega) rfl (zR_9_7 h) (by decide +kernel)
theorem zR_9_8 (_ : zKd w 0 = (9, 10)) : zRf 0 8 = 61 := by decide +kernel
theorem zQ_9_8 (K : zClo w) (h : zKd w 0 = (9, 10)) : zKd w 61 = (0, 8) := zQ K h (by omega) (by omega) rfl (zR_9_8 h) (by decide +kernel)
theorem zR_9_9 (_ : zKd w 0 = (9, 10)) : zRf 0 9 = 64 := by decide +kernel
theorem zQ_9_9 (K : zClo w) (h : zKd w 0 = (9, 10)) : zKd w 64 = (1, 4) := zQ K h (by omega) (by omega) rfl (zR_9_9 h) (by decide +kernel)
theorem zR_10_1 (_ : zKd w 74 = (10, 61)) : zRf 74 1 = 75 := by decide +kernel
theorem zQ_10_1 (K : zClo w) (h : zKd w 74 = (10, 61)) : zKd w 75 = (11, 600) := zQ K h (by omega) (by omega) rfl (zR_10_1 h) (by decide +kernel)
theorem zR_10_6 (_ : zKd w 74 = (10, 61)) : zRf 74 6 = 76 := by decide +kernel
theorem zQ_10_6 (K : zClo w) (h : zKd w 74 = (10, 61)) : zKd w 76 = (13, 12) := zQ K h (by omega) (by omega) rfl (zR_10_6 h) (by decide +kernel)
theorem zR_10_7 (_ : zKd w 74 = (10, 61)) : zRf 74 7 = 77 := by decide +kernel
theorem zQ_10_7 (K : zClo w) (h : zKd w 74 = (10, 61)) : zKd w 77 = (14, 2) := zQ K h (by omega) (by omega) rfl (zR_10_7 h) (by decide +kernel)
theorem zR_10_8 (_ : zKd w 74 = (10, 61)) : zRf 74 8 = 80 := by decide +kernel
theorem zQ_10_8 (K : zClo w) (h : zKd w 74 = (10, 61)) : zKd w 80 = (14, 2) := zQ K h (by omega) (by omega) rfl (zR_10_8 h) (by decide +kernel)
theorem zR_10_9 (_ : zKd w 74 = (10, 61)) : zRf 74 9 = 83 := by decide +kernel
theorem zQ_10_9 (K : zClo w) (h : zKd w 74 = (10, 61)) : zKd w 83 = (15, 2) := zQ K h (by omega) (by omega) rfl (zR_10_9 h) (by decide +kernel)
theorem zR_10_10 (_ : zKd w 74 = (10, 61)) : zRf 74 10 = 86 := by decide +kernel
theorem zQ_10_10 (K : zClo w) (h : zKd w 74 = (10, 61)) : zKd w 86 = (15, 2) := zQ K h (by omega) (by omega) rfl (zR_10_10 h) (by decide +kernel)
theorem zR_10_11 (_ : zKd w 74 = (10, 61)) : zRf 74 11 = 89 := by decide +kernel
theorem zQ_10_11 (K : zClo w) (h : zKd w 74 = (10, 61)) : zKd w 89 = (12, 2) := zQ K h (by omega) (by omega) rfl (zR_10_11 h) (by decide +kernel)
theorem zR_10_12 (_ : zKd w 74 = (10, 61)) : zRf 74 12 = 90 := by decide +kernel
theorem zQ_10_12 (K : zClo w) (h : zKd w 74 = (10, 61)) : zKd w 90 = (12, 2) := zQ K h (by omega) (by omega) rfl (zR_10_12 h) (by decide +kernel)
theorem zR_10_13 (_ : zKd w 74 = (10, 61)) : zRf 74 13 = 91 := by decide +kernel
theorem zQ_10_13 (K : zClo w) (h : zKd w 74 = (10, 61)) : zKd w 91 = (13, 2) := zQ K h (by omega) (by omega) rfl (zR_10_13 h) (by decide +kernel)
theorem zR_10_14 (_ : zKd w 74 = (10, 61)) : zRf 74 14 = 92 := by decide +kernel
theorem zQ_10_14 (K : zClo w) (h : zKd w 74 = (10, 61)) : zKd w 92 = (13, 2) := zQ K h (by omega) (by omega) rfl (zR_10_14 h) (by decide +kernel)
theorem zR_10_15 (_ : zKd w 74 = (10, 61)) : zRf 74 15 = 93 := by decide +kernel
theorem zQ_10_15 (K : zClo w) (h : zKd w 74 = (10, 61)) : zKd w 93 = (12, 24) := zQ K h (by omega) (by omega) rfl (zR_10_15 h) (by decide +kernel)
theorem zR_10_17 (_ : zKd w 74 = (10, 61)) : zRf 74 17 = 94 := by decide +kernel
theorem zQ_10_17 (K : zClo w) (h : zKd w 74 = (10, 61)) : zKd w 94 = (12, 300) := zQ K h (by omega) (by omega) rfl (zR_10_17 h) (by decide +kernel)
theorem zR_10_18 (_ : zKd w 74 = (10, 61)) : zRf 74 18 = 95 := by decide +kernel
theorem zQ_10_18 (K : zClo w) (h : zKd w 74 = (10, 61)) : zKd w 95 = (12, 300) := zQ K h (by omega) (by omega) rfl (zR_10_18 h) (by decide +kernel)
theorem zR_10_19 (_ : zKd w 74 = (10, 61)) : zRf 74 19 = 96 := by decide +kernel
theorem zQ_10_19 (K : zClo w) (h : zKd w 74 = (10, 61)) : zKd w 96 = (12, 300) := zQ K h (by omega) (by omega) rfl (zR_10_19 h) (by decide +kernel)
theorem zR_10_20 (_ : zKd w 74 = (10, 61)) : zRf 74 20 = 97 := by decide +kernel
theorem zQ_10_20 (K : zClo w) (h : zKd w 74 = (10, 61)) : zKd w 97 = (12, 300) := zQ K h (by omega) (by omega) rfl (zR_10_20 h) (by decide +kernel)
theorem zR_10_21 (_ : zKd w 74 = (10, 61)) : zRf 74 21 = 98 := by decide +kernel
theorem zQ_10_21 (K : zClo w) (h : zKd w 74 = (10, 61)) : zKd w 98 = (12, 300) := zQ K h (by omega) (by omega) rfl (zR_10_21 h) (by decide +kernel)
theorem zR_10_22 (_ : zKd w 74 = (10, 61)) : zRf 74 22 = 99 := by decide +kernel
theorem zQ_10_22 (K : zClo w) (h : zKd w 74 = (10, 61)) : zKd w 99 = (16, 2) := zQ K h (by omega) (by omega) rfl (zR_10_22 h) (by decide +kernel)
theorem zR_10_23 (_ : zKd w 74 = (10, 61)) : zRf 74 23 = 102 := by decide +kernel
theorem zQ_10_23 (K : zClo w) (h : zKd w 74 = (10, 61)) : zKd w 102 = (16, 2) := zQ K h (by omega) (by omega) rfl (zR_10_23 h) (by decide +kernel)
theorem zR_10_24 (_ : zKd w 74 = (10, 61)) : zRf 74 24 = 105 := by decide +kernel
theorem zQ_10_24 (K : zClo w) (h : zKd w 74 = (10, 61)) : zKd w 105 = (17, 2) := zQ K h (by omega) (by omega) rfl (zR_10_24 h) (by decide +kernel)
theorem zR_10_28 (_ : zKd w 74 = (10, 61)) : zRf 74 28 = 108 := by decide +kernel
theorem zQ_10_28 (K : zClo w) (h : zKd w 74 = (10, 61)) : zKd w 108 = (13, 24) := zQ K h (by omega) (by omega) rfl (zR_10_28 h) (by decide +kernel)
theorem zR_10_29 (_ : zKd w 74 = (10, 61)) : zRf 74 29 = 109 := by decide +kernel
theorem zQ_10_29 (K : zClo w) (h : zKd w 74 = (10, 61)) : zKd w 109 = (12, 24) := zQ K h (by omega) (by omega) rfl (zR_10_29 h) (by decide +kernel)
theorem zR_10_30 (_ : zKd w 74 = (10, 61)) : zRf 74 30 = 110 := by decide +kernel
theorem zQ_10_30 (K : zClo w) (h : zKd w 74 = (10, 61)) : zKd w 110 = (12, 24) := zQ K h (by omega) (by omega) rfl (zR_10_30 h) (by decide +kernel)
theorem zR_10_40 (_ : zKd w 74 = (10, 61)) : zRf 74 40 = 111 := by decide +kernel
theorem zQ_10_40 (K : zClo w) (h : zKd w 74 = (10, 61)) : zKd w 111 = (12, 12) := zQ K h (by omega) (by omega) rfl (zR_10_40 h) (by decide +kernel)
theorem zR_10_41 (_ : zKd w 74 = (10, 61)) : zRf 74 41 = 112 := by decide +kernel
theorem zQ_10_41 (K : zClo w) (h : zKd w 74 = (10, 61)) : zKd w 112 = (12, 12) := zQ K h (by omega) (by omega) rfl (zR_10_41 h) (by decide +kernel)
theorem zR_10_42 (_ : zKd w 74 = (10, 61)) : zRf 74 42 = 113 := by decide +kernel
theorem zQ_10_42 (K : zClo w) (h : zKd w 74 = (10, 61)) : zKd w 113 = (12, 12) := zQ K h (by omega) (by omega) rfl (zR_10_42 h) (by decide +kernel)
theorem zR_10_43 (_ : zKd w 74 = (10, 61)) : zRf 74 43 = 114 := by decide +kernel
theorem zQ_10_43 (K : zClo w) (h : zKd w 74 = (10, 61)) : zKd w 114 = (12, 12) := zQ K h (by omega) (by omega) rfl (zR_10_43 h) (by decide +kernel)
theorem zR_10_44 (_ : zKd w 74 = (10, 61)) : zRf 74 44 = 115 := by decide +kernel
theorem zQ_10_44 (K : zClo w) (h : zKd w 74 = (10, 61)) : zKd w 115 = (12, 12) := zQ K h (by omega) (by omega) rfl (zR_10_44 h) (by decide +kernel)
theorem zR_10_45 (_ : zKd w 74 = (10, 61)) : zRf 74 45 = 116 := by decide +kernel
theorem zQ_10_45 (K : zClo w) (h : zKd w 74 = (10, 61)) : zKd w 116 = (13, 12) := zQ K h (by omega) (by omega) rfl (zR_10_45 h) (by decide +kernel)
theorem zR_10_46 (_ : zKd w 74 = (10, 61)) : zRf 74 46 = 117 := by decide +kernel
theorem zQ_10_46 (K : zClo w) (h : zKd w 74 = (10, 61)) : zKd w 117 = (13, 12) := zQ K h (by omega) (by omega) rfl (zR_10_46 h) (by decide +kernel)
theorem zR_10_47 (_ : zKd w 74 = (10, 61)) : zRf 74 47 = 118 := by decide +kernel
theorem zQ_10_47 (K : zClo w) (h : zKd w 74 = (10, 61)) : zKd w 118 = (13, 300) := zQ K h (by omega) (by omega) rfl (zR_10_47 h) (by decide +kernel)
theorem zR_10_51 (_ : zKd w 74 = (10, 61)) : zRf 74 51 = 119 := by decide +kernel
theorem zQ_10_51 (K : zClo w) (h : zKd w 74 = (10, 61)) : zKd w 119 = (12, 60) := zQ K h (by omega) (by omega) rfl (zR_10_51 h) (by decide +kernel)
theorem zR_10_52 (_ : zKd w 74 = (10, 61)) : zRf 74 52 = 120 := by decide +kernel
theorem zQ_10_52 (K : zClo w) (h : zKd w 74 = (10, 61)) : zKd w 120 = (12, 60) := zQ K h (by omega) (by omega) rfl (zR_10_52 h) (by decide +kernel)
theorem zR_10_53 (_ : zKd w 74 = (10, 61)) : zRf 74 53 = 121 := by decide +kernel
theorem zQ_10_53 (K : zClo w) (h : zKd w 74 = (10, 61)) : zKd w 121 = (12, 400) := zQ K h (by omega) (by omega) rfl (zR_10_53 h) (by decide +kernel)
theorem zR_10_54 (_ : zKd w 74 = (10, 61)) : zRf 74 54 = 140 := by decide +kernel
theorem zQ_10_54 (K : zClo w) (h : zKd w 74 = (10, 61)) : zKd w 140 = (18, 400) := zQ K h (by omega) (by omega) rfl (zR_10_54 h) (by decide +kernel)
theorem zR_10_55 (_ : zKd w 74 = (10, 61)) : zRf 74 55 = 122 := by decide +kernel
theorem zQ_10_55 (K : zClo w) (h : zKd w 74 = (10, 61)) : zKd w 122 = (12, 24) := zQ K h (by omega) (by omega) rfl (zR_10_55 h) (by decide +kernel)
theorem zR_10_56 (_ : zKd w 74 = (10, 61)) : zRf 74 56 = 123 := by decide +kernel
theorem zQ_10_56 (K : zClo w) (h : zKd w 74 = (10, 61)) : zKd w 123 = (12, 24) := zQ K h (by omega) (by omega) rfl (zR_10_56 h) (by decide +kernel)
theorem zR_10_57 (_ : zKd w 74 = (10, 61)) : zRf 74 57 = 124 := by decide +kernel
theorem zQ_10_57 (K : zClo w) (h : zKd w 74 = (10, 61)) : zKd w 124 = (12, 6) := zQ K h (by omega) (by omega) rfl (zR_10_57 h) (by decide +kernel)
theorem zR_10_58 (_ : zKd w 74 = (10, 61)) : zRf 74 58 = 125 := by decide +kernel
theorem zQ_10_58 (K : zClo w) (h : zKd w 74 = (10, 61)) : zKd w 125 = (19, 6) := zQ K h (by omega) (by omega) rfl (zR_10_58 h) (by decide +kernel)
theorem zR_10_59 (_ : zKd w 74 = (10, 61)) : zRf 74 59 = 132 := by decide +kernel
theorem zQ_10_59 (K : zClo w) (h : zKd w 74 = (10, 61)) : zKd w 132 = (20, 6) := zQ K h (by omega) (by omega) rfl (zR_10_59 h) (by decide +kernel)
theorem zR_10_60 (_ : zKd w 74 = (10, 61)) : zRf 74 60 = 139 := by decide +kernel
theorem zQ_10_60 (K : zClo w) (h : zKd w 74 = (10, 61)) : zKd w 139 = (13, 24) := zQ K h (by omega) (by omega) rfl (zR_10_60 h) (by decide +kernel)
theorem rw_66 {i : Nat} (h : i < 6) : zRf 66 i = 67 + i :=
  (by decide +kernel : ∀ i, i < 6 → zRf 66 i = 67 + i) i h
theorem rk_66 (K : zClo w) (h : zKd w 66 = (19, 6)) {i : Nat} (hi : i < 6) : zKd w (67 + i) = (12, 24) := zQr K h (by omega) hi (rw_66 hi)
  ((by decide +kernel : ∀ i, i < 6 → zKd0 (67 + i) = (12, 24)) i hi)
theorem rw_77 {i : Nat} (h : i < 2) : zRf 77 i = 78 + i :=
  (by decide +kernel : ∀ i, i < 2 → zRf 77 i = 78 + i) i h
theorem rk_77 (K : zClo w) (h : zKd w 77 = (14, 2)) {i : Nat} (hi : i < 2) : zKd w (78 + i) = (12, 8) := zQr K h (by omega) hi (rw_77 hi)
  ((by decide +kernel : ∀ i, i < 2 → zKd0 (78 + i) = (12, 8)) i hi)
theorem rw_80 {i : Nat} (h : i < 2) : zRf 80 i = 81 + i :=
  (by decide +kernel : ∀ i, i < 2 → zRf 80 i = 81 + i) i h
theorem rk_80 (K : zClo w) (h : zKd w 80 = (14, 2)) {i : Nat} (hi : i < 2) : zKd w (81 + i) = (12, 8) := zQr K h (by omega) hi (rw_80 hi)
  ((by decide +kernel : ∀ i, i < 2 → zKd0 (81 + i) = (12, 8)) i hi)
theorem rw_83 {i : Nat} (h : i < 2) : zRf 83 i = 84 + i :=
  (by decide +kernel : ∀ i, i < 2 → zRf 83 i = 84 + i) i h
theorem rk_83 (K : zClo w) (h : zKd w 83 = (15, 2)) {i : Nat} (hi : i < 2) : zKd w (84 + i) = (13, 8) := zQr K h (by omega) hi (rw_83 hi)
  ((by decide +kernel : ∀ i, i < 2 → zKd0 (84 + i) = (13, 8)) i hi)
theorem rw_86 {i : Nat} (h : i < 2) : zRf 86 i = 87 + i :=
  (by decide +kernel : ∀ i, i < 2 → zRf 86 i = 87 + i) i h
theorem rk_86 (K : zClo w) (h : zKd w 86 = (15, 2)) {i : Nat} (hi : i < 2) : zKd w (87 + i) = (13, 8) := zQr K h (by omega) hi (rw_86 hi)
  ((by decide +kernel : ∀ i, i < 2 → zKd0 (87 + i) = (13, 8)) i hi)
theorem rw_99 {i : Nat} (h : i < 2) : zRf 99 i = 100 + i :=
  (by decide +kernel : ∀ i, i < 2 → zRf 99 i = 100 + i) i h
theorem rk_99 (K : zClo w) (h : zKd w 99 = (16, 2)) {i : Nat} (hi : i < 2) : zKd w (100 + i) = (12, 300) := zQr K h (by omega) hi (rw_99 hi)
  ((by decide +kernel : ∀ i, i < 2 → zKd0 (100 + i) = (12, 300)) i hi)
theorem rw_102 {i : Nat} (h : i < 2) : zRf 102 i = 103 + i :=
  (by decide +kernel : ∀ i, i < 2 → zRf 102 i = 103 + i) i h
theorem rk_102 (K : zClo w) (h : zKd w 102 = (16, 2)) {i : Nat} (hi : i < 2) : zKd w (103 + i) = (12, 300) := zQr K h (by omega) hi (rw_102 hi)
  ((by decide +kernel : ∀ i, i < 2 → zKd0 (103 + i) = (12, 300)) i hi)
theorem rw_105 {i : Nat} (h : i < 2) : zRf 105 i = 106 + i :=
  (by decide +kernel : ∀ i, i < 2 → zRf 105 i = 106 + i) i h
theorem rk_105 (K : zClo w) (h : zKd w 105 = (17, 2)) {i : Nat} (hi : i < 2) : zKd w (106 + i) = (13, 300) := zQr K h (by omega) hi (rw_105 hi)
  ((by decide +kernel : ∀ i, i < 2 → zKd0 (106 + i) = (13, 300)) i hi)
theorem rw_125 {i : Nat} (h : i < 6) : zRf 125 i = 126 + i :=
  (by decide +kernel : ∀ i, i < 6 → zRf 125 i = 126 + i) i h
theorem rk_125 (K : zClo w) (h : zKd w 125 = (19, 6)) {i : Nat} (hi : i < 6) : zKd w (126 + i) = (12, 24) := zQr K h (by omega) hi (rw_125 hi)
  ((by decide +kernel : ∀ i, i < 6 → zKd0 (126 + i) = (12, 24)) i hi)
theorem rw_132 {i : Nat} (h : i < 6) : zRf 132 i = 133 + i :=
  (by decide +kernel : ∀ i, i < 6 → zRf 132 i = 133 + i) i h
theorem rk_132 (K : zClo w) (h : zKd w 132 = (20, 6)) {i : Nat} (hi : i < 6) : zKd w (133 + i) = (13, 24) := zQr K h (by omega) hi (rw_132 hi)
  ((by decide +kernel : ∀ i, i < 6 → zKd0 (133 + i) = (13, 24)) i hi)
theorem rw_140 {i : Nat} (_ : i < 400) : zRf 140 i = 141 + i := rfl
theorem rk_140 (K : zClo w) (h : zKd w 140 = (18, 400)) {i : Nat} (hi : i < 400) : zKd w (141 + i) = (12, 60) := zQr K h (by omega) hi (rw_140 hi) (by
  rw [zKd0, if_neg (by simp only [zNB]; omega), if_pos (by simp only [zNC]; omega)])
end ZQ
theorem zN_0 : (RX9, 11, yX8_init, RX9) ∈ zNw := List.mem_of_getElem? (i := 0) rfl
theorem zN_1 : (RX9, 41, yX2_init, RX9) ∈ zNw := List.mem_of_getElem? (i := 1) rfl
theorem zN_2 : (RX7, 53, yX4_init, RX9) ∈ zNw := List.mem_of_getElem? (i := 2) rfl
theorem zN_3 : (RX5, 103, yX9_isKind, RX9) ∈ zNw := List.mem_of_getElem? (i := 3) rfl
theorem zN_4 : (RX6, 42, yX9_isKind, RX9) ∈ zNw := List.mem_of_getElem? (i := 4) rfl
theorem zN_5 : (RX2, 31, yX9_isActNumber, RX9) ∈ zNw := List.mem_of_getElem? (i := 5) rfl
theorem zN_6 : (RX7, 96, yX9_isActNumber, RX9) ∈ zNw := List.mem_of_getElem? (i := 6) rfl
theorem zN_7 : (RX7, 141, yX9_isMember, RX9) ∈ zNw := List.mem_of_getElem? (i := 7) rfl
theorem zN_8 : (RX7, 168, yX9_isKind, RX9) ∈ zNw := List.mem_of_getElem? (i := 8) rfl
theorem zN_9 : (RX3, 52, yX9_isKind, RX9) ∈ zNw := List.mem_of_getElem? (i := 9) rfl
theorem zN_10 : (RX0, 59, yX9_isMember, RX9) ∈ zNw := List.mem_of_getElem? (i := 10) rfl
theorem zN_11 : (RX1, 26, yX9_isSchool, RX9) ∈ zNw := List.mem_of_getElem? (i := 11) rfl
theorem zN_12 : (RX1, 30, yX9_isMember, RX9) ∈ zNw := List.mem_of_getElem? (i := 12) rfl
