/-! ===== the cells: kinds and lengths (0 to 10 an object of that class and its number of fields; 11 bytes, 12 ints, 13 booleans; 14.. rows of rows) ===== -/
def zKt : List (Nat × Nat) := [(9, 10), (8, 2), (11, 600), (6, 8), (12, 8), (12, 8), (13, 8), (13, 8), (6, 8), (12, 8), (12, 8), (13, 8), (13, 8), (5, 5), (12, 24), (2, 6), (12, 300), (12, 300), (12, 300), (12, 300), (12, 300), (7, 16), (0, 8), (12, 24), (12, 24), (3, 9), (12, 8), (12, 8), (12, 8), (12, 8), (12, 8), (13, 8), (13, 8), (4, 6), (12, 320), (12, 320), (12, 320), (12, 300), (12, 300), (13, 300), (13, 300), (7, 16), (0, 8), (12, 24), (12, 24), (3, 9), (12, 8), (12, 8), (12, 8), (12, 8), (12, 8), (13, 8), (13, 8), (4, 6), (12, 320), (12, 320), (12, 320), (12, 300), (12, 300), (13, 300), (13, 300), (0, 8), (12, 24), (12, 24), (1, 4), (12, 6), (19, 6), (12, 24), (12, 24), (12, 24), (12, 24), (12, 24), (12, 24), (12, 24), (10, 61), (11, 600), (13, 12), (14, 2), (12, 8), (12, 8), (14, 2), (12, 8), (12, 8), (15, 2), (13, 8), (13, 8), (15, 2), (13, 8), (13, 8), (12, 2), (12, 2), (13, 2), (13, 2), (12, 24), (12, 300), (12, 300), (12, 300), (12, 300), (12, 300), (16, 2), (12, 300), (12, 300), (16, 2), (12, 300), (12, 300), (17, 2), (13, 300), (13, 300), (13, 24), (12, 24), (12, 24), (12, 12), (12, 12), (12, 12), (12, 12), (12, 12), (13, 12), (13, 12), (13, 300), (12, 60), (12, 60), (12, 400), (12, 24), (12, 24), (12, 6), (19, 6), (12, 24), (12, 24), (12, 24), (12, 24), (12, 24), (12, 24), (20, 6), (13, 24), (13, 24), (13, 24), (13, 24), (13, 24), (13, 24), (13, 24), (18, 400)]
abbrev zNB : Nat := 141
abbrev zNC : Nat := 541
def zKd (c : Nat) : Nat × Nat := if c < zNB then zKt.getD c (99, 0) else if c < zNC then (12, 60) else (99, 0)
def zRt : List (List Nat) := [[1, 3, 8, 13, 14, 15, 21, 41, 61, 64], [2, 0], [], [4, 5, 6, 7, 0, 0, 0, 0], [], [], [], [], [9, 10, 11, 12, 0, 0, 0, 0], [], [], [], [], [1, 8, 0, 0, 0], [], [16, 17, 18, 19, 20, 0], [], [], [], [], [], [3, 15, 22, 25, 33, 37, 38, 39, 40, 0, 0, 0, 0, 0, 0, 0], [3, 14, 23, 24, 0, 0, 0, 0], [], [], [3, 26, 27, 28, 29, 30, 31, 32, 0], [], [], [], [], [], [], [], [34, 35, 36, 0, 0, 0], [], [], [], [], [], [], [], [3, 15, 42, 45, 53, 57, 58, 59, 60, 0, 0, 0, 0, 0, 0, 0], [3, 14, 43, 44, 0, 0, 0, 0], [], [], [3, 46, 47, 48, 49, 50, 51, 52, 0], [], [], [], [], [], [], [], [54, 55, 56, 0, 0, 0], [], [], [], [], [], [], [], [3, 14, 62, 63, 0, 0, 0, 0], [], [], [14, 65, 66, 73], [], [67, 68, 69, 70, 71, 72], [], [], [], [], [], [], [], [0, 75, 0, 0, 0, 0, 76, 77, 80, 83, 86, 89, 90, 91, 92, 93, 0, 94, 95, 96, 97, 98, 99, 102, 105, 0, 0, 0, 108, 109, 110, 0, 0, 0, 0, 0, 0, 0, 0, 0, 111, 112, 113, 114, 115, 116, 117, 118, 0, 0, 0, 119, 120, 121, 140, 122, 123, 124, 125, 132, 139], [], [], [78, 79], [], [], [81, 82], [], [], [84, 85], [], [], [87, 88], [], [], [], [], [], [], [], [], [], [], [], [], [100, 101], [], [], [103, 104], [], [], [106, 107], [], [], [], [], [], [], [], [], [], [], [], [], [], [], [], [], [], [], [], [126, 127, 128, 129, 130, 131], [], [], [], [], [], [], [133, 134, 135, 136, 137, 138], [], [], [], [], [], [], [], []]
def zRf (c i : Nat) : Nat := if c = 140 then zNB + i else (zRt.getD c []).getD i 0
def zFt : List (List Bool) := [[true, true, true, true, false, false, false, false], [true, true, true, true], [true, true, true, true, true, false], [true, true, true, true, true, true, true, true, false], [true, true, true, false, false, false], [true, true, false, false, false], [true, true, true, true, false, false, false, false], [true, true, true, true, true, true, true, true, true, false, false, false, false, false, false, false], [true, false], [true, true, true, true, true, true, true, true, true, true], [false, true, false, false, false, false, true, true, true, true, true, true, true, true, true, true, false, true, true, true, true, true, true, true, true, false, false, false, true, true, true, false, false, false, false, false, false, false, false, false, true, true, true, true, true, true, true, true, false, false, false, true, true, true, true, true, true, true, true, true, true]]
def zFr (k i : Nat) : Bool := (zFt.getD k []).getD i false
def zAk (k : Nat) : Nat := if k = 15 ∨ k = 17 ∨ k = 20 then 15 else 14
theorem zKd_lt {c k n : Nat} (h : zKd c = (k, n)) (hk : k < 21) : c < zNC := by
  rcases Nat.lt_or_ge c zNC with q | q
  · exact q
  · have h2 : ¬ c < zNB := by simp only [zNB, zNC] at *; omega
    rw [zKd, if_neg h2, if_neg (by omega)] at h
    have := congrArg Prod.fst h
    simp only at this
    omega
theorem zKd_nb {c k n : Nat} (h : zKd c = (k, n)) (hk : k < 12 ∨ 12 < k ∨ n ≠ 60) (hk2 : k < 21) : c < zNB := by
  rcases Nat.lt_or_ge c zNB with q | q
  · exact q
  · have h1 := zKd_lt h hk2
    rw [zKd, if_neg (by omega), if_pos h1] at h
    have a1 := congrArg Prod.fst h
    have a2 := congrArg Prod.snd h
    simp only at a1 a2
    omega
theorem zS_0_0 {o : Nat} (h : zKd o = (0, 8)) : zKd (zRf o 0) = (6, 8) :=
  (by decide +kernel : ∀ o, o < zNB → zKd o = (0, 8) → zKd (zRf o 0) = (6, 8)) o (zKd_nb h (by omega) (by omega)) h
theorem zS_0_1 {o : Nat} (h : zKd o = (0, 8)) : zKd (zRf o 1) = (12, 24) :=
  (by decide +kernel : ∀ o, o < zNB → zKd o = (0, 8) → zKd (zRf o 1) = (12, 24)) o (zKd_nb h (by omega) (by omega)) h
theorem zS_0_2 {o : Nat} (h : zKd o = (0, 8)) : zKd (zRf o 2) = (12, 24) :=
  (by decide +kernel : ∀ o, o < zNB → zKd o = (0, 8) → zKd (zRf o 2) = (12, 24)) o (zKd_nb h (by omega) (by omega)) h
theorem zS_0_3 {o : Nat} (h : zKd o = (0, 8)) : zKd (zRf o 3) = (12, 24) :=
  (by decide +kernel : ∀ o, o < zNB → zKd o = (0, 8) → zKd (zRf o 3) = (12, 24)) o (zKd_nb h (by omega) (by omega)) h
theorem zS_1_0 {o : Nat} (h : zKd o = (1, 4)) : zKd (zRf o 0) = (12, 24) :=
  (by decide +kernel : ∀ o, o < zNB → zKd o = (1, 4) → zKd (zRf o 0) = (12, 24)) o (zKd_nb h (by omega) (by omega)) h
theorem zS_1_1 {o : Nat} (h : zKd o = (1, 4)) : zKd (zRf o 1) = (12, 6) :=
  (by decide +kernel : ∀ o, o < zNB → zKd o = (1, 4) → zKd (zRf o 1) = (12, 6)) o (zKd_nb h (by omega) (by omega)) h
theorem zS_1_2 {o : Nat} (h : zKd o = (1, 4)) : zKd (zRf o 2) = (19, 6) :=
  (by decide +kernel : ∀ o, o < zNB → zKd o = (1, 4) → zKd (zRf o 2) = (19, 6)) o (zKd_nb h (by omega) (by omega)) h
theorem zS_1_3 {o : Nat} (h : zKd o = (1, 4)) : zKd (zRf o 3) = (12, 24) :=
  (by decide +kernel : ∀ o, o < zNB → zKd o = (1, 4) → zKd (zRf o 3) = (12, 24)) o (zKd_nb h (by omega) (by omega)) h
theorem zS_2_0 {o : Nat} (h : zKd o = (2, 6)) : zKd (zRf o 0) = (12, 300) :=
  (by decide +kernel : ∀ o, o < zNB → zKd o = (2, 6) → zKd (zRf o 0) = (12, 300)) o (zKd_nb h (by omega) (by omega)) h
theorem zS_2_1 {o : Nat} (h : zKd o = (2, 6)) : zKd (zRf o 1) = (12, 300) :=
  (by decide +kernel : ∀ o, o < zNB → zKd o = (2, 6) → zKd (zRf o 1) = (12, 300)) o (zKd_nb h (by omega) (by omega)) h
theorem zS_2_2 {o : Nat} (h : zKd o = (2, 6)) : zKd (zRf o 2) = (12, 300) :=
  (by decide +kernel : ∀ o, o < zNB → zKd o = (2, 6) → zKd (zRf o 2) = (12, 300)) o (zKd_nb h (by omega) (by omega)) h
theorem zS_2_3 {o : Nat} (h : zKd o = (2, 6)) : zKd (zRf o 3) = (12, 300) :=
  (by decide +kernel : ∀ o, o < zNB → zKd o = (2, 6) → zKd (zRf o 3) = (12, 300)) o (zKd_nb h (by omega) (by omega)) h
theorem zS_2_4 {o : Nat} (h : zKd o = (2, 6)) : zKd (zRf o 4) = (12, 300) :=
  (by decide +kernel : ∀ o, o < zNB → zKd o = (2, 6) → zKd (zRf o 4) = (12, 300)) o (zKd_nb h (by omega) (by omega)) h
theorem zS_3_0 {o : Nat} (h : zKd o = (3, 9)) : zKd (zRf o 0) = (6, 8) :=
  (by decide +kernel : ∀ o, o < zNB → zKd o = (3, 9) → zKd (zRf o 0) = (6, 8)) o (zKd_nb h (by omega) (by omega)) h
theorem zS_3_1 {o : Nat} (h : zKd o = (3, 9)) : zKd (zRf o 1) = (12, 8) :=
  (by decide +kernel : ∀ o, o < zNB → zKd o = (3, 9) → zKd (zRf o 1) = (12, 8)) o (zKd_nb h (by omega) (by omega)) h
theorem zS_3_2 {o : Nat} (h : zKd o = (3, 9)) : zKd (zRf o 2) = (12, 8) :=
  (by decide +kernel : ∀ o, o < zNB → zKd o = (3, 9) → zKd (zRf o 2) = (12, 8)) o (zKd_nb h (by omega) (by omega)) h
theorem zS_3_3 {o : Nat} (h : zKd o = (3, 9)) : zKd (zRf o 3) = (12, 8) :=
  (by decide +kernel : ∀ o, o < zNB → zKd o = (3, 9) → zKd (zRf o 3) = (12, 8)) o (zKd_nb h (by omega) (by omega)) h
theorem zS_3_4 {o : Nat} (h : zKd o = (3, 9)) : zKd (zRf o 4) = (12, 8) :=
  (by decide +kernel : ∀ o, o < zNB → zKd o = (3, 9) → zKd (zRf o 4) = (12, 8)) o (zKd_nb h (by omega) (by omega)) h
theorem zS_3_5 {o : Nat} (h : zKd o = (3, 9)) : zKd (zRf o 5) = (12, 8) :=
  (by decide +kernel : ∀ o, o < zNB → zKd o = (3, 9) → zKd (zRf o 5) = (12, 8)) o (zKd_nb h (by omega) (by omega)) h
theorem zS_3_6 {o : Nat} (h : zKd o = (3, 9)) : zKd (zRf o 6) = (13, 8) :=
  (by decide +kernel : ∀ o, o < zNB → zKd o = (3, 9) → zKd (zRf o 6) = (13, 8)) o (zKd_nb h (by omega) (by omega)) h
theorem zS_3_7 {o : Nat} (h : zKd o = (3, 9)) : zKd (zRf o 7) = (13, 8) :=
  (by decide +kernel : ∀ o, o < zNB → zKd o = (3, 9) → zKd (zRf o 7) = (13, 8)) o (zKd_nb h (by omega) (by omega)) h
theorem zS_4_0 {o : Nat} (h : zKd o = (4, 6)) : zKd (zRf o 0) = (12, 320) :=
  (by decide +kernel : ∀ o, o < zNB → zKd o = (4, 6) → zKd (zRf o 0) = (12, 320)) o (zKd_nb h (by omega) (by omega)) h
theorem zS_4_1 {o : Nat} (h : zKd o = (4, 6)) : zKd (zRf o 1) = (12, 320) :=
  (by decide +kernel : ∀ o, o < zNB → zKd o = (4, 6) → zKd (zRf o 1) = (12, 320)) o (zKd_nb h (by omega) (by omega)) h
theorem zS_4_2 {o : Nat} (h : zKd o = (4, 6)) : zKd (zRf o 2) = (12, 320) :=
  (by decide +kernel : ∀ o, o < zNB → zKd o = (4, 6) → zKd (zRf o 2) = (12, 320)) o (zKd_nb h (by omega) (by omega)) h
theorem zS_5_0 {o : Nat} (h : zKd o = (5, 5)) : zKd (zRf o 0) = (8, 2) :=
  (by decide +kernel : ∀ o, o < zNB → zKd o = (5, 5) → zKd (zRf o 0) = (8, 2)) o (zKd_nb h (by omega) (by omega)) h
theorem zS_5_1 {o : Nat} (h : zKd o = (5, 5)) : zKd (zRf o 1) = (6, 8) :=
  (by decide +kernel : ∀ o, o < zNB → zKd o = (5, 5) → zKd (zRf o 1) = (6, 8)) o (zKd_nb h (by omega) (by omega)) h
theorem zS_6_0 {o : Nat} (h : zKd o = (6, 8)) : zKd (zRf o 0) = (12, 8) :=
  (by decide +kernel : ∀ o, o < zNB → zKd o = (6, 8) → zKd (zRf o 0) = (12, 8)) o (zKd_nb h (by omega) (by omega)) h
theorem zS_6_1 {o : Nat} (h : zKd o = (6, 8)) : zKd (zRf o 1) = (12, 8) :=
  (by decide +kernel : ∀ o, o < zNB → zKd o = (6, 8) → zKd (zRf o 1) = (12, 8)) o (zKd_nb h (by omega) (by omega)) h
theorem zS_6_2 {o : Nat} (h : zKd o = (6, 8)) : zKd (zRf o 2) = (13, 8) :=
  (by decide +kernel : ∀ o, o < zNB → zKd o = (6, 8) → zKd (zRf o 2) = (13, 8)) o (zKd_nb h (by omega) (by omega)) h
theorem zS_6_3 {o : Nat} (h : zKd o = (6, 8)) : zKd (zRf o 3) = (13, 8) :=
  (by decide +kernel : ∀ o, o < zNB → zKd o = (6, 8) → zKd (zRf o 3) = (13, 8)) o (zKd_nb h (by omega) (by omega)) h
theorem zS_7_0 {o : Nat} (h : zKd o = (7, 16)) : zKd (zRf o 0) = (6, 8) :=
  (by decide +kernel : ∀ o, o < zNB → zKd o = (7, 16) → zKd (zRf o 0) = (6, 8)) o (zKd_nb h (by omega) (by omega)) h
theorem zS_7_1 {o : Nat} (h : zKd o = (7, 16)) : zKd (zRf o 1) = (2, 6) :=
  (by decide +kernel : ∀ o, o < zNB → zKd o = (7, 16) → zKd (zRf o 1) = (2, 6)) o (zKd_nb h (by omega) (by omega)) h
theorem zS_7_2 {o : Nat} (h : zKd o = (7, 16)) : zKd (zRf o 2) = (0, 8) :=
  (by decide +kernel : ∀ o, o < zNB → zKd o = (7, 16) → zKd (zRf o 2) = (0, 8)) o (zKd_nb h (by omega) (by omega)) h
theorem zS_7_3 {o : Nat} (h : zKd o = (7, 16)) : zKd (zRf o 3) = (3, 9) :=
  (by decide +kernel : ∀ o, o < zNB → zKd o = (7, 16) → zKd (zRf o 3) = (3, 9)) o (zKd_nb h (by omega) (by omega)) h
theorem zS_7_4 {o : Nat} (h : zKd o = (7, 16)) : zKd (zRf o 4) = (4, 6) :=
  (by decide +kernel : ∀ o, o < zNB → zKd o = (7, 16) → zKd (zRf o 4) = (4, 6)) o (zKd_nb h (by omega) (by omega)) h
theorem zS_7_5 {o : Nat} (h : zKd o = (7, 16)) : zKd (zRf o 5) = (12, 300) :=
  (by decide +kernel : ∀ o, o < zNB → zKd o = (7, 16) → zKd (zRf o 5) = (12, 300)) o (zKd_nb h (by omega) (by omega)) h
theorem zS_7_6 {o : Nat} (h : zKd o = (7, 16)) : zKd (zRf o 6) = (12, 300) :=
  (by decide +kernel : ∀ o, o < zNB → zKd o = (7, 16) → zKd (zRf o 6) = (12, 300)) o (zKd_nb h (by omega) (by omega)) h
theorem zS_7_7 {o : Nat} (h : zKd o = (7, 16)) : zKd (zRf o 7) = (13, 300) :=
  (by decide +kernel : ∀ o, o < zNB → zKd o = (7, 16) → zKd (zRf o 7) = (13, 300)) o (zKd_nb h (by omega) (by omega)) h
theorem zS_7_8 {o : Nat} (h : zKd o = (7, 16)) : zKd (zRf o 8) = (13, 300) :=
  (by decide +kernel : ∀ o, o < zNB → zKd o = (7, 16) → zKd (zRf o 8) = (13, 300)) o (zKd_nb h (by omega) (by omega)) h
theorem zS_8_0 {o : Nat} (h : zKd o = (8, 2)) : zKd (zRf o 0) = (11, 600) :=
  (by decide +kernel : ∀ o, o < zNB → zKd o = (8, 2) → zKd (zRf o 0) = (11, 600)) o (zKd_nb h (by omega) (by omega)) h
theorem zS_9_0 {o : Nat} (h : zKd o = (9, 10)) : zKd (zRf o 0) = (8, 2) :=
  (by decide +kernel : ∀ o, o < zNB → zKd o = (9, 10) → zKd (zRf o 0) = (8, 2)) o (zKd_nb h (by omega) (by omega)) h
theorem zS_9_1 {o : Nat} (h : zKd o = (9, 10)) : zKd (zRf o 1) = (6, 8) :=
  (by decide +kernel : ∀ o, o < zNB → zKd o = (9, 10) → zKd (zRf o 1) = (6, 8)) o (zKd_nb h (by omega) (by omega)) h
theorem zS_9_2 {o : Nat} (h : zKd o = (9, 10)) : zKd (zRf o 2) = (6, 8) :=
  (by decide +kernel : ∀ o, o < zNB → zKd o = (9, 10) → zKd (zRf o 2) = (6, 8)) o (zKd_nb h (by omega) (by omega)) h
theorem zS_9_3 {o : Nat} (h : zKd o = (9, 10)) : zKd (zRf o 3) = (5, 5) :=
  (by decide +kernel : ∀ o, o < zNB → zKd o = (9, 10) → zKd (zRf o 3) = (5, 5)) o (zKd_nb h (by omega) (by omega)) h
theorem zS_9_4 {o : Nat} (h : zKd o = (9, 10)) : zKd (zRf o 4) = (12, 24) :=
  (by decide +kernel : ∀ o, o < zNB → zKd o = (9, 10) → zKd (zRf o 4) = (12, 24)) o (zKd_nb h (by omega) (by omega)) h
theorem zS_9_5 {o : Nat} (h : zKd o = (9, 10)) : zKd (zRf o 5) = (2, 6) :=
  (by decide +kernel : ∀ o, o < zNB → zKd o = (9, 10) → zKd (zRf o 5) = (2, 6)) o (zKd_nb h (by omega) (by omega)) h
theorem zS_9_6 {o : Nat} (h : zKd o = (9, 10)) : zKd (zRf o 6) = (7, 16) :=
  (by decide +kernel : ∀ o, o < zNB → zKd o = (9, 10) → zKd (zRf o 6) = (7, 16)) o (zKd_nb h (by omega) (by omega)) h
theorem zS_9_7 {o : Nat} (h : zKd o = (9, 10)) : zKd (zRf o 7) = (7, 16) :=
  (by decide +kernel : ∀ o, o < zNB → zKd o = (9, 10) → zKd (zRf o 7) = (7, 16)) o (zKd_nb h (by omega) (by omega)) h
theorem zS_9_8 {o : Nat} (h : zKd o = (9, 10)) : zKd (zRf o 8) = (0, 8) :=
  (by decide +kernel : ∀ o, o < zNB → zKd o = (9, 10) → zKd (zRf o 8) = (0, 8)) o (zKd_nb h (by omega) (by omega)) h
theorem zS_9_9 {o : Nat} (h : zKd o = (9, 10)) : zKd (zRf o 9) = (1, 4) :=
  (by decide +kernel : ∀ o, o < zNB → zKd o = (9, 10) → zKd (zRf o 9) = (1, 4)) o (zKd_nb h (by omega) (by omega)) h
theorem zS_10_1 {o : Nat} (h : zKd o = (10, 61)) : zKd (zRf o 1) = (11, 600) :=
  (by decide +kernel : ∀ o, o < zNB → zKd o = (10, 61) → zKd (zRf o 1) = (11, 600)) o (zKd_nb h (by omega) (by omega)) h
theorem zS_10_6 {o : Nat} (h : zKd o = (10, 61)) : zKd (zRf o 6) = (13, 12) :=
  (by decide +kernel : ∀ o, o < zNB → zKd o = (10, 61) → zKd (zRf o 6) = (13, 12)) o (zKd_nb h (by omega) (by omega)) h
theorem zS_10_7 {o : Nat} (h : zKd o = (10, 61)) : zKd (zRf o 7) = (14, 2) :=
  (by decide +kernel : ∀ o, o < zNB → zKd o = (10, 61) → zKd (zRf o 7) = (14, 2)) o (zKd_nb h (by omega) (by omega)) h
theorem zS_10_8 {o : Nat} (h : zKd o = (10, 61)) : zKd (zRf o 8) = (14, 2) :=
  (by decide +kernel : ∀ o, o < zNB → zKd o = (10, 61) → zKd (zRf o 8) = (14, 2)) o (zKd_nb h (by omega) (by omega)) h
theorem zS_10_9 {o : Nat} (h : zKd o = (10, 61)) : zKd (zRf o 9) = (15, 2) :=
  (by decide +kernel : ∀ o, o < zNB → zKd o = (10, 61) → zKd (zRf o 9) = (15, 2)) o (zKd_nb h (by omega) (by omega)) h
theorem zS_10_10 {o : Nat} (h : zKd o = (10, 61)) : zKd (zRf o 10) = (15, 2) :=
  (by decide +kernel : ∀ o, o < zNB → zKd o = (10, 61) → zKd (zRf o 10) = (15, 2)) o (zKd_nb h (by omega) (by omega)) h
theorem zS_10_11 {o : Nat} (h : zKd o = (10, 61)) : zKd (zRf o 11) = (12, 2) :=
  (by decide +kernel : ∀ o, o < zNB → zKd o = (10, 61) → zKd (zRf o 11) = (12, 2)) o (zKd_nb h (by omega) (by omega)) h
theorem zS_10_12 {o : Nat} (h : zKd o = (10, 61)) : zKd (zRf o 12) = (12, 2) :=
  (by decide +kernel : ∀ o, o < zNB → zKd o = (10, 61) → zKd (zRf o 12) = (12, 2)) o (zKd_nb h (by omega) (by omega)) h
theorem zS_10_13 {o : Nat} (h : zKd o = (10, 61)) : zKd (zRf o 13) = (13, 2) :=
  (by decide +kernel : ∀ o, o < zNB → zKd o = (10, 61) → zKd (zRf o 13) = (13, 2)) o (zKd_nb h (by omega) (by omega)) h
theorem zS_10_14 {o : Nat} (h : zKd o = (10, 61)) : zKd (zRf o 14) = (13, 2) :=
  (by decide +kernel : ∀ o, o < zNB → zKd o = (10, 61) → zKd (zRf o 14) = (13, 2)) o (zKd_nb h (by omega) (by omega)) h
theorem zS_10_15 {o : Nat} (h : zKd o = (10, 61)) : zKd (zRf o 15) = (12, 24) :=
  (by decide +kernel : ∀ o, o < zNB → zKd o = (10, 61) → zKd (zRf o 15) = (12, 24)) o (zKd_nb h (by omega) (by omega)) h
theorem zS_10_17 {o : Nat} (h : zKd o = (10, 61)) : zKd (zRf o 17) = (12, 300) :=
  (by decide +kernel : ∀ o, o < zNB → zKd o = (10, 61) → zKd (zRf o 17) = (12, 300)) o (zKd_nb h (by omega) (by omega)) h
theorem zS_10_18 {o : Nat} (h : zKd o = (10, 61)) : zKd (zRf o 18) = (12, 300) :=
  (by decide +kernel : ∀ o, o < zNB → zKd o = (10, 61) → zKd (zRf o 18) = (12, 300)) o (zKd_nb h (by omega) (by omega)) h
theorem zS_10_19 {o : Nat} (h : zKd o = (10, 61)) : zKd (zRf o 19) = (12, 300) :=
  (by decide +kernel : ∀ o, o < zNB → zKd o = (10, 61) → zKd (zRf o 19) = (12, 300)) o (zKd_nb h (by omega) (by omega)) h
theorem zS_10_20 {o : Nat} (h : zKd o = (10, 61)) : zKd (zRf o 20) = (12, 300) :=
  (by decide +kernel : ∀ o, o < zNB → zKd o = (10, 61) → zKd (zRf o 20) = (12, 300)) o (zKd_nb h (by omega) (by omega)) h
theorem zS_10_21 {o : Nat} (h : zKd o = (10, 61)) : zKd (zRf o 21) = (12, 300) :=
  (by decide +kernel : ∀ o, o < zNB → zKd o = (10, 61) → zKd (zRf o 21) = (12, 300)) o (zKd_nb h (by omega) (by omega)) h
theorem zS_10_22 {o : Nat} (h : zKd o = (10, 61)) : zKd (zRf o 22) = (16, 2) :=
  (by decide +kernel : ∀ o, o < zNB → zKd o = (10, 61) → zKd (zRf o 22) = (16, 2)) o (zKd_nb h (by omega) (by omega)) h
theorem zS_10_23 {o : Nat} (h : zKd o = (10, 61)) : zKd (zRf o 23) = (16, 2) :=
  (by decide +kernel : ∀ o, o < zNB → zKd o = (10, 61) → zKd (zRf o 23) = (16, 2)) o (zKd_nb h (by omega) (by omega)) h
theorem zS_10_24 {o : Nat} (h : zKd o = (10, 61)) : zKd (zRf o 24) = (17, 2) :=
  (by decide +kernel : ∀ o, o < zNB → zKd o = (10, 61) → zKd (zRf o 24) = (17, 2)) o (zKd_nb h (by omega) (by omega)) h
theorem zS_10_28 {o : Nat} (h : zKd o = (10, 61)) : zKd (zRf o 28) = (13, 24) :=
  (by decide +kernel : ∀ o, o < zNB → zKd o = (10, 61) → zKd (zRf o 28) = (13, 24)) o (zKd_nb h (by omega) (by omega)) h
theorem zS_10_29 {o : Nat} (h : zKd o = (10, 61)) : zKd (zRf o 29) = (12, 24) :=
  (by decide +kernel : ∀ o, o < zNB → zKd o = (10, 61) → zKd (zRf o 29) = (12, 24)) o (zKd_nb h (by omega) (by omega)) h
theorem zS_10_30 {o : Nat} (h : zKd o = (10, 61)) : zKd (zRf o 30) = (12, 24) :=
  (by decide +kernel : ∀ o, o < zNB → zKd o = (10, 61) → zKd (zRf o 30) = (12, 24)) o (zKd_nb h (by omega) (by omega)) h
theorem zS_10_40 {o : Nat} (h : zKd o = (10, 61)) : zKd (zRf o 40) = (12, 12) :=
  (by decide +kernel : ∀ o, o < zNB → zKd o = (10, 61) → zKd (zRf o 40) = (12, 12)) o (zKd_nb h (by omega) (by omega)) h
theorem zS_10_41 {o : Nat} (h : zKd o = (10, 61)) : zKd (zRf o 41) = (12, 12) :=
  (by decide +kernel : ∀ o, o < zNB → zKd o = (10, 61) → zKd (zRf o 41) = (12, 12)) o (zKd_nb h (by omega) (by omega)) h
theorem zS_10_42 {o : Nat} (h : zKd o = (10, 61)) : zKd (zRf o 42) = (12, 12) :=
  (by decide +kernel : ∀ o, o < zNB → zKd o = (10, 61) → zKd (zRf o 42) = (12, 12)) o (zKd_nb h (by omega) (by omega)) h
theorem zS_10_43 {o : Nat} (h : zKd o = (10, 61)) : zKd (zRf o 43) = (12, 12) :=
  (by decide +kernel : ∀ o, o < zNB → zKd o = (10, 61) → zKd (zRf o 43) = (12, 12)) o (zKd_nb h (by omega) (by omega)) h
theorem zS_10_44 {o : Nat} (h : zKd o = (10, 61)) : zKd (zRf o 44) = (12, 12) :=
  (by decide +kernel : ∀ o, o < zNB → zKd o = (10, 61) → zKd (zRf o 44) = (12, 12)) o (zKd_nb h (by omega) (by omega)) h
theorem zS_10_45 {o : Nat} (h : zKd o = (10, 61)) : zKd (zRf o 45) = (13, 12) :=
  (by decide +kernel : ∀ o, o < zNB → zKd o = (10, 61) → zKd (zRf o 45) = (13, 12)) o (zKd_nb h (by omega) (by omega)) h
theorem zS_10_46 {o : Nat} (h : zKd o = (10, 61)) : zKd (zRf o 46) = (13, 12) :=
  (by decide +kernel : ∀ o, o < zNB → zKd o = (10, 61) → zKd (zRf o 46) = (13, 12)) o (zKd_nb h (by omega) (by omega)) h
theorem zS_10_47 {o : Nat} (h : zKd o = (10, 61)) : zKd (zRf o 47) = (13, 300) :=
  (by decide +kernel : ∀ o, o < zNB → zKd o = (10, 61) → zKd (zRf o 47) = (13, 300)) o (zKd_nb h (by omega) (by omega)) h
theorem zS_10_51 {o : Nat} (h : zKd o = (10, 61)) : zKd (zRf o 51) = (12, 60) :=
  (by decide +kernel : ∀ o, o < zNB → zKd o = (10, 61) → zKd (zRf o 51) = (12, 60)) o (zKd_nb h (by omega) (by omega)) h
theorem zS_10_52 {o : Nat} (h : zKd o = (10, 61)) : zKd (zRf o 52) = (12, 60) :=
  (by decide +kernel : ∀ o, o < zNB → zKd o = (10, 61) → zKd (zRf o 52) = (12, 60)) o (zKd_nb h (by omega) (by omega)) h
theorem zS_10_53 {o : Nat} (h : zKd o = (10, 61)) : zKd (zRf o 53) = (12, 400) :=
  (by decide +kernel : ∀ o, o < zNB → zKd o = (10, 61) → zKd (zRf o 53) = (12, 400)) o (zKd_nb h (by omega) (by omega)) h
theorem zS_10_54 {o : Nat} (h : zKd o = (10, 61)) : zKd (zRf o 54) = (18, 400) :=
  (by decide +kernel : ∀ o, o < zNB → zKd o = (10, 61) → zKd (zRf o 54) = (18, 400)) o (zKd_nb h (by omega) (by omega)) h
theorem zS_10_55 {o : Nat} (h : zKd o = (10, 61)) : zKd (zRf o 55) = (12, 24) :=
  (by decide +kernel : ∀ o, o < zNB → zKd o = (10, 61) → zKd (zRf o 55) = (12, 24)) o (zKd_nb h (by omega) (by omega)) h
theorem zS_10_56 {o : Nat} (h : zKd o = (10, 61)) : zKd (zRf o 56) = (12, 24) :=
  (by decide +kernel : ∀ o, o < zNB → zKd o = (10, 61) → zKd (zRf o 56) = (12, 24)) o (zKd_nb h (by omega) (by omega)) h
theorem zS_10_57 {o : Nat} (h : zKd o = (10, 61)) : zKd (zRf o 57) = (12, 6) :=
  (by decide +kernel : ∀ o, o < zNB → zKd o = (10, 61) → zKd (zRf o 57) = (12, 6)) o (zKd_nb h (by omega) (by omega)) h
theorem zS_10_58 {o : Nat} (h : zKd o = (10, 61)) : zKd (zRf o 58) = (19, 6) :=
  (by decide +kernel : ∀ o, o < zNB → zKd o = (10, 61) → zKd (zRf o 58) = (19, 6)) o (zKd_nb h (by omega) (by omega)) h
theorem zS_10_59 {o : Nat} (h : zKd o = (10, 61)) : zKd (zRf o 59) = (20, 6) :=
  (by decide +kernel : ∀ o, o < zNB → zKd o = (10, 61) → zKd (zRf o 59) = (20, 6)) o (zKd_nb h (by omega) (by omega)) h
theorem zS_10_60 {o : Nat} (h : zKd o = (10, 61)) : zKd (zRf o 60) = (13, 24) :=
  (by decide +kernel : ∀ o, o < zNB → zKd o = (10, 61) → zKd (zRf o 60) = (13, 24)) o (zKd_nb h (by omega) (by omega)) h
theorem zW_14_2 {q : Nat} (h : zKd q = (14, 2)) {i : Nat} (hi : i < 2) : zKd (zRf q i) = (12, 8) :=
  (by decide +kernel : ∀ o, o < zNB → zKd o = (14, 2) → ∀ i, i < 2 → zKd (zRf o i) = (12, 8)) q (zKd_nb h (by omega) (by omega)) h i hi
theorem zW_15_2 {q : Nat} (h : zKd q = (15, 2)) {i : Nat} (hi : i < 2) : zKd (zRf q i) = (13, 8) :=
  (by decide +kernel : ∀ o, o < zNB → zKd o = (15, 2) → ∀ i, i < 2 → zKd (zRf o i) = (13, 8)) q (zKd_nb h (by omega) (by omega)) h i hi
theorem zW_16_2 {q : Nat} (h : zKd q = (16, 2)) {i : Nat} (hi : i < 2) : zKd (zRf q i) = (12, 300) :=
  (by decide +kernel : ∀ o, o < zNB → zKd o = (16, 2) → ∀ i, i < 2 → zKd (zRf o i) = (12, 300)) q (zKd_nb h (by omega) (by omega)) h i hi
theorem zW_17_2 {q : Nat} (h : zKd q = (17, 2)) {i : Nat} (hi : i < 2) : zKd (zRf q i) = (13, 300) :=
  (by decide +kernel : ∀ o, o < zNB → zKd o = (17, 2) → ∀ i, i < 2 → zKd (zRf o i) = (13, 300)) q (zKd_nb h (by omega) (by omega)) h i hi
theorem zW_18_400 {q : Nat} (h : zKd q = (18, 400)) {i : Nat} (hi : i < 400) : zKd (zRf q i) = (12, 60) := by
  have hq : q = 140 := (by decide +kernel : ∀ o, o < zNB → zKd o = (18, 400) → o = 140) q (zKd_nb h (by omega) (by omega)) h
  subst hq
  simp only [zRf, zKd, if_true]
  rw [if_neg (by omega), if_pos (by simp only [zNB, zNC]; omega)]
theorem zW_19_6 {q : Nat} (h : zKd q = (19, 6)) {i : Nat} (hi : i < 6) : zKd (zRf q i) = (12, 24) :=
  (by decide +kernel : ∀ o, o < zNB → zKd o = (19, 6) → ∀ i, i < 6 → zKd (zRf o i) = (12, 24)) q (zKd_nb h (by omega) (by omega)) h i hi
theorem zW_20_6 {q : Nat} (h : zKd q = (20, 6)) {i : Nat} (hi : i < 6) : zKd (zRf q i) = (13, 24) :=
  (by decide +kernel : ∀ o, o < zNB → zKd o = (20, 6) → ∀ i, i < 6 → zKd (zRf o i) = (13, 24)) q (zKd_nb h (by omega) (by omega)) h i hi
