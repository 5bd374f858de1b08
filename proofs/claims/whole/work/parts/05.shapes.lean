/-! ===== the cells: kinds and lengths (0 to 10 an object of that class and its number of fields; 11 bytes, 12 ints, 13 booleans; 14.. rows of rows) ===== -/
def zKt : List (Nat × Nat) := [(9, 10), (8, 2), (11, 600), (6, 8), (12, 8), (12, 8), (13, 8), (13, 8), (6, 8), (12, 8), (12, 8), (13, 8), (13, 8), (5, 5), (12, 24), (2, 6), (12, 300), (12, 300), (12, 300), (12, 300), (12, 300), (7, 16), (0, 8), (12, 24), (12, 24), (3, 9), (12, 8), (12, 8), (12, 8), (12, 8), (12, 8), (13, 8), (13, 8), (4, 6), (12, 320), (12, 320), (12, 320), (12, 300), (12, 300), (13, 300), (13, 300), (7, 16), (0, 8), (12, 24), (12, 24), (3, 9), (12, 8), (12, 8), (12, 8), (12, 8), (12, 8), (13, 8), (13, 8), (4, 6), (12, 320), (12, 320), (12, 320), (12, 300), (12, 300), (13, 300), (13, 300), (0, 8), (12, 24), (12, 24), (1, 4), (12, 6), (19, 6), (12, 24), (12, 24), (12, 24), (12, 24), (12, 24), (12, 24), (12, 24), (10, 61), (11, 600), (13, 12), (14, 2), (12, 8), (12, 8), (14, 2), (12, 8), (12, 8), (15, 2), (13, 8), (13, 8), (15, 2), (13, 8), (13, 8), (12, 2), (12, 2), (13, 2), (13, 2), (12, 24), (12, 300), (12, 300), (12, 300), (12, 300), (12, 300), (16, 2), (12, 300), (12, 300), (16, 2), (12, 300), (12, 300), (17, 2), (13, 300), (13, 300), (13, 24), (12, 24), (12, 24), (12, 12), (12, 12), (12, 12), (12, 12), (12, 12), (13, 12), (13, 12), (13, 300), (12, 60), (12, 60), (12, 400), (12, 24), (12, 24), (12, 6), (19, 6), (12, 24), (12, 24), (12, 24), (12, 24), (12, 24), (12, 24), (20, 6), (13, 24), (13, 24), (13, 24), (13, 24), (13, 24), (13, 24), (13, 24), (18, 400)]
abbrev zNB : Nat := 141
abbrev zNC : Nat := 541
def zKd0 (c : Nat) : Nat × Nat := if c < zNB then zKt.getD c (99, 0) else if c < zNC then (12, 60) else (99, 0)
def zRt : List (List Nat) := [[1, 3, 8, 13, 14, 15, 21, 41, 61, 64], [2, 0], [], [4, 5, 6, 7, 0, 0, 0, 0], [], [], [], [], [9, 10, 11, 12, 0, 0, 0, 0], [], [], [], [], [1, 8, 0, 0, 0], [], [16, 17, 18, 19, 20, 0], [], [], [], [], [], [3, 15, 22, 25, 33, 37, 38, 39, 40, 0, 0, 0, 0, 0, 0, 0], [3, 14, 23, 24, 0, 0, 0, 0], [], [], [3, 26, 27, 28, 29, 30, 31, 32, 0], [], [], [], [], [], [], [], [34, 35, 36, 0, 0, 0], [], [], [], [], [], [], [], [3, 15, 42, 45, 53, 57, 58, 59, 60, 0, 0, 0, 0, 0, 0, 0], [3, 14, 43, 44, 0, 0, 0, 0], [], [], [3, 46, 47, 48, 49, 50, 51, 52, 0], [], [], [], [], [], [], [], [54, 55, 56, 0, 0, 0], [], [], [], [], [], [], [], [3, 14, 62, 63, 0, 0, 0, 0], [], [], [14, 65, 66, 73], [], [67, 68, 69, 70, 71, 72], [], [], [], [], [], [], [], [0, 75, 0, 0, 0, 0, 76, 77, 80, 83, 86, 89, 90, 91, 92, 93, 0, 94, 95, 96, 97, 98, 99, 102, 105, 0, 0, 0, 108, 109, 110, 0, 0, 0, 0, 0, 0, 0, 0, 0, 111, 112, 113, 114, 115, 116, 117, 118, 0, 0, 0, 119, 120, 121, 140, 122, 123, 124, 125, 132, 139], [], [], [78, 79], [], [], [81, 82], [], [], [84, 85], [], [], [87, 88], [], [], [], [], [], [], [], [], [], [], [], [], [100, 101], [], [], [103, 104], [], [], [106, 107], [], [], [], [], [], [], [], [], [], [], [], [], [], [], [], [], [], [], [], [126, 127, 128, 129, 130, 131], [], [], [], [], [], [], [133, 134, 135, 136, 137, 138], [], [], [], [], [], [], [], []]
def zRf (c i : Nat) : Nat := if c = 140 then zNB + i else (zRt.getD c []).getD i 0
def zFt : List (List Bool) := [[true, true, true, true, false, false, false, false], [true, true, true, true], [true, true, true, true, true, false], [true, true, true, true, true, true, true, true, false], [true, true, true, false, false, false], [true, true, false, false, false], [true, true, true, true, false, false, false, false], [true, true, true, true, true, true, true, true, true, false, false, false, false, false, false, false], [true, false], [true, true, true, true, true, true, true, true, true, true], [false, true, false, false, false, false, true, true, true, true, true, true, true, true, true, true, false, true, true, true, true, true, true, true, true, false, false, false, true, true, true, false, false, false, false, false, false, false, false, false, true, true, true, true, true, true, true, true, false, false, false, true, true, true, true, true, true, true, true, true, true]]
def zFr (k i : Nat) : Bool := (zFt.getD k []).getD i false
def zAk (k : Nat) : Nat := if k = 15 ∨ k = 17 ∨ k = 20 then 15 else 14
theorem zKd0_lt {c k n : Nat} (h : zKd0 c = (k, n)) (hk : k < 21) : c < zNC := by
  rcases Nat.lt_or_ge c zNC with q | q
  · exact q
  · have h2 : ¬ c < zNB := by simp only [zNB, zNC] at *; omega
    rw [zKd0, if_neg h2, if_neg (by omega)] at h
    have := congrArg Prod.fst h
    simp only at this
    omega
theorem zKd0_nb {c k n : Nat} (h : zKd0 c = (k, n)) (hk : k < 12 ∨ 12 < k ∨ n ≠ 60) (hk2 : k < 21) : c < zNB := by
  rcases Nat.lt_or_ge c zNB with q | q
  · exact q
  · have h1 := zKd0_lt h hk2
    rw [zKd0, if_neg (by omega), if_pos h1] at h
    have a1 := congrArg Prod.fst h
    have a2 := congrArg Prod.snd h
    simp only at a1 a2
    omega
