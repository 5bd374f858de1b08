theorem kd_0 : zKd 0 = (9, 10) := by decide +kernel
theorem kd_1 : zKd 1 = (8, 2) := by decide +kernel
theorem kd_2 : zKd 2 = (11, 600) := by decide +kernel
theorem kd_3 : zKd 3 = (6, 8) := by decide +kernel
theorem kd_4 : zKd 4 = (12, 8) := by decide +kernel
theorem kd_5 : zKd 5 = (12, 8) := by decide +kernel
theorem kd_6 : zKd 6 = (13, 8) := by decide +kernel
theorem kd_7 : zKd 7 = (13, 8) := by decide +kernel
theorem kd_8 : zKd 8 = (6, 8) := by decide +kernel
theorem kd_9 : zKd 9 = (12, 8) := by decide +kernel
theorem kd_10 : zKd 10 = (12, 8) := by decide +kernel
theorem kd_11 : zKd 11 = (13, 8) := by decide +kernel
theorem kd_12 : zKd 12 = (13, 8) := by decide +kernel
theorem kd_13 : zKd 13 = (5, 5) := by decide +kernel
theorem kd_14 : zKd 14 = (12, 24) := by decide +kernel
theorem kd_15 : zKd 15 = (2, 6) := by decide +kernel
theorem kd_16 : zKd 16 = (12, 300) := by decide +kernel
theorem kd_17 : zKd 17 = (12, 300) := by decide +kernel
theorem kd_18 : zKd 18 = (12, 300) := by decide +kernel
theorem kd_19 : zKd 19 = (12, 300) := by decide +kernel
theorem kd_20 : zKd 20 = (12, 300) := by decide +kernel
theorem kd_21 : zKd 21 = (7, 16) := by decide +kernel
theorem kd_22 : zKd 22 = (0, 8) := by decide +kernel
theorem kd_23 : zKd 23 = (12, 24) := by decide +kernel
theorem kd_24 : zKd 24 = (12, 24) := by decide +kernel
theorem kd_25 : zKd 25 = (3, 9) := by decide +kernel
theorem kd_26 : zKd 26 = (12, 8) := by decide +kernel
theorem kd_27 : zKd 27 = (12, 8) := by decide +kernel
theorem kd_28 : zKd 28 = (12, 8) := by decide +kernel
theorem kd_29 : zKd 29 = (12, 8) := by decide +kernel
theorem kd_30 : zKd 30 = (12, 8) := by decide +kernel
theorem kd_31 : zKd 31 = (13, 8) := by decide +kernel
theorem kd_32 : zKd 32 = (13, 8) := by decide +kernel
theorem kd_33 : zKd 33 = (4, 6) := by decide +kernel
theorem kd_34 : zKd 34 = (12, 320) := by decide +kernel
theorem kd_35 : zKd 35 = (12, 320) := by decide +kernel
theorem kd_36 : zKd 36 = (12, 320) := by decide +kernel
theorem kd_37 : zKd 37 = (12, 300) := by decide +kernel
theorem kd_38 : zKd 38 = (12, 300) := by decide +kernel
theorem kd_39 : zKd 39 = (13, 300) := by decide +kernel
theorem kd_40 : zKd 40 = (13, 300) := by decide +kernel
theorem kd_41 : zKd 41 = (7, 16) := by decide +kernel
theorem kd_42 : zKd 42 = (0, 8) := by decide +kernel
theorem kd_43 : zKd 43 = (12, 24) := by decide +kernel
theorem kd_44 : zKd 44 = (12, 24) := by decide +kernel
theorem kd_45 : zKd 45 = (3, 9) := by decide +kernel
theorem kd_46 : zKd 46 = (12, 8) := by decide +kernel
theorem kd_47 : zKd 47 = (12, 8) := by decide +kernel
theorem kd_48 : zKd 48 = (12, 8) := by decide +kernel
theorem kd_49 : zKd 49 = (12, 8) := by decide +kernel
theorem kd_50 : zKd 50 = (12, 8) := by decide +kernel
theorem kd_51 : zKd 51 = (13, 8) := by decide +kernel
theorem kd_52 : zKd 52 = (13, 8) := by decide +kernel
theorem kd_53 : zKd 53 = (4, 6) := by decide +kernel
theorem kd_54 : zKd 54 = (12, 320) := by decide +kernel
theorem kd_55 : zKd 55 = (12, 320) := by decide +kernel
theorem kd_56 : zKd 56 = (12, 320) := by decide +kernel
theorem kd_57 : zKd 57 = (12, 300) := by decide +kernel
theorem kd_58 : zKd 58 = (12, 300) := by decide +kernel
theorem kd_59 : zKd 59 = (13, 300) := by decide +kernel
theorem kd_60 : zKd 60 = (13, 300) := by decide +kernel
theorem kd_61 : zKd 61 = (0, 8) := by decide +kernel
theorem kd_62 : zKd 62 = (12, 24) := by decide +kernel
theorem kd_63 : zKd 63 = (12, 24) := by decide +kernel
theorem kd_64 : zKd 64 = (1, 4) := by decide +kernel
theorem kd_65 : zKd 65 = (12, 6) := by decide +kernel
theorem kd_66 : zKd 66 = (19, 6) := by decide +kernel
theorem kd_67 : zKd 67 = (12, 24) := by decide +kernel
theorem kd_68 : zKd 68 = (12, 24) := by decide +kernel
theorem kd_69 : zKd 69 = (12, 24) := by decide +kernel
theorem kd_70 : zKd 70 = (12, 24) := by decide +kernel
theorem kd_71 : zKd 71 = (12, 24) := by decide +kernel
theorem kd_72 : zKd 72 = (12, 24) := by decide +kernel
theorem kd_73 : zKd 73 = (12, 24) := by decide +kernel
theorem kd_74 : zKd 74 = (10, 61) := by decide +kernel
theorem kd_75 : zKd 75 = (11, 600) := by decide +kernel
theorem kd_76 : zKd 76 = (13, 12) := by decide +kernel
theorem kd_77 : zKd 77 = (14, 2) := by decide +kernel
theorem kd_78 : zKd 78 = (12, 8) := by decide +kernel
theorem kd_79 : zKd 79 = (12, 8) := by decide +kernel
theorem kd_80 : zKd 80 = (14, 2) := by decide +kernel
theorem kd_81 : zKd 81 = (12, 8) := by decide +kernel
theorem kd_82 : zKd 82 = (12, 8) := by decide +kernel
theorem kd_83 : zKd 83 = (15, 2) := by decide +kernel
theorem kd_84 : zKd 84 = (13, 8) := by decide +kernel
theorem kd_85 : zKd 85 = (13, 8) := by decide +kernel
theorem kd_86 : zKd 86 = (15, 2) := by decide +kernel
theorem kd_87 : zKd 87 = (13, 8) := by decide +kernel
theorem kd_88 : zKd 88 = (13, 8) := by decide +kernel
theorem kd_89 : zKd 89 = (12, 2) := by decide +kernel
theorem kd_90 : zKd 90 = (12, 2) := by decide +kernel
theorem kd_91 : zKd 91 = (13, 2) := by decide +kernel
theorem kd_92 : zKd 92 = (13, 2) := by decide +kernel
theorem kd_93 : zKd 93 = (12, 24) := by decide +kernel
theorem kd_94 : zKd 94 = (12, 300) := by decide +kernel
theorem kd_95 : zKd 95 = (12, 300) := by decide +kernel
theorem kd_96 : zKd 96 = (12, 300) := by decide +kernel
theorem kd_97 : zKd 97 = (12, 300) := by decide +kernel
theorem kd_98 : zKd 98 = (12, 300) := by decide +kernel
theorem kd_99 : zKd 99 = (16, 2) := by decide +kernel
theorem kd_100 : zKd 100 = (12, 300) := by decide +kernel
theorem kd_101 : zKd 101 = (12, 300) := by decide +kernel
theorem kd_102 : zKd 102 = (16, 2) := by decide +kernel
theorem kd_103 : zKd 103 = (12, 300) := by decide +kernel
theorem kd_104 : zKd 104 = (12, 300) := by decide +kernel
theorem kd_105 : zKd 105 = (17, 2) := by decide +kernel
theorem kd_106 : zKd 106 = (13, 300) := by decide +kernel
theorem kd_107 : zKd 107 = (13, 300) := by decide +kernel
theorem kd_108 : zKd 108 = (13, 24) := by decide +kernel
theorem kd_109 : zKd 109 = (12, 24) := by decide +kernel
theorem kd_110 : zKd 110 = (12, 24) := by decide +kernel
theorem kd_111 : zKd 111 = (12, 12) := by decide +kernel
theorem kd_112 : zKd 112 = (12, 12) := by decide +kernel
theorem kd_113 : zKd 113 = (12, 12) := by decide +kernel
theorem kd_114 : zKd 114 = (12, 12) := by decide +kernel
theorem kd_115 : zKd 115 = (12, 12) := by decide +kernel
theorem kd_116 : zKd 116 = (13, 12) := by decide +kernel
theorem kd_117 : zKd 117 = (13, 12) := by decide +kernel
theorem kd_118 : zKd 118 = (13, 300) := by decide +kernel
theorem kd_119 : zKd 119 = (12, 60) := by decide +kernel
theorem kd_120 : zKd 120 = (12, 60) := by decide +kernel
theorem kd_121 : zKd 121 = (12, 400) := by decide +kernel
theorem kd_122 : zKd 122 = (12, 24) := by decide +kernel
theorem kd_123 : zKd 123 = (12, 24) := by decide +kernel
theorem kd_124 : zKd 124 = (12, 6) := by decide +kernel
theorem kd_125 : zKd 125 = (19, 6) := by decide +kernel
theorem kd_126 : zKd 126 = (12, 24) := by decide +kernel
theorem kd_127 : zKd 127 = (12, 24) := by decide +kernel
theorem kd_128 : zKd 128 = (12, 24) := by decide +kernel
theorem kd_129 : zKd 129 = (12, 24) := by decide +kernel
theorem kd_130 : zKd 130 = (12, 24) := by decide +kernel
theorem kd_131 : zKd 131 = (12, 24) := by decide +kernel
theorem kd_132 : zKd 132 = (20, 6) := by decide +kernel
theorem kd_133 : zKd 133 = (13, 24) := by decide +kernel
theorem kd_134 : zKd 134 = (13, 24) := by decide +kernel
theorem kd_135 : zKd 135 = (13, 24) := by decide +kernel
theorem kd_136 : zKd 136 = (13, 24) := by decide +kernel
theorem kd_137 : zKd 137 = (13, 24) := by decide +kernel
theorem kd_138 : zKd 138 = (13, 24) := by decide +kernel
theorem kd_139 : zKd 139 = (13, 24) := by decide +kernel
theorem kd_140 : zKd 140 = (18, 400) := by decide +kernel
theorem zR_0_0 {o : Nat} (h : zKd o = (0, 8)) : zRf o 0 = 3 :=
  (by decide +kernel : ∀ o, o < zNB → zKd o = (0, 8) → zRf o 0 = 3) o (zKd_nb h (by omega) (by omega)) h
theorem zR_0_1 {o : Nat} (h : zKd o = (0, 8)) : zRf o 1 = 14 :=
  (by decide +kernel : ∀ o, o < zNB → zKd o = (0, 8) → zRf o 1 = 14) o (zKd_nb h (by omega) (by omega)) h
theorem zR_0_2 {o : Nat} (h : zKd o = (0, 8)) : zRf o 2 = o + 1 :=
  (by decide +kernel : ∀ o, o < zNB → zKd o = (0, 8) → zRf o 2 = o + 1) o (zKd_nb h (by omega) (by omega)) h
theorem zQ_0_2 {o : Nat} (h : zKd o = (0, 8)) : zKd (o + 1) = (12, 24) :=
  (by decide +kernel : ∀ o, o < zNB → zKd o = (0, 8) → zKd (o + 1) = (12, 24)) o (zKd_nb h (by omega) (by omega)) h
theorem zR_0_3 {o : Nat} (h : zKd o = (0, 8)) : zRf o 3 = o + 2 :=
  (by decide +kernel : ∀ o, o < zNB → zKd o = (0, 8) → zRf o 3 = o + 2) o (zKd_nb h (by omega) (by omega)) h
theorem zQ_0_3 {o : Nat} (h : zKd o = (0, 8)) : zKd (o + 2) = (12, 24) :=
  (by decide +kernel : ∀ o, o < zNB → zKd o = (0, 8) → zKd (o + 2) = (12, 24)) o (zKd_nb h (by omega) (by omega)) h
theorem zR_1_0 (_ : zKd 64 = (1, 4)) : zRf 64 0 = 14 := by decide +kernel
theorem zR_1_1 (_ : zKd 64 = (1, 4)) : zRf 64 1 = 65 := by decide +kernel
theorem zR_1_2 (_ : zKd 64 = (1, 4)) : zRf 64 2 = 66 := by decide +kernel
theorem zR_1_3 (_ : zKd 64 = (1, 4)) : zRf 64 3 = 73 := by decide +kernel
theorem zR_2_0 (_ : zKd 15 = (2, 6)) : zRf 15 0 = 16 := by decide +kernel
theorem zR_2_1 (_ : zKd 15 = (2, 6)) : zRf 15 1 = 17 := by decide +kernel
theorem zR_2_2 (_ : zKd 15 = (2, 6)) : zRf 15 2 = 18 := by decide +kernel
theorem zR_2_3 (_ : zKd 15 = (2, 6)) : zRf 15 3 = 19 := by decide +kernel
theorem zR_2_4 (_ : zKd 15 = (2, 6)) : zRf 15 4 = 20 := by decide +kernel
theorem zR_3_0 {o : Nat} (h : zKd o = (3, 9)) : zRf o 0 = 3 :=
  (by decide +kernel : ∀ o, o < zNB → zKd o = (3, 9) → zRf o 0 = 3) o (zKd_nb h (by omega) (by omega)) h
theorem zR_3_1 {o : Nat} (h : zKd o = (3, 9)) : zRf o 1 = o + 1 :=
  (by decide +kernel : ∀ o, o < zNB → zKd o = (3, 9) → zRf o 1 = o + 1) o (zKd_nb h (by omega) (by omega)) h
theorem zQ_3_1 {o : Nat} (h : zKd o = (3, 9)) : zKd (o + 1) = (12, 8) :=
  (by decide +kernel : ∀ o, o < zNB → zKd o = (3, 9) → zKd (o + 1) = (12, 8)) o (zKd_nb h (by omega) (by omega)) h
theorem zR_3_2 {o : Nat} (h : zKd o = (3, 9)) : zRf o 2 = o + 2 :=
  (by decide +kernel : ∀ o, o < zNB → zKd o = (3, 9) → zRf o 2 = o + 2) o (zKd_nb h (by omega) (by omega)) h
theorem zQ_3_2 {o : Nat} (h : zKd o = (3, 9)) : zKd (o + 2) = (12, 8) :=
  (by decide +kernel : ∀ o, o < zNB → zKd o = (3, 9) → zKd (o + 2) = (12, 8)) o (zKd_nb h (by omega) (by omega)) h
theorem zR_3_3 {o : Nat} (h : zKd o = (3, 9)) : zRf o 3 = o + 3 :=
  (by decide +kernel : ∀ o, o < zNB → zKd o = (3, 9) → zRf o 3 = o + 3) o (zKd_nb h (by omega) (by omega)) h
theorem zQ_3_3 {o : Nat} (h : zKd o = (3, 9)) : zKd (o + 3) = (12, 8) :=
  (by decide +kernel : ∀ o, o < zNB → zKd o = (3, 9) → zKd (o + 3) = (12, 8)) o (zKd_nb h (by omega) (by omega)) h
theorem zR_3_4 {o : Nat} (h : zKd o = (3, 9)) : zRf o 4 = o + 4 :=
  (by decide +kernel : ∀ o, o < zNB → zKd o = (3, 9) → zRf o 4 = o + 4) o (zKd_nb h (by omega) (by omega)) h
theorem zQ_3_4 {o : Nat} (h : zKd o = (3, 9)) : zKd (o + 4) = (12, 8) :=
  (by decide +kernel : ∀ o, o < zNB → zKd o = (3, 9) → zKd (o + 4) = (12, 8)) o (zKd_nb h (by omega) (by omega)) h
theorem zR_3_5 {o : Nat} (h : zKd o = (3, 9)) : zRf o 5 = o + 5 :=
  (by decide +kernel : ∀ o, o < zNB → zKd o = (3, 9) → zRf o 5 = o + 5) o (zKd_nb h (by omega) (by omega)) h
theorem zQ_3_5 {o : Nat} (h : zKd o = (3, 9)) : zKd (o + 5) = (12, 8) :=
  (by decide +kernel : ∀ o, o < zNB → zKd o = (3, 9) → zKd (o + 5) = (12, 8)) o (zKd_nb h (by omega) (by omega)) h
theorem zR_3_6 {o : Nat} (h : zKd o = (3, 9)) : zRf o 6 = o + 6 :=
  (by decide +kernel : ∀ o, o < zNB → zKd o = (3, 9) → zRf o 6 = o + 6) o (zKd_nb h (by omega) (by omega)) h
theorem zQ_3_6 {o : Nat} (h : zKd o = (3, 9)) : zKd (o + 6) = (13, 8) :=
  (by decide +kernel : ∀ o, o < zNB → zKd o = (3, 9) → zKd (o + 6) = (13, 8)) o (zKd_nb h (by omega) (by omega)) h
theorem zR_3_7 {o : Nat} (h : zKd o = (3, 9)) : zRf o 7 = o + 7 :=
  (by decide +kernel : ∀ o, o < zNB → zKd o = (3, 9) → zRf o 7 = o + 7) o (zKd_nb h (by omega) (by omega)) h
theorem zQ_3_7 {o : Nat} (h : zKd o = (3, 9)) : zKd (o + 7) = (13, 8) :=
  (by decide +kernel : ∀ o, o < zNB → zKd o = (3, 9) → zKd (o + 7) = (13, 8)) o (zKd_nb h (by omega) (by omega)) h
theorem zR_4_0 {o : Nat} (h : zKd o = (4, 6)) : zRf o 0 = o + 1 :=
  (by decide +kernel : ∀ o, o < zNB → zKd o = (4, 6) → zRf o 0 = o + 1) o (zKd_nb h (by omega) (by omega)) h
theorem zQ_4_0 {o : Nat} (h : zKd o = (4, 6)) : zKd (o + 1) = (12, 320) :=
  (by decide +kernel : ∀ o, o < zNB → zKd o = (4, 6) → zKd (o + 1) = (12, 320)) o (zKd_nb h (by omega) (by omega)) h
theorem zR_4_1 {o : Nat} (h : zKd o = (4, 6)) : zRf o 1 = o + 2 :=
  (by decide +kernel : ∀ o, o < zNB → zKd o = (4, 6) → zRf o 1 = o + 2) o (zKd_nb h (by omega) (by omega)) h
theorem zQ_4_1 {o : Nat} (h : zKd o = (4, 6)) : zKd (o + 2) = (12, 320) :=
  (by decide +kernel : ∀ o, o < zNB → zKd o = (4, 6) → zKd (o + 2) = (12, 320)) o (zKd_nb h (by omega) (by omega)) h
theorem zR_4_2 {o : Nat} (h : zKd o = (4, 6)) : zRf o 2 = o + 3 :=
  (by decide +kernel : ∀ o, o < zNB → zKd o = (4, 6) → zRf o 2 = o + 3) o (zKd_nb h (by omega) (by omega)) h
theorem zQ_4_2 {o : Nat} (h : zKd o = (4, 6)) : zKd (o + 3) = (12, 320) :=
  (by decide +kernel : ∀ o, o < zNB → zKd o = (4, 6) → zKd (o + 3) = (12, 320)) o (zKd_nb h (by omega) (by omega)) h
theorem zR_5_0 (_ : zKd 13 = (5, 5)) : zRf 13 0 = 1 := by decide +kernel
theorem zR_5_1 (_ : zKd 13 = (5, 5)) : zRf 13 1 = 8 := by decide +kernel
theorem zR_6_0 {o : Nat} (h : zKd o = (6, 8)) : zRf o 0 = o + 1 :=
  (by decide +kernel : ∀ o, o < zNB → zKd o = (6, 8) → zRf o 0 = o + 1) o (zKd_nb h (by omega) (by omega)) h
theorem zQ_6_0 {o : Nat} (h : zKd o = (6, 8)) : zKd (o + 1) = (12, 8) :=
  (by decide +kernel : ∀ o, o < zNB → zKd o = (6, 8) → zKd (o + 1) = (12, 8)) o (zKd_nb h (by omega) (by omega)) h
theorem zR_6_1 {o : Nat} (h : zKd o = (6, 8)) : zRf o 1 = o + 2 :=
  (by decide +kernel : ∀ o, o < zNB → zKd o = (6, 8) → zRf o 1 = o + 2) o (zKd_nb h (by omega) (by omega)) h
theorem zQ_6_1 {o : Nat} (h : zKd o = (6, 8)) : zKd (o + 2) = (12, 8) :=
  (by decide +kernel : ∀ o, o < zNB → zKd o = (6, 8) → zKd (o + 2) = (12, 8)) o (zKd_nb h (by omega) (by omega)) h
theorem zR_6_2 {o : Nat} (h : zKd o = (6, 8)) : zRf o 2 = o + 3 :=
  (by decide +kernel : ∀ o, o < zNB → zKd o = (6, 8) → zRf o 2 = o + 3) o (zKd_nb h (by omega) (by omega)) h
theorem zQ_6_2 {o : Nat} (h : zKd o = (6, 8)) : zKd (o + 3) = (13, 8) :=
  (by decide +kernel : ∀ o, o < zNB → zKd o = (6, 8) → zKd (o + 3) = (13, 8)) o (zKd_nb h (by omega) (by omega)) h
theorem zR_6_3 {o : Nat} (h : zKd o = (6, 8)) : zRf o 3 = o + 4 :=
  (by decide +kernel : ∀ o, o < zNB → zKd o = (6, 8) → zRf o 3 = o + 4) o (zKd_nb h (by omega) (by omega)) h
theorem zQ_6_3 {o : Nat} (h : zKd o = (6, 8)) : zKd (o + 4) = (13, 8) :=
  (by decide +kernel : ∀ o, o < zNB → zKd o = (6, 8) → zKd (o + 4) = (13, 8)) o (zKd_nb h (by omega) (by omega)) h
theorem zR_7_0 {o : Nat} (h : zKd o = (7, 16)) : zRf o 0 = 3 :=
  (by decide +kernel : ∀ o, o < zNB → zKd o = (7, 16) → zRf o 0 = 3) o (zKd_nb h (by omega) (by omega)) h
theorem zR_7_1 {o : Nat} (h : zKd o = (7, 16)) : zRf o 1 = 15 :=
  (by decide +kernel : ∀ o, o < zNB → zKd o = (7, 16) → zRf o 1 = 15) o (zKd_nb h (by omega) (by omega)) h
theorem zR_7_2 {o : Nat} (h : zKd o = (7, 16)) : zRf o 2 = o + 1 :=
  (by decide +kernel : ∀ o, o < zNB → zKd o = (7, 16) → zRf o 2 = o + 1) o (zKd_nb h (by omega) (by omega)) h
theorem zQ_7_2 {o : Nat} (h : zKd o = (7, 16)) : zKd (o + 1) = (0, 8) :=
  (by decide +kernel : ∀ o, o < zNB → zKd o = (7, 16) → zKd (o + 1) = (0, 8)) o (zKd_nb h (by omega) (by omega)) h
theorem zR_7_3 {o : Nat} (h : zKd o = (7, 16)) : zRf o 3 = o + 4 :=
  (by decide +kernel : ∀ o, o < zNB → zKd o = (7, 16) → zRf o 3 = o + 4) o (zKd_nb h (by omega) (by omega)) h
theorem zQ_7_3 {o : Nat} (h : zKd o = (7, 16)) : zKd (o + 4) = (3, 9) :=
  (by decide +kernel : ∀ o, o < zNB → zKd o = (7, 16) → zKd (o + 4) = (3, 9)) o (zKd_nb h (by omega) (by omega)) h
theorem zR_7_4 {o : Nat} (h : zKd o = (7, 16)) : zRf o 4 = o + 12 :=
  (by decide +kernel : ∀ o, o < zNB → zKd o = (7, 16) → zRf o 4 = o + 12) o (zKd_nb h (by omega) (by omega)) h
theorem zQ_7_4 {o : Nat} (h : zKd o = (7, 16)) : zKd (o + 12) = (4, 6) :=
  (by decide +kernel : ∀ o, o < zNB → zKd o = (7, 16) → zKd (o + 12) = (4, 6)) o (zKd_nb h (by omega) (by omega)) h
theorem zR_7_5 {o : Nat} (h : zKd o = (7, 16)) : zRf o 5 = o + 16 :=
  (by decide +kernel : ∀ o, o < zNB → zKd o = (7, 16) → zRf o 5 = o + 16) o (zKd_nb h (by omega) (by omega)) h
theorem zQ_7_5 {o : Nat} (h : zKd o = (7, 16)) : zKd (o + 16) = (12, 300) :=
  (by decide +kernel : ∀ o, o < zNB → zKd o = (7, 16) → zKd (o + 16) = (12, 300)) o (zKd_nb h (by omega) (by omega)) h
theorem zR_7_6 {o : Nat} (h : zKd o = (7, 16)) : zRf o 6 = o + 17 :=
  (by decide +kernel : ∀ o, o < zNB → zKd o = (7, 16) → zRf o 6 = o + 17) o (zKd_nb h (by omega) (by omega)) h
theorem zQ_7_6 {o : Nat} (h : zKd o = (7, 16)) : zKd (o + 17) = (12, 300) :=
  (by decide +kernel : ∀ o, o < zNB → zKd o = (7, 16) → zKd (o + 17) = (12, 300)) o (zKd_nb h (by omega) (by omega)) h
theorem zR_7_7 {o : Nat} (h : zKd o = (7, 16)) : zRf o 7 = o + 18 :=
  (by decide +kernel : ∀ o, o < zNB → zKd o = (7, 16) → zRf o 7 = o + 18) o (zKd_nb h (by omega) (by omega)) h
theorem zQ_7_7 {o : Nat} (h : zKd o = (7, 16)) : zKd (o + 18) = (13, 300) :=
  (by decide +kernel : ∀ o, o < zNB → zKd o = (7, 16) → zKd (o + 18) = (13, 300)) o (zKd_nb h (by omega) (by omega)) h
theorem zR_7_8 {o : Nat} (h : zKd o = (7, 16)) : zRf o 8 = o + 19 :=
  (by decide +kernel : ∀ o, o < zNB → zKd o = (7, 16) → zRf o 8 = o + 19) o (zKd_nb h (by omega) (by omega)) h
theorem zQ_7_8 {o : Nat} (h : zKd o = (7, 16)) : zKd (o + 19) = (13, 300) :=
  (by decide +kernel : ∀ o, o < zNB → zKd o = (7, 16) → zKd (o + 19) = (13, 300)) o (zKd_nb h (by omega) (by omega)) h
theorem zR_8_0 (_ : zKd 1 = (8, 2)) : zRf 1 0 = 2 := by decide +kernel
theorem zR_9_0 (_ : zKd 0 = (9, 10)) : zRf 0 0 = 1 := by decide +kernel
theorem zR_9_1 (_ : zKd 0 = (9, 10)) : zRf 0 1 = 3 := by decide +kernel
theorem zR_9_2 (_ : zKd 0 = (9, 10)) : zRf 0 2 = 8 := by decide +kernel
theorem zR_9_3 (_ : zKd 0 = (9, 10)) : zRf 0 3 = 13 := by decide +kernel
theorem zR_9_4 (_ : zKd 0 = (9, 10)) : zRf 0 4 = 14 := by decide +kernel
theorem zR_9_5 (_ : zKd 0 = (9, 10)) : zRf 0 5 = 15 := by decide +kernel
theorem zR_9_6 (_ : zKd 0 = (9, 10)) : zRf 0 6 = 21 := by decide +kernel
theorem zR_9_7 (_ : zKd 0 = (9, 10)) : zRf 0 7 = 41 := by decide +kernel
theorem zR_9_8 (_ : zKd 0 = (9, 10)) : zRf 0 8 = 61 := by decide +kernel
theorem zR_9_9 (_ : zKd 0 = (9, 10)) : zRf 0 9 = 64 := by decide +kernel
theorem zR_10_1 (_ : zKd 74 = (10, 61)) : zRf 74 1 = 75 := by decide +kernel
theorem zR_10_6 (_ : zKd 74 = (10, 61)) : zRf 74 6 = 76 := by decide +kernel
theorem zR_10_7 (_ : zKd 74 = (10, 61)) : zRf 74 7 = 77 := by decide +kernel
theorem zR_10_8 (_ : zKd 74 = (10, 61)) : zRf 74 8 = 80 := by decide +kernel
theorem zR_10_9 (_ : zKd 74 = (10, 61)) : zRf 74 9 = 83 := by decide +kernel
theorem zR_10_10 (_ : zKd 74 = (10, 61)) : zRf 74 10 = 86 := by decide +kernel
theorem zR_10_11 (_ : zKd 74 = (10, 61)) : zRf 74 11 = 89 := by decide +kernel
theorem zR_10_12 (_ : zKd 74 = (10, 61)) : zRf 74 12 = 90 := by decide +kernel
theorem zR_10_13 (_ : zKd 74 = (10, 61)) : zRf 74 13 = 91 := by decide +kernel
theorem zR_10_14 (_ : zKd 74 = (10, 61)) : zRf 74 14 = 92 := by decide +kernel
theorem zR_10_15 (_ : zKd 74 = (10, 61)) : zRf 74 15 = 93 := by decide +kernel
theorem zR_10_17 (_ : zKd 74 = (10, 61)) : zRf 74 17 = 94 := by decide +kernel
theorem zR_10_18 (_ : zKd 74 = (10, 61)) : zRf 74 18 = 95 := by decide +kernel
theorem zR_10_19 (_ : zKd 74 = (10, 61)) : zRf 74 19 = 96 := by decide +kernel
theorem zR_10_20 (_ : zKd 74 = (10, 61)) : zRf 74 20 = 97 := by decide +kernel
theorem zR_10_21 (_ : zKd 74 = (10, 61)) : zRf 74 21 = 98 := by decide +kernel
theorem zR_10_22 (_ : zKd 74 = (10, 61)) : zRf 74 22 = 99 := by decide +kernel
theorem zR_10_23 (_ : zKd 74 = (10, 61)) : zRf 74 23 = 102 := by decide +kernel
theorem zR_10_24 (_ : zKd 74 = (10, 61)) : zRf 74 24 = 105 := by decide +kernel
theorem zR_10_28 (_ : zKd 74 = (10, 61)) : zRf 74 28 = 108 := by decide +kernel
theorem zR_10_29 (_ : zKd 74 = (10, 61)) : zRf 74 29 = 109 := by decide +kernel
theorem zR_10_30 (_ : zKd 74 = (10, 61)) : zRf 74 30 = 110 := by decide +kernel
theorem zR_10_40 (_ : zKd 74 = (10, 61)) : zRf 74 40 = 111 := by decide +kernel
theorem zR_10_41 (_ : zKd 74 = (10, 61)) : zRf 74 41 = 112 := by decide +kernel
theorem zR_10_42 (_ : zKd 74 = (10, 61)) : zRf 74 42 = 113 := by decide +kernel
theorem zR_10_43 (_ : zKd 74 = (10, 61)) : zRf 74 43 = 114 := by decide +kernel
theorem zR_10_44 (_ : zKd 74 = (10, 61)) : zRf 74 44 = 115 := by decide +kernel
theorem zR_10_45 (_ : zKd 74 = (10, 61)) : zRf 74 45 = 116 := by decide +kernel
theorem zR_10_46 (_ : zKd 74 = (10, 61)) : zRf 74 46 = 117 := by decide +kernel
theorem zR_10_47 (_ : zKd 74 = (10, 61)) : zRf 74 47 = 118 := by decide +kernel
theorem zR_10_51 (_ : zKd 74 = (10, 61)) : zRf 74 51 = 119 := by decide +kernel
theorem zR_10_52 (_ : zKd 74 = (10, 61)) : zRf 74 52 = 120 := by decide +kernel
theorem zR_10_53 (_ : zKd 74 = (10, 61)) : zRf 74 53 = 121 := by decide +kernel
theorem zR_10_54 (_ : zKd 74 = (10, 61)) : zRf 74 54 = 140 := by decide +kernel
theorem zR_10_55 (_ : zKd 74 = (10, 61)) : zRf 74 55 = 122 := by decide +kernel
theorem zR_10_56 (_ : zKd 74 = (10, 61)) : zRf 74 56 = 123 := by decide +kernel
theorem zR_10_57 (_ : zKd 74 = (10, 61)) : zRf 74 57 = 124 := by decide +kernel
theorem zR_10_58 (_ : zKd 74 = (10, 61)) : zRf 74 58 = 125 := by decide +kernel
theorem zR_10_59 (_ : zKd 74 = (10, 61)) : zRf 74 59 = 132 := by decide +kernel
theorem zR_10_60 (_ : zKd 74 = (10, 61)) : zRf 74 60 = 139 := by decide +kernel
theorem rw_66 {i : Nat} (h : i < 6) : zRf 66 i = 67 + i :=
  (by decide +kernel : ∀ i, i < 6 → zRf 66 i = 67 + i) i h
theorem rk_66 {i : Nat} (h : i < 6) : zKd (67 + i) = (12, 24) :=
  (by decide +kernel : ∀ i, i < 6 → zKd (67 + i) = (12, 24)) i h
theorem rw_77 {i : Nat} (h : i < 2) : zRf 77 i = 78 + i :=
  (by decide +kernel : ∀ i, i < 2 → zRf 77 i = 78 + i) i h
theorem rk_77 {i : Nat} (h : i < 2) : zKd (78 + i) = (12, 8) :=
  (by decide +kernel : ∀ i, i < 2 → zKd (78 + i) = (12, 8)) i h
theorem rw_80 {i : Nat} (h : i < 2) : zRf 80 i = 81 + i :=
  (by decide +kernel : ∀ i, i < 2 → zRf 80 i = 81 + i) i h
theorem rk_80 {i : Nat} (h : i < 2) : zKd (81 + i) = (12, 8) :=
  (by decide +kernel : ∀ i, i < 2 → zKd (81 + i) = (12, 8)) i h
theorem rw_83 {i : Nat} (h : i < 2) : zRf 83 i = 84 + i :=
  (by decide +kernel : ∀ i, i < 2 → zRf 83 i = 84 + i) i h
theorem rk_83 {i : Nat} (h : i < 2) : zKd (84 + i) = (13, 8) :=
  (by decide +kernel : ∀ i, i < 2 → zKd (84 + i) = (13, 8)) i h
theorem rw_86 {i : Nat} (h : i < 2) : zRf 86 i = 87 + i :=
  (by decide +kernel : ∀ i, i < 2 → zRf 86 i = 87 + i) i h
theorem rk_86 {i : Nat} (h : i < 2) : zKd (87 + i) = (13, 8) :=
  (by decide +kernel : ∀ i, i < 2 → zKd (87 + i) = (13, 8)) i h
theorem rw_99 {i : Nat} (h : i < 2) : zRf 99 i = 100 + i :=
  (by decide +kernel : ∀ i, i < 2 → zRf 99 i = 100 + i) i h
theorem rk_99 {i : Nat} (h : i < 2) : zKd (100 + i) = (12, 300) :=
  (by decide +kernel : ∀ i, i < 2 → zKd (100 + i) = (12, 300)) i h
theorem rw_102 {i : Nat} (h : i < 2) : zRf 102 i = 103 + i :=
  (by decide +kernel : ∀ i, i < 2 → zRf 102 i = 103 + i) i h
theorem rk_102 {i : Nat} (h : i < 2) : zKd (103 + i) = (12, 300) :=
  (by decide +kernel : ∀ i, i < 2 → zKd (103 + i) = (12, 300)) i h
theorem rw_105 {i : Nat} (h : i < 2) : zRf 105 i = 106 + i :=
  (by decide +kernel : ∀ i, i < 2 → zRf 105 i = 106 + i) i h
theorem rk_105 {i : Nat} (h : i < 2) : zKd (106 + i) = (13, 300) :=
  (by decide +kernel : ∀ i, i < 2 → zKd (106 + i) = (13, 300)) i h
theorem rw_125 {i : Nat} (h : i < 6) : zRf 125 i = 126 + i :=
  (by decide +kernel : ∀ i, i < 6 → zRf 125 i = 126 + i) i h
theorem rk_125 {i : Nat} (h : i < 6) : zKd (126 + i) = (12, 24) :=
  (by decide +kernel : ∀ i, i < 6 → zKd (126 + i) = (12, 24)) i h
theorem rw_132 {i : Nat} (h : i < 6) : zRf 132 i = 133 + i :=
  (by decide +kernel : ∀ i, i < 6 → zRf 132 i = 133 + i) i h
theorem rk_132 {i : Nat} (h : i < 6) : zKd (133 + i) = (13, 24) :=
  (by decide +kernel : ∀ i, i < 6 → zKd (133 + i) = (13, 24)) i h
theorem rw_140 {i : Nat} (_ : i < 400) : zRf 140 i = 141 + i := rfl
theorem rk_140 {i : Nat} (h : i < 400) : zKd (141 + i) = (12, 60) := by
  rw [zKd, if_neg (by simp only [zNB]; omega), if_pos (by simp only [zNC]; omega)]
theorem zN_0 : (RX9, 11, yX8_init, RX9) ∈ zNw := List.mem_of_getElem? (i := 0) rfl
theorem zN_1 : (RX9, 41, yX2_init, RX9) ∈ zNw := List.mem_of_getElem? (i := 1) rfl
theorem zN_2 : (RX7, 53, yX4_init, RX9) ∈ zNw := List.mem_of_getElem? (i := 2) rfl
theorem zN_3 : (RX5, 103, yX9_isKind, RX9) ∈ zNw := List.mem_of_getElem? (i := 3) rfl
theorem zN_4 : (RX6, 42, yX9_isKind, RX9) ∈ zNw := List.mem_of_getElem? (i := 4) rfl
theorem zN_5 : (RX2, 31, yX9_isActNumber, RX9) ∈ zNw := List.mem_of_getElem? (i := 5) rfl
theorem zN_6 : (RX7, 96, yX9_isActNumber, RX9) ∈ zNw := List.mem_of_getElem? (i := 6) rfl
theorem zN_7 : (RX7, 141, yX9_isMember, RX9) ∈ zNw := List.mem_of_getElem? (i := 7) rfl
theorem zN_8 : (RX7, 168, yX9_isKind, RX9) ∈ zNw := List.mem_of_getElem? (i := 8) rfl
theorem zN_9 : (RX3, 52, yX9_isKind, RX9) ∈ zNw := List.mem_of_getElem? (i := 9) rfl
theorem zN_10 : (RX0, 59, yX9_isMember, RX9) ∈ zNw := List.mem_of_getElem? (i := 10) rfl
theorem zN_11 : (RX1, 26, yX9_isSchool, RX9) ∈ zNw := List.mem_of_getElem? (i := 11) rfl
theorem zN_12 : (RX1, 30, yX9_isMember, RX9) ∈ zNw := List.mem_of_getElem? (i := 12) rfl
