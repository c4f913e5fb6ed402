/-! THE LAYOUT: printed by wip/whole/gen_layout.py: the class has cells 1 to 185, the reference 186 to 231 -/
def CLSL : List Nat := [99, 11, 4, 100, 4, 100, 2, 4, 100, 100, 100, 100, 0, 10, 4, 100, 4, 100, 4, 100, 4, 100, 4, 100, 4, 100, 4, 100, 4, 100, 8, 4, 100, 4, 100, 4, 100, 4, 100, 4, 100, 4, 100, 4, 100, 4, 100, 4, 100, 4, 100, 4, 100, 4, 100, 4, 100, 4, 100, 4, 100, 4, 100, 4, 100, 4, 100, 4, 100, 4, 100, 4, 100, 0, 10, 4, 100, 4, 100, 4, 100, 4, 100, 4, 100, 4, 100, 4, 100, 4, 100, 8, 4, 100, 4, 100, 4, 100, 4, 100, 4, 100, 4, 100, 4, 100, 4, 100, 4, 100, 4, 100, 4, 100, 4, 100, 4, 100, 4, 100, 4, 100, 4, 100, 4, 100, 4, 100, 4, 100, 4, 100, 4, 100, 3, 5, 4, 100, 4, 100, 4, 100, 9, 4, 100, 4, 100, 7, 6, 1, 4, 100, 4, 100, 4, 100, 4, 100, 4, 100, 4, 100, 4, 100, 4, 100, 4, 100, 4, 100, 4, 100, 4, 100, 4, 100, 4, 100, 4, 100, 4, 100, 4, 100, 4, 100, 12, 100, 100, 100, 100, 100, 101, 101, 101, 101, 101, 100, 100, 100, 100, 100, 100, 100, 100, 100, 101, 101, 100, 100, 100, 100, 100, 100, 100, 100, 100, 100, 100, 102, 100, 100, 100, 100, 100, 100, 101, 100, 100, 100, 100, 100]
def LENL : List Nat := [0, 0, 0, 1000, 0, 4000, 0, 0, 17, 1001, 1001, 1001, 0, 0, 0, 1000, 0, 1000, 0, 1000, 0, 1000, 0, 500, 0, 500, 0, 201, 0, 201, 0, 0, 1000, 0, 1000, 0, 1000, 0, 1000, 0, 1000, 0, 12, 0, 12, 0, 12, 0, 12, 0, 12, 0, 12, 0, 12, 0, 12, 0, 48, 0, 250, 0, 250, 0, 250, 0, 250, 0, 500, 0, 500, 0, 500, 0, 0, 0, 1000, 0, 1000, 0, 1000, 0, 1000, 0, 500, 0, 500, 0, 201, 0, 201, 0, 0, 1000, 0, 1000, 0, 1000, 0, 1000, 0, 1000, 0, 12, 0, 12, 0, 12, 0, 12, 0, 12, 0, 12, 0, 12, 0, 12, 0, 48, 0, 250, 0, 250, 0, 250, 0, 250, 0, 500, 0, 500, 0, 500, 0, 0, 0, 765, 0, 765, 0, 9, 0, 0, 73, 0, 73, 0, 0, 0, 0, 80, 0, 160, 0, 160, 0, 160, 0, 600, 0, 600, 0, 600, 0, 80, 0, 80, 0, 80, 0, 80, 0, 80, 0, 80, 0, 6800, 0, 4, 0, 80, 0, 200, 0, 200, 0, 1000, 2800, 2800, 2800, 2800, 2800, 24, 24, 96, 24, 24, 24, 96, 24, 24, 24, 24, 2, 2, 128, 1152, 128, 128, 1152, 1152, 80, 80, 80, 80, 80, 80, 10240, 80, 80, 160, 160, 700, 700, 700, 700, 200, 200, 1400, 4, 8000]
def CLS (a : Nat) : Nat := CLSL.getD a 99
def LEN (a : Nat) : Nat := LENL.getD a 0
/-- the references that never change: cell, field, cell -/
def FRL : List (Nat × Nat × Nat) := [(2, 0, 3), (1, 0, 2), (4, 0, 5), (1, 1, 4), (7, 0, 8), (6, 0, 7), (6, 1, 9), (6, 2, 10), (6, 3, 11), (1, 2, 6), (14, 0, 15), (13, 0, 14), (16, 0, 17), (13, 1, 16), (18, 0, 19), (13, 2, 18), (20, 0, 21), (13, 3, 20), (22, 0, 23), (13, 4, 22), (24, 0, 25), (13, 5, 24), (26, 0, 27), (13, 6, 26), (28, 0, 29), (13, 7, 28), (12, 0, 13), (31, 0, 32), (30, 0, 31), (33, 0, 34), (30, 1, 33), (35, 0, 36), (30, 2, 35), (37, 0, 38), (30, 3, 37), (39, 0, 40), (30, 4, 39), (12, 1, 30), (41, 0, 42), (12, 2, 41), (43, 0, 44), (12, 3, 43), (45, 0, 46), (12, 4, 45), (47, 0, 48), (12, 5, 47), (49, 0, 50), (12, 6, 49), (51, 0, 52), (12, 7, 51), (53, 0, 54), (12, 8, 53), (55, 0, 56), (12, 9, 55), (57, 0, 58), (12, 10, 57), (59, 0, 60), (12, 11, 59), (61, 0, 62), (12, 12, 61), (63, 0, 64), (12, 13, 63), (65, 0, 66), (12, 14, 65), (67, 0, 68), (12, 15, 67), (69, 0, 70), (12, 16, 69), (71, 0, 72), (12, 17, 71), (75, 0, 76), (74, 0, 75), (77, 0, 78), (74, 1, 77), (79, 0, 80), (74, 2, 79), (81, 0, 82), (74, 3, 81), (83, 0, 84), (74, 4, 83), (85, 0, 86), (74, 5, 85), (87, 0, 88), (74, 6, 87), (89, 0, 90), (74, 7, 89), (73, 0, 74), (92, 0, 93), (91, 0, 92), (94, 0, 95), (91, 1, 94), (96, 0, 97), (91, 2, 96), (98, 0, 99), (91, 3, 98), (100, 0, 101), (91, 4, 100), (73, 1, 91), (102, 0, 103), (73, 2, 102), (104, 0, 105), (73, 3, 104), (106, 0, 107), (73, 4, 106), (108, 0, 109), (73, 5, 108), (110, 0, 111), (73, 6, 110), (112, 0, 113), (73, 7, 112), (114, 0, 115), (73, 8, 114), (116, 0, 117), (73, 9, 116), (118, 0, 119), (73, 10, 118), (120, 0, 121), (73, 11, 120), (122, 0, 123), (73, 12, 122), (124, 0, 125), (73, 13, 124), (126, 0, 127), (73, 14, 126), (128, 0, 129), (73, 15, 128), (130, 0, 131), (73, 16, 130), (132, 0, 133), (73, 17, 132), (136, 0, 137), (135, 0, 136), (138, 0, 139), (135, 1, 138), (140, 0, 141), (135, 2, 140), (134, 1, 135), (134, 0, 6), (143, 0, 144), (142, 1, 143), (145, 0, 146), (142, 2, 145), (142, 0, 6), (134, 2, 142), (147, 0, 6), (147, 1, 135), (134, 3, 147), (1, 3, 134), (150, 0, 151), (149, 0, 150), (152, 0, 153), (149, 1, 152), (154, 0, 155), (149, 2, 154), (156, 0, 157), (149, 3, 156), (158, 0, 159), (149, 4, 158), (160, 0, 161), (149, 5, 160), (162, 0, 163), (149, 6, 162), (148, 0, 149), (164, 0, 165), (148, 1, 164), (166, 0, 167), (148, 2, 166), (168, 0, 169), (148, 3, 168), (170, 0, 171), (148, 4, 170), (172, 0, 173), (148, 5, 172), (174, 0, 175), (148, 6, 174), (176, 0, 177), (148, 7, 176), (178, 0, 179), (148, 8, 178), (180, 0, 181), (148, 9, 180), (182, 0, 183), (148, 10, 182), (184, 0, 185), (148, 11, 184), (1, 4, 148), (186, 0, 187), (186, 11, 188), (186, 12, 189), (186, 13, 190), (186, 14, 191), (186, 15, 192), (186, 18, 193), (186, 19, 194), (186, 20, 195), (186, 21, 196), (186, 22, 197), (186, 23, 198), (186, 24, 199), (186, 25, 200), (186, 26, 201), (186, 27, 202), (186, 28, 203), (186, 29, 204), (186, 30, 205), (186, 37, 206), (186, 38, 207), (186, 39, 208), (186, 40, 209), (186, 41, 210), (186, 42, 211), (186, 52, 212), (186, 53, 213), (186, 54, 214), (186, 55, 215), (186, 56, 216), (186, 57, 217), (186, 58, 218), (186, 59, 219), (186, 66, 220), (186, 67, 221), (186, 68, 222), (186, 69, 223), (186, 70, 224), (186, 71, 225), (186, 72, 226), (186, 73, 227), (186, 74, 228), (186, 75, 229), (186, 77, 230), (186, 79, 231)]
abbrev iT : Type := Nat → Nat → Int32
abbrev jT : Type := Nat → Nat → Int64
abbrev fT : Type := Nat → Nat → Nat
def hq (n : Nat) (I : iT) (J : jT) (F : fT) : aH := (n, CLS, LEN, I, J, F)
abbrev hp (I : iT) (J : jT) (F : fT) : aH := hq 231 I J F
/-- cell a has class code c, among n cells -/
def iz (n a c : Nat) : Prop := CLS a = c ∧ 0 < a ∧ a ≤ n
def FOK (F : fT) : Prop := ∀ q ∈ FRL, F q.1 q.2.1 = q.2.2
/-- a Row: its items lie right behind it -/
def isRow (a : Nat) : Prop := CLS a = 4 ∧ CLS (a + 1) = 100 ∧ 0 < a ∧ a + 1 ≤ 185 ∧ (a, 0, a + 1) ∈ FRL
theorem iz_1 : iz 231 1 11 := ⟨by decide +kernel, by decide, by decide⟩
theorem iz_2 : iz 231 2 4 := ⟨by decide +kernel, by decide, by decide⟩
theorem iz_3 : iz 231 3 100 := ⟨by decide +kernel, by decide, by decide⟩
theorem iz_4 : iz 231 4 4 := ⟨by decide +kernel, by decide, by decide⟩
theorem iz_5 : iz 231 5 100 := ⟨by decide +kernel, by decide, by decide⟩
theorem iz_6 : iz 231 6 2 := ⟨by decide +kernel, by decide, by decide⟩
theorem iz_7 : iz 231 7 4 := ⟨by decide +kernel, by decide, by decide⟩
theorem iz_8 : iz 231 8 100 := ⟨by decide +kernel, by decide, by decide⟩
theorem iz_9 : iz 231 9 100 := ⟨by decide +kernel, by decide, by decide⟩
theorem iz_10 : iz 231 10 100 := ⟨by decide +kernel, by decide, by decide⟩
theorem iz_11 : iz 231 11 100 := ⟨by decide +kernel, by decide, by decide⟩
theorem iz_12 : iz 231 12 0 := ⟨by decide +kernel, by decide, by decide⟩
theorem iz_13 : iz 231 13 10 := ⟨by decide +kernel, by decide, by decide⟩
theorem iz_14 : iz 231 14 4 := ⟨by decide +kernel, by decide, by decide⟩
theorem iz_15 : iz 231 15 100 := ⟨by decide +kernel, by decide, by decide⟩
theorem iz_16 : iz 231 16 4 := ⟨by decide +kernel, by decide, by decide⟩
theorem iz_17 : iz 231 17 100 := ⟨by decide +kernel, by decide, by decide⟩
theorem iz_18 : iz 231 18 4 := ⟨by decide +kernel, by decide, by decide⟩
theorem iz_19 : iz 231 19 100 := ⟨by decide +kernel, by decide, by decide⟩
theorem iz_20 : iz 231 20 4 := ⟨by decide +kernel, by decide, by decide⟩
theorem iz_21 : iz 231 21 100 := ⟨by decide +kernel, by decide, by decide⟩
theorem iz_22 : iz 231 22 4 := ⟨by decide +kernel, by decide, by decide⟩
theorem iz_23 : iz 231 23 100 := ⟨by decide +kernel, by decide, by decide⟩
theorem iz_24 : iz 231 24 4 := ⟨by decide +kernel, by decide, by decide⟩
theorem iz_25 : iz 231 25 100 := ⟨by decide +kernel, by decide, by decide⟩
theorem iz_26 : iz 231 26 4 := ⟨by decide +kernel, by decide, by decide⟩
theorem iz_27 : iz 231 27 100 := ⟨by decide +kernel, by decide, by decide⟩
theorem iz_28 : iz 231 28 4 := ⟨by decide +kernel, by decide, by decide⟩
theorem iz_29 : iz 231 29 100 := ⟨by decide +kernel, by decide, by decide⟩
theorem iz_30 : iz 231 30 8 := ⟨by decide +kernel, by decide, by decide⟩
theorem iz_31 : iz 231 31 4 := ⟨by decide +kernel, by decide, by decide⟩
theorem iz_32 : iz 231 32 100 := ⟨by decide +kernel, by decide, by decide⟩
theorem iz_33 : iz 231 33 4 := ⟨by decide +kernel, by decide, by decide⟩
theorem iz_34 : iz 231 34 100 := ⟨by decide +kernel, by decide, by decide⟩
theorem iz_35 : iz 231 35 4 := ⟨by decide +kernel, by decide, by decide⟩
theorem iz_36 : iz 231 36 100 := ⟨by decide +kernel, by decide, by decide⟩
theorem iz_37 : iz 231 37 4 := ⟨by decide +kernel, by decide, by decide⟩
theorem iz_38 : iz 231 38 100 := ⟨by decide +kernel, by decide, by decide⟩
theorem iz_39 : iz 231 39 4 := ⟨by decide +kernel, by decide, by decide⟩
theorem iz_40 : iz 231 40 100 := ⟨by decide +kernel, by decide, by decide⟩
theorem iz_41 : iz 231 41 4 := ⟨by decide +kernel, by decide, by decide⟩
theorem iz_42 : iz 231 42 100 := ⟨by decide +kernel, by decide, by decide⟩
theorem iz_43 : iz 231 43 4 := ⟨by decide +kernel, by decide, by decide⟩
theorem iz_44 : iz 231 44 100 := ⟨by decide +kernel, by decide, by decide⟩
theorem iz_45 : iz 231 45 4 := ⟨by decide +kernel, by decide, by decide⟩
theorem iz_46 : iz 231 46 100 := ⟨by decide +kernel, by decide, by decide⟩
theorem iz_47 : iz 231 47 4 := ⟨by decide +kernel, by decide, by decide⟩
theorem iz_48 : iz 231 48 100 := ⟨by decide +kernel, by decide, by decide⟩
theorem iz_49 : iz 231 49 4 := ⟨by decide +kernel, by decide, by decide⟩
theorem iz_50 : iz 231 50 100 := ⟨by decide +kernel, by decide, by decide⟩
theorem iz_51 : iz 231 51 4 := ⟨by decide +kernel, by decide, by decide⟩
theorem iz_52 : iz 231 52 100 := ⟨by decide +kernel, by decide, by decide⟩
theorem iz_53 : iz 231 53 4 := ⟨by decide +kernel, by decide, by decide⟩
theorem iz_54 : iz 231 54 100 := ⟨by decide +kernel, by decide, by decide⟩
theorem iz_55 : iz 231 55 4 := ⟨by decide +kernel, by decide, by decide⟩
theorem iz_56 : iz 231 56 100 := ⟨by decide +kernel, by decide, by decide⟩
theorem iz_57 : iz 231 57 4 := ⟨by decide +kernel, by decide, by decide⟩
theorem iz_58 : iz 231 58 100 := ⟨by decide +kernel, by decide, by decide⟩
theorem iz_59 : iz 231 59 4 := ⟨by decide +kernel, by decide, by decide⟩
theorem iz_60 : iz 231 60 100 := ⟨by decide +kernel, by decide, by decide⟩
theorem iz_61 : iz 231 61 4 := ⟨by decide +kernel, by decide, by decide⟩
theorem iz_62 : iz 231 62 100 := ⟨by decide +kernel, by decide, by decide⟩
theorem iz_63 : iz 231 63 4 := ⟨by decide +kernel, by decide, by decide⟩
theorem iz_64 : iz 231 64 100 := ⟨by decide +kernel, by decide, by decide⟩
theorem iz_65 : iz 231 65 4 := ⟨by decide +kernel, by decide, by decide⟩
theorem iz_66 : iz 231 66 100 := ⟨by decide +kernel, by decide, by decide⟩
theorem iz_67 : iz 231 67 4 := ⟨by decide +kernel, by decide, by decide⟩
theorem iz_68 : iz 231 68 100 := ⟨by decide +kernel, by decide, by decide⟩
theorem iz_69 : iz 231 69 4 := ⟨by decide +kernel, by decide, by decide⟩
theorem iz_70 : iz 231 70 100 := ⟨by decide +kernel, by decide, by decide⟩
theorem iz_71 : iz 231 71 4 := ⟨by decide +kernel, by decide, by decide⟩
theorem iz_72 : iz 231 72 100 := ⟨by decide +kernel, by decide, by decide⟩
theorem iz_73 : iz 231 73 0 := ⟨by decide +kernel, by decide, by decide⟩
theorem iz_74 : iz 231 74 10 := ⟨by decide +kernel, by decide, by decide⟩
theorem iz_75 : iz 231 75 4 := ⟨by decide +kernel, by decide, by decide⟩
theorem iz_76 : iz 231 76 100 := ⟨by decide +kernel, by decide, by decide⟩
theorem iz_77 : iz 231 77 4 := ⟨by decide +kernel, by decide, by decide⟩
theorem iz_78 : iz 231 78 100 := ⟨by decide +kernel, by decide, by decide⟩
theorem iz_79 : iz 231 79 4 := ⟨by decide +kernel, by decide, by decide⟩
theorem iz_80 : iz 231 80 100 := ⟨by decide +kernel, by decide, by decide⟩
theorem iz_81 : iz 231 81 4 := ⟨by decide +kernel, by decide, by decide⟩
theorem iz_82 : iz 231 82 100 := ⟨by decide +kernel, by decide, by decide⟩
theorem iz_83 : iz 231 83 4 := ⟨by decide +kernel, by decide, by decide⟩
theorem iz_84 : iz 231 84 100 := ⟨by decide +kernel, by decide, by decide⟩
theorem iz_85 : iz 231 85 4 := ⟨by decide +kernel, by decide, by decide⟩
theorem iz_86 : iz 231 86 100 := ⟨by decide +kernel, by decide, by decide⟩
theorem iz_87 : iz 231 87 4 := ⟨by decide +kernel, by decide, by decide⟩
theorem iz_88 : iz 231 88 100 := ⟨by decide +kernel, by decide, by decide⟩
theorem iz_89 : iz 231 89 4 := ⟨by decide +kernel, by decide, by decide⟩
theorem iz_90 : iz 231 90 100 := ⟨by decide +kernel, by decide, by decide⟩
theorem iz_91 : iz 231 91 8 := ⟨by decide +kernel, by decide, by decide⟩
theorem iz_92 : iz 231 92 4 := ⟨by decide +kernel, by decide, by decide⟩
theorem iz_93 : iz 231 93 100 := ⟨by decide +kernel, by decide, by decide⟩
theorem iz_94 : iz 231 94 4 := ⟨by decide +kernel, by decide, by decide⟩
theorem iz_95 : iz 231 95 100 := ⟨by decide +kernel, by decide, by decide⟩
theorem iz_96 : iz 231 96 4 := ⟨by decide +kernel, by decide, by decide⟩
theorem iz_97 : iz 231 97 100 := ⟨by decide +kernel, by decide, by decide⟩
theorem iz_98 : iz 231 98 4 := ⟨by decide +kernel, by decide, by decide⟩
theorem iz_99 : iz 231 99 100 := ⟨by decide +kernel, by decide, by decide⟩
theorem iz_100 : iz 231 100 4 := ⟨by decide +kernel, by decide, by decide⟩
theorem iz_101 : iz 231 101 100 := ⟨by decide +kernel, by decide, by decide⟩
theorem iz_102 : iz 231 102 4 := ⟨by decide +kernel, by decide, by decide⟩
theorem iz_103 : iz 231 103 100 := ⟨by decide +kernel, by decide, by decide⟩
theorem iz_104 : iz 231 104 4 := ⟨by decide +kernel, by decide, by decide⟩
theorem iz_105 : iz 231 105 100 := ⟨by decide +kernel, by decide, by decide⟩
theorem iz_106 : iz 231 106 4 := ⟨by decide +kernel, by decide, by decide⟩
theorem iz_107 : iz 231 107 100 := ⟨by decide +kernel, by decide, by decide⟩
theorem iz_108 : iz 231 108 4 := ⟨by decide +kernel, by decide, by decide⟩
theorem iz_109 : iz 231 109 100 := ⟨by decide +kernel, by decide, by decide⟩
theorem iz_110 : iz 231 110 4 := ⟨by decide +kernel, by decide, by decide⟩
theorem iz_111 : iz 231 111 100 := ⟨by decide +kernel, by decide, by decide⟩
theorem iz_112 : iz 231 112 4 := ⟨by decide +kernel, by decide, by decide⟩
theorem iz_113 : iz 231 113 100 := ⟨by decide +kernel, by decide, by decide⟩
theorem iz_114 : iz 231 114 4 := ⟨by decide +kernel, by decide, by decide⟩
theorem iz_115 : iz 231 115 100 := ⟨by decide +kernel, by decide, by decide⟩
theorem iz_116 : iz 231 116 4 := ⟨by decide +kernel, by decide, by decide⟩
theorem iz_117 : iz 231 117 100 := ⟨by decide +kernel, by decide, by decide⟩
theorem iz_118 : iz 231 118 4 := ⟨by decide +kernel, by decide, by decide⟩
theorem iz_119 : iz 231 119 100 := ⟨by decide +kernel, by decide, by decide⟩
theorem iz_120 : iz 231 120 4 := ⟨by decide +kernel, by decide, by decide⟩
theorem iz_121 : iz 231 121 100 := ⟨by decide +kernel, by decide, by decide⟩
theorem iz_122 : iz 231 122 4 := ⟨by decide +kernel, by decide, by decide⟩
theorem iz_123 : iz 231 123 100 := ⟨by decide +kernel, by decide, by decide⟩
theorem iz_124 : iz 231 124 4 := ⟨by decide +kernel, by decide, by decide⟩
theorem iz_125 : iz 231 125 100 := ⟨by decide +kernel, by decide, by decide⟩
theorem iz_126 : iz 231 126 4 := ⟨by decide +kernel, by decide, by decide⟩
theorem iz_127 : iz 231 127 100 := ⟨by decide +kernel, by decide, by decide⟩
theorem iz_128 : iz 231 128 4 := ⟨by decide +kernel, by decide, by decide⟩
theorem iz_129 : iz 231 129 100 := ⟨by decide +kernel, by decide, by decide⟩
theorem iz_130 : iz 231 130 4 := ⟨by decide +kernel, by decide, by decide⟩
theorem iz_131 : iz 231 131 100 := ⟨by decide +kernel, by decide, by decide⟩
theorem iz_132 : iz 231 132 4 := ⟨by decide +kernel, by decide, by decide⟩
theorem iz_133 : iz 231 133 100 := ⟨by decide +kernel, by decide, by decide⟩
theorem iz_134 : iz 231 134 3 := ⟨by decide +kernel, by decide, by decide⟩
theorem iz_135 : iz 231 135 5 := ⟨by decide +kernel, by decide, by decide⟩
theorem iz_136 : iz 231 136 4 := ⟨by decide +kernel, by decide, by decide⟩
theorem iz_137 : iz 231 137 100 := ⟨by decide +kernel, by decide, by decide⟩
theorem iz_138 : iz 231 138 4 := ⟨by decide +kernel, by decide, by decide⟩
theorem iz_139 : iz 231 139 100 := ⟨by decide +kernel, by decide, by decide⟩
theorem iz_140 : iz 231 140 4 := ⟨by decide +kernel, by decide, by decide⟩
theorem iz_141 : iz 231 141 100 := ⟨by decide +kernel, by decide, by decide⟩
theorem iz_142 : iz 231 142 9 := ⟨by decide +kernel, by decide, by decide⟩
theorem iz_143 : iz 231 143 4 := ⟨by decide +kernel, by decide, by decide⟩
theorem iz_144 : iz 231 144 100 := ⟨by decide +kernel, by decide, by decide⟩
theorem iz_145 : iz 231 145 4 := ⟨by decide +kernel, by decide, by decide⟩
theorem iz_146 : iz 231 146 100 := ⟨by decide +kernel, by decide, by decide⟩
theorem iz_147 : iz 231 147 7 := ⟨by decide +kernel, by decide, by decide⟩
theorem iz_148 : iz 231 148 6 := ⟨by decide +kernel, by decide, by decide⟩
theorem iz_149 : iz 231 149 1 := ⟨by decide +kernel, by decide, by decide⟩
theorem iz_150 : iz 231 150 4 := ⟨by decide +kernel, by decide, by decide⟩
theorem iz_151 : iz 231 151 100 := ⟨by decide +kernel, by decide, by decide⟩
theorem iz_152 : iz 231 152 4 := ⟨by decide +kernel, by decide, by decide⟩
theorem iz_153 : iz 231 153 100 := ⟨by decide +kernel, by decide, by decide⟩
theorem iz_154 : iz 231 154 4 := ⟨by decide +kernel, by decide, by decide⟩
theorem iz_155 : iz 231 155 100 := ⟨by decide +kernel, by decide, by decide⟩
theorem iz_156 : iz 231 156 4 := ⟨by decide +kernel, by decide, by decide⟩
theorem iz_157 : iz 231 157 100 := ⟨by decide +kernel, by decide, by decide⟩
theorem iz_158 : iz 231 158 4 := ⟨by decide +kernel, by decide, by decide⟩
theorem iz_159 : iz 231 159 100 := ⟨by decide +kernel, by decide, by decide⟩
theorem iz_160 : iz 231 160 4 := ⟨by decide +kernel, by decide, by decide⟩
theorem iz_161 : iz 231 161 100 := ⟨by decide +kernel, by decide, by decide⟩
theorem iz_162 : iz 231 162 4 := ⟨by decide +kernel, by decide, by decide⟩
theorem iz_163 : iz 231 163 100 := ⟨by decide +kernel, by decide, by decide⟩
theorem iz_164 : iz 231 164 4 := ⟨by decide +kernel, by decide, by decide⟩
theorem iz_165 : iz 231 165 100 := ⟨by decide +kernel, by decide, by decide⟩
theorem iz_166 : iz 231 166 4 := ⟨by decide +kernel, by decide, by decide⟩
theorem iz_167 : iz 231 167 100 := ⟨by decide +kernel, by decide, by decide⟩
theorem iz_168 : iz 231 168 4 := ⟨by decide +kernel, by decide, by decide⟩
theorem iz_169 : iz 231 169 100 := ⟨by decide +kernel, by decide, by decide⟩
theorem iz_170 : iz 231 170 4 := ⟨by decide +kernel, by decide, by decide⟩
theorem iz_171 : iz 231 171 100 := ⟨by decide +kernel, by decide, by decide⟩
theorem iz_172 : iz 231 172 4 := ⟨by decide +kernel, by decide, by decide⟩
theorem iz_173 : iz 231 173 100 := ⟨by decide +kernel, by decide, by decide⟩
theorem iz_174 : iz 231 174 4 := ⟨by decide +kernel, by decide, by decide⟩
theorem iz_175 : iz 231 175 100 := ⟨by decide +kernel, by decide, by decide⟩
theorem iz_176 : iz 231 176 4 := ⟨by decide +kernel, by decide, by decide⟩
theorem iz_177 : iz 231 177 100 := ⟨by decide +kernel, by decide, by decide⟩
theorem iz_178 : iz 231 178 4 := ⟨by decide +kernel, by decide, by decide⟩
theorem iz_179 : iz 231 179 100 := ⟨by decide +kernel, by decide, by decide⟩
theorem iz_180 : iz 231 180 4 := ⟨by decide +kernel, by decide, by decide⟩
theorem iz_181 : iz 231 181 100 := ⟨by decide +kernel, by decide, by decide⟩
theorem iz_182 : iz 231 182 4 := ⟨by decide +kernel, by decide, by decide⟩
theorem iz_183 : iz 231 183 100 := ⟨by decide +kernel, by decide, by decide⟩
theorem iz_184 : iz 231 184 4 := ⟨by decide +kernel, by decide, by decide⟩
theorem iz_185 : iz 231 185 100 := ⟨by decide +kernel, by decide, by decide⟩
theorem iz_186 : iz 231 186 12 := ⟨by decide +kernel, by decide, by decide⟩
theorem iz_187 : iz 231 187 100 := ⟨by decide +kernel, by decide, by decide⟩
theorem iz_188 : iz 231 188 100 := ⟨by decide +kernel, by decide, by decide⟩
theorem iz_189 : iz 231 189 100 := ⟨by decide +kernel, by decide, by decide⟩
theorem iz_190 : iz 231 190 100 := ⟨by decide +kernel, by decide, by decide⟩
theorem iz_191 : iz 231 191 100 := ⟨by decide +kernel, by decide, by decide⟩
theorem iz_192 : iz 231 192 101 := ⟨by decide +kernel, by decide, by decide⟩
theorem iz_193 : iz 231 193 101 := ⟨by decide +kernel, by decide, by decide⟩
theorem iz_194 : iz 231 194 101 := ⟨by decide +kernel, by decide, by decide⟩
theorem iz_195 : iz 231 195 101 := ⟨by decide +kernel, by decide, by decide⟩
theorem iz_196 : iz 231 196 101 := ⟨by decide +kernel, by decide, by decide⟩
theorem iz_197 : iz 231 197 100 := ⟨by decide +kernel, by decide, by decide⟩
theorem iz_198 : iz 231 198 100 := ⟨by decide +kernel, by decide, by decide⟩
theorem iz_199 : iz 231 199 100 := ⟨by decide +kernel, by decide, by decide⟩
theorem iz_200 : iz 231 200 100 := ⟨by decide +kernel, by decide, by decide⟩
theorem iz_201 : iz 231 201 100 := ⟨by decide +kernel, by decide, by decide⟩
theorem iz_202 : iz 231 202 100 := ⟨by decide +kernel, by decide, by decide⟩
theorem iz_203 : iz 231 203 100 := ⟨by decide +kernel, by decide, by decide⟩
theorem iz_204 : iz 231 204 100 := ⟨by decide +kernel, by decide, by decide⟩
theorem iz_205 : iz 231 205 100 := ⟨by decide +kernel, by decide, by decide⟩
theorem iz_206 : iz 231 206 101 := ⟨by decide +kernel, by decide, by decide⟩
theorem iz_207 : iz 231 207 101 := ⟨by decide +kernel, by decide, by decide⟩
theorem iz_208 : iz 231 208 100 := ⟨by decide +kernel, by decide, by decide⟩
theorem iz_209 : iz 231 209 100 := ⟨by decide +kernel, by decide, by decide⟩
theorem iz_210 : iz 231 210 100 := ⟨by decide +kernel, by decide, by decide⟩
theorem iz_211 : iz 231 211 100 := ⟨by decide +kernel, by decide, by decide⟩
theorem iz_212 : iz 231 212 100 := ⟨by decide +kernel, by decide, by decide⟩
theorem iz_213 : iz 231 213 100 := ⟨by decide +kernel, by decide, by decide⟩
theorem iz_214 : iz 231 214 100 := ⟨by decide +kernel, by decide, by decide⟩
theorem iz_215 : iz 231 215 100 := ⟨by decide +kernel, by decide, by decide⟩
theorem iz_216 : iz 231 216 100 := ⟨by decide +kernel, by decide, by decide⟩
theorem iz_217 : iz 231 217 100 := ⟨by decide +kernel, by decide, by decide⟩
theorem iz_218 : iz 231 218 100 := ⟨by decide +kernel, by decide, by decide⟩
theorem iz_219 : iz 231 219 102 := ⟨by decide +kernel, by decide, by decide⟩
theorem iz_220 : iz 231 220 100 := ⟨by decide +kernel, by decide, by decide⟩
theorem iz_221 : iz 231 221 100 := ⟨by decide +kernel, by decide, by decide⟩
theorem iz_222 : iz 231 222 100 := ⟨by decide +kernel, by decide, by decide⟩
theorem iz_223 : iz 231 223 100 := ⟨by decide +kernel, by decide, by decide⟩
theorem iz_224 : iz 231 224 100 := ⟨by decide +kernel, by decide, by decide⟩
theorem iz_225 : iz 231 225 100 := ⟨by decide +kernel, by decide, by decide⟩
theorem iz_226 : iz 231 226 101 := ⟨by decide +kernel, by decide, by decide⟩
theorem iz_227 : iz 231 227 100 := ⟨by decide +kernel, by decide, by decide⟩
theorem iz_228 : iz 231 228 100 := ⟨by decide +kernel, by decide, by decide⟩
theorem iz_229 : iz 231 229 100 := ⟨by decide +kernel, by decide, by decide⟩
theorem iz_230 : iz 231 230 100 := ⟨by decide +kernel, by decide, by decide⟩
theorem iz_231 : iz 231 231 100 := ⟨by decide +kernel, by decide, by decide⟩
theorem ln_3 : LEN 3 = 1000 := by decide +kernel
theorem ln_5 : LEN 5 = 4000 := by decide +kernel
theorem ln_8 : LEN 8 = 17 := by decide +kernel
theorem ln_9 : LEN 9 = 1001 := by decide +kernel
theorem ln_10 : LEN 10 = 1001 := by decide +kernel
theorem ln_11 : LEN 11 = 1001 := by decide +kernel
theorem ln_15 : LEN 15 = 1000 := by decide +kernel
theorem ln_17 : LEN 17 = 1000 := by decide +kernel
theorem ln_19 : LEN 19 = 1000 := by decide +kernel
theorem ln_21 : LEN 21 = 1000 := by decide +kernel
theorem ln_23 : LEN 23 = 500 := by decide +kernel
theorem ln_25 : LEN 25 = 500 := by decide +kernel
theorem ln_27 : LEN 27 = 201 := by decide +kernel
theorem ln_29 : LEN 29 = 201 := by decide +kernel
theorem ln_32 : LEN 32 = 1000 := by decide +kernel
theorem ln_34 : LEN 34 = 1000 := by decide +kernel
theorem ln_36 : LEN 36 = 1000 := by decide +kernel
theorem ln_38 : LEN 38 = 1000 := by decide +kernel
theorem ln_40 : LEN 40 = 1000 := by decide +kernel
theorem ln_42 : LEN 42 = 12 := by decide +kernel
theorem ln_44 : LEN 44 = 12 := by decide +kernel
theorem ln_46 : LEN 46 = 12 := by decide +kernel
theorem ln_48 : LEN 48 = 12 := by decide +kernel
theorem ln_50 : LEN 50 = 12 := by decide +kernel
theorem ln_52 : LEN 52 = 12 := by decide +kernel
theorem ln_54 : LEN 54 = 12 := by decide +kernel
theorem ln_56 : LEN 56 = 12 := by decide +kernel
theorem ln_58 : LEN 58 = 48 := by decide +kernel
theorem ln_60 : LEN 60 = 250 := by decide +kernel
theorem ln_62 : LEN 62 = 250 := by decide +kernel
theorem ln_64 : LEN 64 = 250 := by decide +kernel
theorem ln_66 : LEN 66 = 250 := by decide +kernel
theorem ln_68 : LEN 68 = 500 := by decide +kernel
theorem ln_70 : LEN 70 = 500 := by decide +kernel
theorem ln_72 : LEN 72 = 500 := by decide +kernel
theorem ln_76 : LEN 76 = 1000 := by decide +kernel
theorem ln_78 : LEN 78 = 1000 := by decide +kernel
theorem ln_80 : LEN 80 = 1000 := by decide +kernel
theorem ln_82 : LEN 82 = 1000 := by decide +kernel
theorem ln_84 : LEN 84 = 500 := by decide +kernel
theorem ln_86 : LEN 86 = 500 := by decide +kernel
theorem ln_88 : LEN 88 = 201 := by decide +kernel
theorem ln_90 : LEN 90 = 201 := by decide +kernel
theorem ln_93 : LEN 93 = 1000 := by decide +kernel
theorem ln_95 : LEN 95 = 1000 := by decide +kernel
theorem ln_97 : LEN 97 = 1000 := by decide +kernel
theorem ln_99 : LEN 99 = 1000 := by decide +kernel
theorem ln_101 : LEN 101 = 1000 := by decide +kernel
theorem ln_103 : LEN 103 = 12 := by decide +kernel
theorem ln_105 : LEN 105 = 12 := by decide +kernel
theorem ln_107 : LEN 107 = 12 := by decide +kernel
theorem ln_109 : LEN 109 = 12 := by decide +kernel
theorem ln_111 : LEN 111 = 12 := by decide +kernel
theorem ln_113 : LEN 113 = 12 := by decide +kernel
theorem ln_115 : LEN 115 = 12 := by decide +kernel
theorem ln_117 : LEN 117 = 12 := by decide +kernel
theorem ln_119 : LEN 119 = 48 := by decide +kernel
theorem ln_121 : LEN 121 = 250 := by decide +kernel
theorem ln_123 : LEN 123 = 250 := by decide +kernel
theorem ln_125 : LEN 125 = 250 := by decide +kernel
theorem ln_127 : LEN 127 = 250 := by decide +kernel
theorem ln_129 : LEN 129 = 500 := by decide +kernel
theorem ln_131 : LEN 131 = 500 := by decide +kernel
theorem ln_133 : LEN 133 = 500 := by decide +kernel
theorem ln_137 : LEN 137 = 765 := by decide +kernel
theorem ln_139 : LEN 139 = 765 := by decide +kernel
theorem ln_141 : LEN 141 = 9 := by decide +kernel
theorem ln_144 : LEN 144 = 73 := by decide +kernel
theorem ln_146 : LEN 146 = 73 := by decide +kernel
theorem ln_151 : LEN 151 = 80 := by decide +kernel
theorem ln_153 : LEN 153 = 160 := by decide +kernel
theorem ln_155 : LEN 155 = 160 := by decide +kernel
theorem ln_157 : LEN 157 = 160 := by decide +kernel
theorem ln_159 : LEN 159 = 600 := by decide +kernel
theorem ln_161 : LEN 161 = 600 := by decide +kernel
theorem ln_163 : LEN 163 = 600 := by decide +kernel
theorem ln_165 : LEN 165 = 80 := by decide +kernel
theorem ln_167 : LEN 167 = 80 := by decide +kernel
theorem ln_169 : LEN 169 = 80 := by decide +kernel
theorem ln_171 : LEN 171 = 80 := by decide +kernel
theorem ln_173 : LEN 173 = 80 := by decide +kernel
theorem ln_175 : LEN 175 = 80 := by decide +kernel
theorem ln_177 : LEN 177 = 6800 := by decide +kernel
theorem ln_179 : LEN 179 = 4 := by decide +kernel
theorem ln_181 : LEN 181 = 80 := by decide +kernel
theorem ln_183 : LEN 183 = 200 := by decide +kernel
theorem ln_185 : LEN 185 = 200 := by decide +kernel
theorem ln_187 : LEN 187 = 1000 := by decide +kernel
theorem ln_188 : LEN 188 = 2800 := by decide +kernel
theorem ln_189 : LEN 189 = 2800 := by decide +kernel
theorem ln_190 : LEN 190 = 2800 := by decide +kernel
theorem ln_191 : LEN 191 = 2800 := by decide +kernel
theorem ln_192 : LEN 192 = 2800 := by decide +kernel
theorem ln_193 : LEN 193 = 24 := by decide +kernel
theorem ln_194 : LEN 194 = 24 := by decide +kernel
theorem ln_195 : LEN 195 = 96 := by decide +kernel
theorem ln_196 : LEN 196 = 24 := by decide +kernel
theorem ln_197 : LEN 197 = 24 := by decide +kernel
theorem ln_198 : LEN 198 = 24 := by decide +kernel
theorem ln_199 : LEN 199 = 96 := by decide +kernel
theorem ln_200 : LEN 200 = 24 := by decide +kernel
theorem ln_201 : LEN 201 = 24 := by decide +kernel
theorem ln_202 : LEN 202 = 24 := by decide +kernel
theorem ln_203 : LEN 203 = 24 := by decide +kernel
theorem ln_204 : LEN 204 = 2 := by decide +kernel
theorem ln_205 : LEN 205 = 2 := by decide +kernel
theorem ln_206 : LEN 206 = 128 := by decide +kernel
theorem ln_207 : LEN 207 = 1152 := by decide +kernel
theorem ln_208 : LEN 208 = 128 := by decide +kernel
theorem ln_209 : LEN 209 = 128 := by decide +kernel
theorem ln_210 : LEN 210 = 1152 := by decide +kernel
theorem ln_211 : LEN 211 = 1152 := by decide +kernel
theorem ln_212 : LEN 212 = 80 := by decide +kernel
theorem ln_213 : LEN 213 = 80 := by decide +kernel
theorem ln_214 : LEN 214 = 80 := by decide +kernel
theorem ln_215 : LEN 215 = 80 := by decide +kernel
theorem ln_216 : LEN 216 = 80 := by decide +kernel
theorem ln_217 : LEN 217 = 80 := by decide +kernel
theorem ln_218 : LEN 218 = 10240 := by decide +kernel
theorem ln_219 : LEN 219 = 80 := by decide +kernel
theorem ln_220 : LEN 220 = 80 := by decide +kernel
theorem ln_221 : LEN 221 = 160 := by decide +kernel
theorem ln_222 : LEN 222 = 160 := by decide +kernel
theorem ln_223 : LEN 223 = 700 := by decide +kernel
theorem ln_224 : LEN 224 = 700 := by decide +kernel
theorem ln_225 : LEN 225 = 700 := by decide +kernel
theorem ln_226 : LEN 226 = 700 := by decide +kernel
theorem ln_227 : LEN 227 = 200 := by decide +kernel
theorem ln_228 : LEN 228 = 200 := by decide +kernel
theorem ln_229 : LEN 229 = 1400 := by decide +kernel
theorem ln_230 : LEN 230 = 4 := by decide +kernel
theorem ln_231 : LEN 231 = 8000 := by decide +kernel
theorem fr_2_0 {F : fT} (h : FOK F) : F 2 0 = 3 := h (2, 0, 3) (by decide +kernel)
theorem fr_1_0 {F : fT} (h : FOK F) : F 1 0 = 2 := h (1, 0, 2) (by decide +kernel)
theorem fr_4_0 {F : fT} (h : FOK F) : F 4 0 = 5 := h (4, 0, 5) (by decide +kernel)
theorem fr_1_1 {F : fT} (h : FOK F) : F 1 1 = 4 := h (1, 1, 4) (by decide +kernel)
theorem fr_7_0 {F : fT} (h : FOK F) : F 7 0 = 8 := h (7, 0, 8) (by decide +kernel)
theorem fr_6_0 {F : fT} (h : FOK F) : F 6 0 = 7 := h (6, 0, 7) (by decide +kernel)
theorem fr_6_1 {F : fT} (h : FOK F) : F 6 1 = 9 := h (6, 1, 9) (by decide +kernel)
theorem fr_6_2 {F : fT} (h : FOK F) : F 6 2 = 10 := h (6, 2, 10) (by decide +kernel)
theorem fr_6_3 {F : fT} (h : FOK F) : F 6 3 = 11 := h (6, 3, 11) (by decide +kernel)
theorem fr_1_2 {F : fT} (h : FOK F) : F 1 2 = 6 := h (1, 2, 6) (by decide +kernel)
theorem fr_14_0 {F : fT} (h : FOK F) : F 14 0 = 15 := h (14, 0, 15) (by decide +kernel)
theorem fr_13_0 {F : fT} (h : FOK F) : F 13 0 = 14 := h (13, 0, 14) (by decide +kernel)
theorem fr_16_0 {F : fT} (h : FOK F) : F 16 0 = 17 := h (16, 0, 17) (by decide +kernel)
theorem fr_13_1 {F : fT} (h : FOK F) : F 13 1 = 16 := h (13, 1, 16) (by decide +kernel)
theorem fr_18_0 {F : fT} (h : FOK F) : F 18 0 = 19 := h (18, 0, 19) (by decide +kernel)
theorem fr_13_2 {F : fT} (h : FOK F) : F 13 2 = 18 := h (13, 2, 18) (by decide +kernel)
theorem fr_20_0 {F : fT} (h : FOK F) : F 20 0 = 21 := h (20, 0, 21) (by decide +kernel)
theorem fr_13_3 {F : fT} (h : FOK F) : F 13 3 = 20 := h (13, 3, 20) (by decide +kernel)
theorem fr_22_0 {F : fT} (h : FOK F) : F 22 0 = 23 := h (22, 0, 23) (by decide +kernel)
theorem fr_13_4 {F : fT} (h : FOK F) : F 13 4 = 22 := h (13, 4, 22) (by decide +kernel)
theorem fr_24_0 {F : fT} (h : FOK F) : F 24 0 = 25 := h (24, 0, 25) (by decide +kernel)
theorem fr_13_5 {F : fT} (h : FOK F) : F 13 5 = 24 := h (13, 5, 24) (by decide +kernel)
theorem fr_26_0 {F : fT} (h : FOK F) : F 26 0 = 27 := h (26, 0, 27) (by decide +kernel)
theorem fr_13_6 {F : fT} (h : FOK F) : F 13 6 = 26 := h (13, 6, 26) (by decide +kernel)
theorem fr_28_0 {F : fT} (h : FOK F) : F 28 0 = 29 := h (28, 0, 29) (by decide +kernel)
theorem fr_13_7 {F : fT} (h : FOK F) : F 13 7 = 28 := h (13, 7, 28) (by decide +kernel)
theorem fr_12_0 {F : fT} (h : FOK F) : F 12 0 = 13 := h (12, 0, 13) (by decide +kernel)
theorem fr_31_0 {F : fT} (h : FOK F) : F 31 0 = 32 := h (31, 0, 32) (by decide +kernel)
theorem fr_30_0 {F : fT} (h : FOK F) : F 30 0 = 31 := h (30, 0, 31) (by decide +kernel)
theorem fr_33_0 {F : fT} (h : FOK F) : F 33 0 = 34 := h (33, 0, 34) (by decide +kernel)
theorem fr_30_1 {F : fT} (h : FOK F) : F 30 1 = 33 := h (30, 1, 33) (by decide +kernel)
theorem fr_35_0 {F : fT} (h : FOK F) : F 35 0 = 36 := h (35, 0, 36) (by decide +kernel)
theorem fr_30_2 {F : fT} (h : FOK F) : F 30 2 = 35 := h (30, 2, 35) (by decide +kernel)
theorem fr_37_0 {F : fT} (h : FOK F) : F 37 0 = 38 := h (37, 0, 38) (by decide +kernel)
theorem fr_30_3 {F : fT} (h : FOK F) : F 30 3 = 37 := h (30, 3, 37) (by decide +kernel)
theorem fr_39_0 {F : fT} (h : FOK F) : F 39 0 = 40 := h (39, 0, 40) (by decide +kernel)
theorem fr_30_4 {F : fT} (h : FOK F) : F 30 4 = 39 := h (30, 4, 39) (by decide +kernel)
theorem fr_12_1 {F : fT} (h : FOK F) : F 12 1 = 30 := h (12, 1, 30) (by decide +kernel)
theorem fr_41_0 {F : fT} (h : FOK F) : F 41 0 = 42 := h (41, 0, 42) (by decide +kernel)
theorem fr_12_2 {F : fT} (h : FOK F) : F 12 2 = 41 := h (12, 2, 41) (by decide +kernel)
theorem fr_43_0 {F : fT} (h : FOK F) : F 43 0 = 44 := h (43, 0, 44) (by decide +kernel)
theorem fr_12_3 {F : fT} (h : FOK F) : F 12 3 = 43 := h (12, 3, 43) (by decide +kernel)
theorem fr_45_0 {F : fT} (h : FOK F) : F 45 0 = 46 := h (45, 0, 46) (by decide +kernel)
theorem fr_12_4 {F : fT} (h : FOK F) : F 12 4 = 45 := h (12, 4, 45) (by decide +kernel)
theorem fr_47_0 {F : fT} (h : FOK F) : F 47 0 = 48 := h (47, 0, 48) (by decide +kernel)
theorem fr_12_5 {F : fT} (h : FOK F) : F 12 5 = 47 := h (12, 5, 47) (by decide +kernel)
theorem fr_49_0 {F : fT} (h : FOK F) : F 49 0 = 50 := h (49, 0, 50) (by decide +kernel)
theorem fr_12_6 {F : fT} (h : FOK F) : F 12 6 = 49 := h (12, 6, 49) (by decide +kernel)
theorem fr_51_0 {F : fT} (h : FOK F) : F 51 0 = 52 := h (51, 0, 52) (by decide +kernel)
theorem fr_12_7 {F : fT} (h : FOK F) : F 12 7 = 51 := h (12, 7, 51) (by decide +kernel)
theorem fr_53_0 {F : fT} (h : FOK F) : F 53 0 = 54 := h (53, 0, 54) (by decide +kernel)
theorem fr_12_8 {F : fT} (h : FOK F) : F 12 8 = 53 := h (12, 8, 53) (by decide +kernel)
theorem fr_55_0 {F : fT} (h : FOK F) : F 55 0 = 56 := h (55, 0, 56) (by decide +kernel)
theorem fr_12_9 {F : fT} (h : FOK F) : F 12 9 = 55 := h (12, 9, 55) (by decide +kernel)
theorem fr_57_0 {F : fT} (h : FOK F) : F 57 0 = 58 := h (57, 0, 58) (by decide +kernel)
theorem fr_12_10 {F : fT} (h : FOK F) : F 12 10 = 57 := h (12, 10, 57) (by decide +kernel)
theorem fr_59_0 {F : fT} (h : FOK F) : F 59 0 = 60 := h (59, 0, 60) (by decide +kernel)
theorem fr_12_11 {F : fT} (h : FOK F) : F 12 11 = 59 := h (12, 11, 59) (by decide +kernel)
theorem fr_61_0 {F : fT} (h : FOK F) : F 61 0 = 62 := h (61, 0, 62) (by decide +kernel)
theorem fr_12_12 {F : fT} (h : FOK F) : F 12 12 = 61 := h (12, 12, 61) (by decide +kernel)
theorem fr_63_0 {F : fT} (h : FOK F) : F 63 0 = 64 := h (63, 0, 64) (by decide +kernel)
theorem fr_12_13 {F : fT} (h : FOK F) : F 12 13 = 63 := h (12, 13, 63) (by decide +kernel)
theorem fr_65_0 {F : fT} (h : FOK F) : F 65 0 = 66 := h (65, 0, 66) (by decide +kernel)
theorem fr_12_14 {F : fT} (h : FOK F) : F 12 14 = 65 := h (12, 14, 65) (by decide +kernel)
theorem fr_67_0 {F : fT} (h : FOK F) : F 67 0 = 68 := h (67, 0, 68) (by decide +kernel)
theorem fr_12_15 {F : fT} (h : FOK F) : F 12 15 = 67 := h (12, 15, 67) (by decide +kernel)
theorem fr_69_0 {F : fT} (h : FOK F) : F 69 0 = 70 := h (69, 0, 70) (by decide +kernel)
theorem fr_12_16 {F : fT} (h : FOK F) : F 12 16 = 69 := h (12, 16, 69) (by decide +kernel)
theorem fr_71_0 {F : fT} (h : FOK F) : F 71 0 = 72 := h (71, 0, 72) (by decide +kernel)
theorem fr_12_17 {F : fT} (h : FOK F) : F 12 17 = 71 := h (12, 17, 71) (by decide +kernel)
theorem fr_75_0 {F : fT} (h : FOK F) : F 75 0 = 76 := h (75, 0, 76) (by decide +kernel)
theorem fr_74_0 {F : fT} (h : FOK F) : F 74 0 = 75 := h (74, 0, 75) (by decide +kernel)
theorem fr_77_0 {F : fT} (h : FOK F) : F 77 0 = 78 := h (77, 0, 78) (by decide +kernel)
theorem fr_74_1 {F : fT} (h : FOK F) : F 74 1 = 77 := h (74, 1, 77) (by decide +kernel)
theorem fr_79_0 {F : fT} (h : FOK F) : F 79 0 = 80 := h (79, 0, 80) (by decide +kernel)
theorem fr_74_2 {F : fT} (h : FOK F) : F 74 2 = 79 := h (74, 2, 79) (by decide +kernel)
theorem fr_81_0 {F : fT} (h : FOK F) : F 81 0 = 82 := h (81, 0, 82) (by decide +kernel)
theorem fr_74_3 {F : fT} (h : FOK F) : F 74 3 = 81 := h (74, 3, 81) (by decide +kernel)
theorem fr_83_0 {F : fT} (h : FOK F) : F 83 0 = 84 := h (83, 0, 84) (by decide +kernel)
theorem fr_74_4 {F : fT} (h : FOK F) : F 74 4 = 83 := h (74, 4, 83) (by decide +kernel)
theorem fr_85_0 {F : fT} (h : FOK F) : F 85 0 = 86 := h (85, 0, 86) (by decide +kernel)
theorem fr_74_5 {F : fT} (h : FOK F) : F 74 5 = 85 := h (74, 5, 85) (by decide +kernel)
theorem fr_87_0 {F : fT} (h : FOK F) : F 87 0 = 88 := h (87, 0, 88) (by decide +kernel)
theorem fr_74_6 {F : fT} (h : FOK F) : F 74 6 = 87 := h (74, 6, 87) (by decide +kernel)
theorem fr_89_0 {F : fT} (h : FOK F) : F 89 0 = 90 := h (89, 0, 90) (by decide +kernel)
theorem fr_74_7 {F : fT} (h : FOK F) : F 74 7 = 89 := h (74, 7, 89) (by decide +kernel)
theorem fr_73_0 {F : fT} (h : FOK F) : F 73 0 = 74 := h (73, 0, 74) (by decide +kernel)
theorem fr_92_0 {F : fT} (h : FOK F) : F 92 0 = 93 := h (92, 0, 93) (by decide +kernel)
theorem fr_91_0 {F : fT} (h : FOK F) : F 91 0 = 92 := h (91, 0, 92) (by decide +kernel)
theorem fr_94_0 {F : fT} (h : FOK F) : F 94 0 = 95 := h (94, 0, 95) (by decide +kernel)
theorem fr_91_1 {F : fT} (h : FOK F) : F 91 1 = 94 := h (91, 1, 94) (by decide +kernel)
theorem fr_96_0 {F : fT} (h : FOK F) : F 96 0 = 97 := h (96, 0, 97) (by decide +kernel)
theorem fr_91_2 {F : fT} (h : FOK F) : F 91 2 = 96 := h (91, 2, 96) (by decide +kernel)
theorem fr_98_0 {F : fT} (h : FOK F) : F 98 0 = 99 := h (98, 0, 99) (by decide +kernel)
theorem fr_91_3 {F : fT} (h : FOK F) : F 91 3 = 98 := h (91, 3, 98) (by decide +kernel)
theorem fr_100_0 {F : fT} (h : FOK F) : F 100 0 = 101 := h (100, 0, 101) (by decide +kernel)
theorem fr_91_4 {F : fT} (h : FOK F) : F 91 4 = 100 := h (91, 4, 100) (by decide +kernel)
theorem fr_73_1 {F : fT} (h : FOK F) : F 73 1 = 91 := h (73, 1, 91) (by decide +kernel)
theorem fr_102_0 {F : fT} (h : FOK F) : F 102 0 = 103 := h (102, 0, 103) (by decide +kernel)
theorem fr_73_2 {F : fT} (h : FOK F) : F 73 2 = 102 := h (73, 2, 102) (by decide +kernel)
theorem fr_104_0 {F : fT} (h : FOK F) : F 104 0 = 105 := h (104, 0, 105) (by decide +kernel)
theorem fr_73_3 {F : fT} (h : FOK F) : F 73 3 = 104 := h (73, 3, 104) (by decide +kernel)
theorem fr_106_0 {F : fT} (h : FOK F) : F 106 0 = 107 := h (106, 0, 107) (by decide +kernel)
theorem fr_73_4 {F : fT} (h : FOK F) : F 73 4 = 106 := h (73, 4, 106) (by decide +kernel)
theorem fr_108_0 {F : fT} (h : FOK F) : F 108 0 = 109 := h (108, 0, 109) (by decide +kernel)
theorem fr_73_5 {F : fT} (h : FOK F) : F 73 5 = 108 := h (73, 5, 108) (by decide +kernel)
theorem fr_110_0 {F : fT} (h : FOK F) : F 110 0 = 111 := h (110, 0, 111) (by decide +kernel)
theorem fr_73_6 {F : fT} (h : FOK F) : F 73 6 = 110 := h (73, 6, 110) (by decide +kernel)
theorem fr_112_0 {F : fT} (h : FOK F) : F 112 0 = 113 := h (112, 0, 113) (by decide +kernel)
theorem fr_73_7 {F : fT} (h : FOK F) : F 73 7 = 112 := h (73, 7, 112) (by decide +kernel)
theorem fr_114_0 {F : fT} (h : FOK F) : F 114 0 = 115 := h (114, 0, 115) (by decide +kernel)
theorem fr_73_8 {F : fT} (h : FOK F) : F 73 8 = 114 := h (73, 8, 114) (by decide +kernel)
theorem fr_116_0 {F : fT} (h : FOK F) : F 116 0 = 117 := h (116, 0, 117) (by decide +kernel)
theorem fr_73_9 {F : fT} (h : FOK F) : F 73 9 = 116 := h (73, 9, 116) (by decide +kernel)
theorem fr_118_0 {F : fT} (h : FOK F) : F 118 0 = 119 := h (118, 0, 119) (by decide +kernel)
theorem fr_73_10 {F : fT} (h : FOK F) : F 73 10 = 118 := h (73, 10, 118) (by decide +kernel)
theorem fr_120_0 {F : fT} (h : FOK F) : F 120 0 = 121 := h (120, 0, 121) (by decide +kernel)
theorem fr_73_11 {F : fT} (h : FOK F) : F 73 11 = 120 := h (73, 11, 120) (by decide +kernel)
theorem fr_122_0 {F : fT} (h : FOK F) : F 122 0 = 123 := h (122, 0, 123) (by decide +kernel)
theorem fr_73_12 {F : fT} (h : FOK F) : F 73 12 = 122 := h (73, 12, 122) (by decide +kernel)
theorem fr_124_0 {F : fT} (h : FOK F) : F 124 0 = 125 := h (124, 0, 125) (by decide +kernel)
theorem fr_73_13 {F : fT} (h : FOK F) : F 73 13 = 124 := h (73, 13, 124) (by decide +kernel)
theorem fr_126_0 {F : fT} (h : FOK F) : F 126 0 = 127 := h (126, 0, 127) (by decide +kernel)
theorem fr_73_14 {F : fT} (h : FOK F) : F 73 14 = 126 := h (73, 14, 126) (by decide +kernel)
theorem fr_128_0 {F : fT} (h : FOK F) : F 128 0 = 129 := h (128, 0, 129) (by decide +kernel)
theorem fr_73_15 {F : fT} (h : FOK F) : F 73 15 = 128 := h (73, 15, 128) (by decide +kernel)
theorem fr_130_0 {F : fT} (h : FOK F) : F 130 0 = 131 := h (130, 0, 131) (by decide +kernel)
theorem fr_73_16 {F : fT} (h : FOK F) : F 73 16 = 130 := h (73, 16, 130) (by decide +kernel)
theorem fr_132_0 {F : fT} (h : FOK F) : F 132 0 = 133 := h (132, 0, 133) (by decide +kernel)
theorem fr_73_17 {F : fT} (h : FOK F) : F 73 17 = 132 := h (73, 17, 132) (by decide +kernel)
theorem fr_136_0 {F : fT} (h : FOK F) : F 136 0 = 137 := h (136, 0, 137) (by decide +kernel)
theorem fr_135_0 {F : fT} (h : FOK F) : F 135 0 = 136 := h (135, 0, 136) (by decide +kernel)
theorem fr_138_0 {F : fT} (h : FOK F) : F 138 0 = 139 := h (138, 0, 139) (by decide +kernel)
theorem fr_135_1 {F : fT} (h : FOK F) : F 135 1 = 138 := h (135, 1, 138) (by decide +kernel)
theorem fr_140_0 {F : fT} (h : FOK F) : F 140 0 = 141 := h (140, 0, 141) (by decide +kernel)
theorem fr_135_2 {F : fT} (h : FOK F) : F 135 2 = 140 := h (135, 2, 140) (by decide +kernel)
theorem fr_134_1 {F : fT} (h : FOK F) : F 134 1 = 135 := h (134, 1, 135) (by decide +kernel)
theorem fr_134_0 {F : fT} (h : FOK F) : F 134 0 = 6 := h (134, 0, 6) (by decide +kernel)
theorem fr_143_0 {F : fT} (h : FOK F) : F 143 0 = 144 := h (143, 0, 144) (by decide +kernel)
theorem fr_142_1 {F : fT} (h : FOK F) : F 142 1 = 143 := h (142, 1, 143) (by decide +kernel)
theorem fr_145_0 {F : fT} (h : FOK F) : F 145 0 = 146 := h (145, 0, 146) (by decide +kernel)
theorem fr_142_2 {F : fT} (h : FOK F) : F 142 2 = 145 := h (142, 2, 145) (by decide +kernel)
theorem fr_142_0 {F : fT} (h : FOK F) : F 142 0 = 6 := h (142, 0, 6) (by decide +kernel)
theorem fr_134_2 {F : fT} (h : FOK F) : F 134 2 = 142 := h (134, 2, 142) (by decide +kernel)
theorem fr_147_0 {F : fT} (h : FOK F) : F 147 0 = 6 := h (147, 0, 6) (by decide +kernel)
theorem fr_147_1 {F : fT} (h : FOK F) : F 147 1 = 135 := h (147, 1, 135) (by decide +kernel)
theorem fr_134_3 {F : fT} (h : FOK F) : F 134 3 = 147 := h (134, 3, 147) (by decide +kernel)
theorem fr_1_3 {F : fT} (h : FOK F) : F 1 3 = 134 := h (1, 3, 134) (by decide +kernel)
theorem fr_150_0 {F : fT} (h : FOK F) : F 150 0 = 151 := h (150, 0, 151) (by decide +kernel)
theorem fr_149_0 {F : fT} (h : FOK F) : F 149 0 = 150 := h (149, 0, 150) (by decide +kernel)
theorem fr_152_0 {F : fT} (h : FOK F) : F 152 0 = 153 := h (152, 0, 153) (by decide +kernel)
theorem fr_149_1 {F : fT} (h : FOK F) : F 149 1 = 152 := h (149, 1, 152) (by decide +kernel)
theorem fr_154_0 {F : fT} (h : FOK F) : F 154 0 = 155 := h (154, 0, 155) (by decide +kernel)
theorem fr_149_2 {F : fT} (h : FOK F) : F 149 2 = 154 := h (149, 2, 154) (by decide +kernel)
theorem fr_156_0 {F : fT} (h : FOK F) : F 156 0 = 157 := h (156, 0, 157) (by decide +kernel)
theorem fr_149_3 {F : fT} (h : FOK F) : F 149 3 = 156 := h (149, 3, 156) (by decide +kernel)
theorem fr_158_0 {F : fT} (h : FOK F) : F 158 0 = 159 := h (158, 0, 159) (by decide +kernel)
theorem fr_149_4 {F : fT} (h : FOK F) : F 149 4 = 158 := h (149, 4, 158) (by decide +kernel)
theorem fr_160_0 {F : fT} (h : FOK F) : F 160 0 = 161 := h (160, 0, 161) (by decide +kernel)
theorem fr_149_5 {F : fT} (h : FOK F) : F 149 5 = 160 := h (149, 5, 160) (by decide +kernel)
theorem fr_162_0 {F : fT} (h : FOK F) : F 162 0 = 163 := h (162, 0, 163) (by decide +kernel)
theorem fr_149_6 {F : fT} (h : FOK F) : F 149 6 = 162 := h (149, 6, 162) (by decide +kernel)
theorem fr_148_0 {F : fT} (h : FOK F) : F 148 0 = 149 := h (148, 0, 149) (by decide +kernel)
theorem fr_164_0 {F : fT} (h : FOK F) : F 164 0 = 165 := h (164, 0, 165) (by decide +kernel)
theorem fr_148_1 {F : fT} (h : FOK F) : F 148 1 = 164 := h (148, 1, 164) (by decide +kernel)
theorem fr_166_0 {F : fT} (h : FOK F) : F 166 0 = 167 := h (166, 0, 167) (by decide +kernel)
theorem fr_148_2 {F : fT} (h : FOK F) : F 148 2 = 166 := h (148, 2, 166) (by decide +kernel)
theorem fr_168_0 {F : fT} (h : FOK F) : F 168 0 = 169 := h (168, 0, 169) (by decide +kernel)
theorem fr_148_3 {F : fT} (h : FOK F) : F 148 3 = 168 := h (148, 3, 168) (by decide +kernel)
theorem fr_170_0 {F : fT} (h : FOK F) : F 170 0 = 171 := h (170, 0, 171) (by decide +kernel)
theorem fr_148_4 {F : fT} (h : FOK F) : F 148 4 = 170 := h (148, 4, 170) (by decide +kernel)
theorem fr_172_0 {F : fT} (h : FOK F) : F 172 0 = 173 := h (172, 0, 173) (by decide +kernel)
theorem fr_148_5 {F : fT} (h : FOK F) : F 148 5 = 172 := h (148, 5, 172) (by decide +kernel)
theorem fr_174_0 {F : fT} (h : FOK F) : F 174 0 = 175 := h (174, 0, 175) (by decide +kernel)
theorem fr_148_6 {F : fT} (h : FOK F) : F 148 6 = 174 := h (148, 6, 174) (by decide +kernel)
theorem fr_176_0 {F : fT} (h : FOK F) : F 176 0 = 177 := h (176, 0, 177) (by decide +kernel)
theorem fr_148_7 {F : fT} (h : FOK F) : F 148 7 = 176 := h (148, 7, 176) (by decide +kernel)
theorem fr_178_0 {F : fT} (h : FOK F) : F 178 0 = 179 := h (178, 0, 179) (by decide +kernel)
theorem fr_148_8 {F : fT} (h : FOK F) : F 148 8 = 178 := h (148, 8, 178) (by decide +kernel)
theorem fr_180_0 {F : fT} (h : FOK F) : F 180 0 = 181 := h (180, 0, 181) (by decide +kernel)
theorem fr_148_9 {F : fT} (h : FOK F) : F 148 9 = 180 := h (148, 9, 180) (by decide +kernel)
theorem fr_182_0 {F : fT} (h : FOK F) : F 182 0 = 183 := h (182, 0, 183) (by decide +kernel)
theorem fr_148_10 {F : fT} (h : FOK F) : F 148 10 = 182 := h (148, 10, 182) (by decide +kernel)
theorem fr_184_0 {F : fT} (h : FOK F) : F 184 0 = 185 := h (184, 0, 185) (by decide +kernel)
theorem fr_148_11 {F : fT} (h : FOK F) : F 148 11 = 184 := h (148, 11, 184) (by decide +kernel)
theorem fr_1_4 {F : fT} (h : FOK F) : F 1 4 = 148 := h (1, 4, 148) (by decide +kernel)
theorem fr_186_0 {F : fT} (h : FOK F) : F 186 0 = 187 := h (186, 0, 187) (by decide +kernel)
theorem fr_186_11 {F : fT} (h : FOK F) : F 186 11 = 188 := h (186, 11, 188) (by decide +kernel)
theorem fr_186_12 {F : fT} (h : FOK F) : F 186 12 = 189 := h (186, 12, 189) (by decide +kernel)
theorem fr_186_13 {F : fT} (h : FOK F) : F 186 13 = 190 := h (186, 13, 190) (by decide +kernel)
theorem fr_186_14 {F : fT} (h : FOK F) : F 186 14 = 191 := h (186, 14, 191) (by decide +kernel)
theorem fr_186_15 {F : fT} (h : FOK F) : F 186 15 = 192 := h (186, 15, 192) (by decide +kernel)
theorem fr_186_18 {F : fT} (h : FOK F) : F 186 18 = 193 := h (186, 18, 193) (by decide +kernel)
theorem fr_186_19 {F : fT} (h : FOK F) : F 186 19 = 194 := h (186, 19, 194) (by decide +kernel)
theorem fr_186_20 {F : fT} (h : FOK F) : F 186 20 = 195 := h (186, 20, 195) (by decide +kernel)
theorem fr_186_21 {F : fT} (h : FOK F) : F 186 21 = 196 := h (186, 21, 196) (by decide +kernel)
theorem fr_186_22 {F : fT} (h : FOK F) : F 186 22 = 197 := h (186, 22, 197) (by decide +kernel)
theorem fr_186_23 {F : fT} (h : FOK F) : F 186 23 = 198 := h (186, 23, 198) (by decide +kernel)
theorem fr_186_24 {F : fT} (h : FOK F) : F 186 24 = 199 := h (186, 24, 199) (by decide +kernel)
theorem fr_186_25 {F : fT} (h : FOK F) : F 186 25 = 200 := h (186, 25, 200) (by decide +kernel)
theorem fr_186_26 {F : fT} (h : FOK F) : F 186 26 = 201 := h (186, 26, 201) (by decide +kernel)
theorem fr_186_27 {F : fT} (h : FOK F) : F 186 27 = 202 := h (186, 27, 202) (by decide +kernel)
theorem fr_186_28 {F : fT} (h : FOK F) : F 186 28 = 203 := h (186, 28, 203) (by decide +kernel)
theorem fr_186_29 {F : fT} (h : FOK F) : F 186 29 = 204 := h (186, 29, 204) (by decide +kernel)
theorem fr_186_30 {F : fT} (h : FOK F) : F 186 30 = 205 := h (186, 30, 205) (by decide +kernel)
theorem fr_186_37 {F : fT} (h : FOK F) : F 186 37 = 206 := h (186, 37, 206) (by decide +kernel)
theorem fr_186_38 {F : fT} (h : FOK F) : F 186 38 = 207 := h (186, 38, 207) (by decide +kernel)
theorem fr_186_39 {F : fT} (h : FOK F) : F 186 39 = 208 := h (186, 39, 208) (by decide +kernel)
theorem fr_186_40 {F : fT} (h : FOK F) : F 186 40 = 209 := h (186, 40, 209) (by decide +kernel)
theorem fr_186_41 {F : fT} (h : FOK F) : F 186 41 = 210 := h (186, 41, 210) (by decide +kernel)
theorem fr_186_42 {F : fT} (h : FOK F) : F 186 42 = 211 := h (186, 42, 211) (by decide +kernel)
theorem fr_186_52 {F : fT} (h : FOK F) : F 186 52 = 212 := h (186, 52, 212) (by decide +kernel)
theorem fr_186_53 {F : fT} (h : FOK F) : F 186 53 = 213 := h (186, 53, 213) (by decide +kernel)
theorem fr_186_54 {F : fT} (h : FOK F) : F 186 54 = 214 := h (186, 54, 214) (by decide +kernel)
theorem fr_186_55 {F : fT} (h : FOK F) : F 186 55 = 215 := h (186, 55, 215) (by decide +kernel)
theorem fr_186_56 {F : fT} (h : FOK F) : F 186 56 = 216 := h (186, 56, 216) (by decide +kernel)
theorem fr_186_57 {F : fT} (h : FOK F) : F 186 57 = 217 := h (186, 57, 217) (by decide +kernel)
theorem fr_186_58 {F : fT} (h : FOK F) : F 186 58 = 218 := h (186, 58, 218) (by decide +kernel)
theorem fr_186_59 {F : fT} (h : FOK F) : F 186 59 = 219 := h (186, 59, 219) (by decide +kernel)
theorem fr_186_66 {F : fT} (h : FOK F) : F 186 66 = 220 := h (186, 66, 220) (by decide +kernel)
theorem fr_186_67 {F : fT} (h : FOK F) : F 186 67 = 221 := h (186, 67, 221) (by decide +kernel)
theorem fr_186_68 {F : fT} (h : FOK F) : F 186 68 = 222 := h (186, 68, 222) (by decide +kernel)
theorem fr_186_69 {F : fT} (h : FOK F) : F 186 69 = 223 := h (186, 69, 223) (by decide +kernel)
theorem fr_186_70 {F : fT} (h : FOK F) : F 186 70 = 224 := h (186, 70, 224) (by decide +kernel)
theorem fr_186_71 {F : fT} (h : FOK F) : F 186 71 = 225 := h (186, 71, 225) (by decide +kernel)
theorem fr_186_72 {F : fT} (h : FOK F) : F 186 72 = 226 := h (186, 72, 226) (by decide +kernel)
theorem fr_186_73 {F : fT} (h : FOK F) : F 186 73 = 227 := h (186, 73, 227) (by decide +kernel)
theorem fr_186_74 {F : fT} (h : FOK F) : F 186 74 = 228 := h (186, 74, 228) (by decide +kernel)
theorem fr_186_75 {F : fT} (h : FOK F) : F 186 75 = 229 := h (186, 75, 229) (by decide +kernel)
theorem fr_186_77 {F : fT} (h : FOK F) : F 186 77 = 230 := h (186, 77, 230) (by decide +kernel)
theorem fr_186_79 {F : fT} (h : FOK F) : F 186 79 = 231 := h (186, 79, 231) (by decide +kernel)
theorem rw_2 : isRow 2 := ⟨by decide +kernel, by decide +kernel, by decide, by decide, by decide +kernel⟩
theorem rw_4 : isRow 4 := ⟨by decide +kernel, by decide +kernel, by decide, by decide, by decide +kernel⟩
theorem rw_7 : isRow 7 := ⟨by decide +kernel, by decide +kernel, by decide, by decide, by decide +kernel⟩
theorem rw_14 : isRow 14 := ⟨by decide +kernel, by decide +kernel, by decide, by decide, by decide +kernel⟩
theorem rw_16 : isRow 16 := ⟨by decide +kernel, by decide +kernel, by decide, by decide, by decide +kernel⟩
theorem rw_18 : isRow 18 := ⟨by decide +kernel, by decide +kernel, by decide, by decide, by decide +kernel⟩
theorem rw_20 : isRow 20 := ⟨by decide +kernel, by decide +kernel, by decide, by decide, by decide +kernel⟩
theorem rw_22 : isRow 22 := ⟨by decide +kernel, by decide +kernel, by decide, by decide, by decide +kernel⟩
theorem rw_24 : isRow 24 := ⟨by decide +kernel, by decide +kernel, by decide, by decide, by decide +kernel⟩
theorem rw_26 : isRow 26 := ⟨by decide +kernel, by decide +kernel, by decide, by decide, by decide +kernel⟩
theorem rw_28 : isRow 28 := ⟨by decide +kernel, by decide +kernel, by decide, by decide, by decide +kernel⟩
theorem rw_31 : isRow 31 := ⟨by decide +kernel, by decide +kernel, by decide, by decide, by decide +kernel⟩
theorem rw_33 : isRow 33 := ⟨by decide +kernel, by decide +kernel, by decide, by decide, by decide +kernel⟩
theorem rw_35 : isRow 35 := ⟨by decide +kernel, by decide +kernel, by decide, by decide, by decide +kernel⟩
theorem rw_37 : isRow 37 := ⟨by decide +kernel, by decide +kernel, by decide, by decide, by decide +kernel⟩
theorem rw_39 : isRow 39 := ⟨by decide +kernel, by decide +kernel, by decide, by decide, by decide +kernel⟩
theorem rw_41 : isRow 41 := ⟨by decide +kernel, by decide +kernel, by decide, by decide, by decide +kernel⟩
theorem rw_43 : isRow 43 := ⟨by decide +kernel, by decide +kernel, by decide, by decide, by decide +kernel⟩
theorem rw_45 : isRow 45 := ⟨by decide +kernel, by decide +kernel, by decide, by decide, by decide +kernel⟩
theorem rw_47 : isRow 47 := ⟨by decide +kernel, by decide +kernel, by decide, by decide, by decide +kernel⟩
theorem rw_49 : isRow 49 := ⟨by decide +kernel, by decide +kernel, by decide, by decide, by decide +kernel⟩
theorem rw_51 : isRow 51 := ⟨by decide +kernel, by decide +kernel, by decide, by decide, by decide +kernel⟩
theorem rw_53 : isRow 53 := ⟨by decide +kernel, by decide +kernel, by decide, by decide, by decide +kernel⟩
theorem rw_55 : isRow 55 := ⟨by decide +kernel, by decide +kernel, by decide, by decide, by decide +kernel⟩
theorem rw_57 : isRow 57 := ⟨by decide +kernel, by decide +kernel, by decide, by decide, by decide +kernel⟩
theorem rw_59 : isRow 59 := ⟨by decide +kernel, by decide +kernel, by decide, by decide, by decide +kernel⟩
theorem rw_61 : isRow 61 := ⟨by decide +kernel, by decide +kernel, by decide, by decide, by decide +kernel⟩
theorem rw_63 : isRow 63 := ⟨by decide +kernel, by decide +kernel, by decide, by decide, by decide +kernel⟩
theorem rw_65 : isRow 65 := ⟨by decide +kernel, by decide +kernel, by decide, by decide, by decide +kernel⟩
theorem rw_67 : isRow 67 := ⟨by decide +kernel, by decide +kernel, by decide, by decide, by decide +kernel⟩
theorem rw_69 : isRow 69 := ⟨by decide +kernel, by decide +kernel, by decide, by decide, by decide +kernel⟩
theorem rw_71 : isRow 71 := ⟨by decide +kernel, by decide +kernel, by decide, by decide, by decide +kernel⟩
theorem rw_75 : isRow 75 := ⟨by decide +kernel, by decide +kernel, by decide, by decide, by decide +kernel⟩
theorem rw_77 : isRow 77 := ⟨by decide +kernel, by decide +kernel, by decide, by decide, by decide +kernel⟩
theorem rw_79 : isRow 79 := ⟨by decide +kernel, by decide +kernel, by decide, by decide, by decide +kernel⟩
theorem rw_81 : isRow 81 := ⟨by decide +kernel, by decide +kernel, by decide, by decide, by decide +kernel⟩
theorem rw_83 : isRow 83 := ⟨by decide +kernel, by decide +kernel, by decide, by decide, by decide +kernel⟩
theorem rw_85 : isRow 85 := ⟨by decide +kernel, by decide +kernel, by decide, by decide, by decide +kernel⟩
theorem rw_87 : isRow 87 := ⟨by decide +kernel, by decide +kernel, by decide, by decide, by decide +kernel⟩
theorem rw_89 : isRow 89 := ⟨by decide +kernel, by decide +kernel, by decide, by decide, by decide +kernel⟩
theorem rw_92 : isRow 92 := ⟨by decide +kernel, by decide +kernel, by decide, by decide, by decide +kernel⟩
theorem rw_94 : isRow 94 := ⟨by decide +kernel, by decide +kernel, by decide, by decide, by decide +kernel⟩
theorem rw_96 : isRow 96 := ⟨by decide +kernel, by decide +kernel, by decide, by decide, by decide +kernel⟩
theorem rw_98 : isRow 98 := ⟨by decide +kernel, by decide +kernel, by decide, by decide, by decide +kernel⟩
theorem rw_100 : isRow 100 := ⟨by decide +kernel, by decide +kernel, by decide, by decide, by decide +kernel⟩
theorem rw_102 : isRow 102 := ⟨by decide +kernel, by decide +kernel, by decide, by decide, by decide +kernel⟩
theorem rw_104 : isRow 104 := ⟨by decide +kernel, by decide +kernel, by decide, by decide, by decide +kernel⟩
theorem rw_106 : isRow 106 := ⟨by decide +kernel, by decide +kernel, by decide, by decide, by decide +kernel⟩
theorem rw_108 : isRow 108 := ⟨by decide +kernel, by decide +kernel, by decide, by decide, by decide +kernel⟩
theorem rw_110 : isRow 110 := ⟨by decide +kernel, by decide +kernel, by decide, by decide, by decide +kernel⟩
theorem rw_112 : isRow 112 := ⟨by decide +kernel, by decide +kernel, by decide, by decide, by decide +kernel⟩
theorem rw_114 : isRow 114 := ⟨by decide +kernel, by decide +kernel, by decide, by decide, by decide +kernel⟩
theorem rw_116 : isRow 116 := ⟨by decide +kernel, by decide +kernel, by decide, by decide, by decide +kernel⟩
theorem rw_118 : isRow 118 := ⟨by decide +kernel, by decide +kernel, by decide, by decide, by decide +kernel⟩
theorem rw_120 : isRow 120 := ⟨by decide +kernel, by decide +kernel, by decide, by decide, by decide +kernel⟩
theorem rw_122 : isRow 122 := ⟨by decide +kernel, by decide +kernel, by decide, by decide, by decide +kernel⟩
theorem rw_124 : isRow 124 := ⟨by decide +kernel, by decide +kernel, by decide, by decide, by decide +kernel⟩
theorem rw_126 : isRow 126 := ⟨by decide +kernel, by decide +kernel, by decide, by decide, by decide +kernel⟩
theorem rw_128 : isRow 128 := ⟨by decide +kernel, by decide +kernel, by decide, by decide, by decide +kernel⟩
theorem rw_130 : isRow 130 := ⟨by decide +kernel, by decide +kernel, by decide, by decide, by decide +kernel⟩
theorem rw_132 : isRow 132 := ⟨by decide +kernel, by decide +kernel, by decide, by decide, by decide +kernel⟩
theorem rw_136 : isRow 136 := ⟨by decide +kernel, by decide +kernel, by decide, by decide, by decide +kernel⟩
theorem rw_138 : isRow 138 := ⟨by decide +kernel, by decide +kernel, by decide, by decide, by decide +kernel⟩
theorem rw_140 : isRow 140 := ⟨by decide +kernel, by decide +kernel, by decide, by decide, by decide +kernel⟩
theorem rw_143 : isRow 143 := ⟨by decide +kernel, by decide +kernel, by decide, by decide, by decide +kernel⟩
theorem rw_145 : isRow 145 := ⟨by decide +kernel, by decide +kernel, by decide, by decide, by decide +kernel⟩
theorem rw_150 : isRow 150 := ⟨by decide +kernel, by decide +kernel, by decide, by decide, by decide +kernel⟩
theorem rw_152 : isRow 152 := ⟨by decide +kernel, by decide +kernel, by decide, by decide, by decide +kernel⟩
theorem rw_154 : isRow 154 := ⟨by decide +kernel, by decide +kernel, by decide, by decide, by decide +kernel⟩
theorem rw_156 : isRow 156 := ⟨by decide +kernel, by decide +kernel, by decide, by decide, by decide +kernel⟩
theorem rw_158 : isRow 158 := ⟨by decide +kernel, by decide +kernel, by decide, by decide, by decide +kernel⟩
theorem rw_160 : isRow 160 := ⟨by decide +kernel, by decide +kernel, by decide, by decide, by decide +kernel⟩
theorem rw_162 : isRow 162 := ⟨by decide +kernel, by decide +kernel, by decide, by decide, by decide +kernel⟩
theorem rw_164 : isRow 164 := ⟨by decide +kernel, by decide +kernel, by decide, by decide, by decide +kernel⟩
theorem rw_166 : isRow 166 := ⟨by decide +kernel, by decide +kernel, by decide, by decide, by decide +kernel⟩
theorem rw_168 : isRow 168 := ⟨by decide +kernel, by decide +kernel, by decide, by decide, by decide +kernel⟩
theorem rw_170 : isRow 170 := ⟨by decide +kernel, by decide +kernel, by decide, by decide, by decide +kernel⟩
theorem rw_172 : isRow 172 := ⟨by decide +kernel, by decide +kernel, by decide, by decide, by decide +kernel⟩
theorem rw_174 : isRow 174 := ⟨by decide +kernel, by decide +kernel, by decide, by decide, by decide +kernel⟩
theorem rw_176 : isRow 176 := ⟨by decide +kernel, by decide +kernel, by decide, by decide, by decide +kernel⟩
theorem rw_178 : isRow 178 := ⟨by decide +kernel, by decide +kernel, by decide, by decide, by decide +kernel⟩
theorem rw_180 : isRow 180 := ⟨by decide +kernel, by decide +kernel, by decide, by decide, by decide +kernel⟩
theorem rw_182 : isRow 182 := ⟨by decide +kernel, by decide +kernel, by decide, by decide, by decide +kernel⟩
theorem rw_184 : isRow 184 := ⟨by decide +kernel, by decide +kernel, by decide, by decide, by decide +kernel⟩
theorem iz_row {a : Nat} (h : isRow a) : iz 231 a 4 := ⟨h.1, h.2.2.1, by have := h.2.2.2.1; omega⟩
theorem iz_items {a : Nat} (h : isRow a) : iz 231 (a + 1) 100 := ⟨h.2.1, by omega, by have := h.2.2.2.1; omega⟩
theorem fr_row {a : Nat} {F : fT} (hF : FOK F) (h : isRow a) : F a 0 = a + 1 := hF (a, 0, a + 1) h.2.2.2.2
theorem FOK.put {F : fT} (h : FOK F) {a j v : Nat} (hn : ∀ q ∈ FRL, ¬ (q.1 = a ∧ q.2.1 = j)) : FOK (a_u2 F a j v) := by
  intro q hq
  rw [a_u2_n _ _ (hn q hq)]
  exact h q hq
/-- the class's cells and the reference's, apart -/
def glue (IA IB : iT) : iT := fun a => if a ≤ 185 then IA a else IB a
abbrev hg (IA IB : iT) (J : jT) (F : fT) : aH := hp (glue IA IB) J F
theorem glueA {IA IB : iT} {a : Nat} (h : a ≤ 185) : glue IA IB a = IA a := if_pos h
theorem glueB {IA IB : iT} {a : Nat} (h : 185 < a) : glue IA IB a = IB a := if_neg (by omega)
theorem glueA_put {IA IB : iT} {a j : Nat} {v : Int32} (h : a ≤ 185) : a_u2 (glue IA IB) a j v = glue (a_u2 IA a j v) IB := by
  funext b i
  by_cases q : b = a ∧ i = j
  · obtain ⟨rfl, rfl⟩ := q
    rw [a_u2_s, glueA h, a_u2_s]
  · rw [a_u2_n _ _ q]
    by_cases hb : b ≤ 185
    · rw [glueA hb, glueA hb, a_u2_n _ _ q]
    · rw [glueB (by omega), glueB (by omega)]
theorem glueB_put {IA IB : iT} {a j : Nat} {v : Int32} (h : 185 < a) : a_u2 (glue IA IB) a j v = glue IA (a_u2 IB a j v) := by
  funext b i
  by_cases q : b = a ∧ i = j
  · obtain ⟨rfl, rfl⟩ := q
    rw [a_u2_s, glueB h, a_u2_s]
  · rw [a_u2_n _ _ q]
    by_cases hb : b ≤ 185
    · rw [glueA hb, glueA hb]
    · rw [glueB (by omega), glueB (by omega), a_u2_n _ _ q]
theorem rb_le {a : Nat} (h : isRow a) : a ≤ 185 := by have := h.2.2.2.1; omega
theorem rbi_le {a : Nat} (h : isRow a) : a + 1 ≤ 185 := h.2.2.2.1
section
variable {l : Launch} {K : a_KT} {g : a_GT} {d nc ns : Nat} {y : MethodName} {cc : ByteArray} {nL : Nat} {ret : Option FieldType} {pc : Nat} {ls st : List Value} {Q : Option Value → aH → Prop} {n : Nat} {I : iT} {J : jT} {F : fT}
theorem q_getI {idx : Nat} (c j : Nat) {a : Nat} (hd : decode cc pc = .ok (.getfield idx, 3)) (hf : a_fl y.cls idx c j) (ht : a_kI (a_ty c j) = true) (hc : iz n a c) (k : E l K g d nc ns y cc nL ret (pc + 3) ls (.int (I a j) :: st) (hq n I J F) Q) : E l K g d nc ns y cc nL ret pc ls (.ref a :: st) (hq n I J F) Q := e_getI lays_ok c j hd hf ht hc k
theorem q_getJ {idx : Nat} (c j : Nat) {a : Nat} (hd : decode cc pc = .ok (.getfield idx, 3)) (hf : a_fl y.cls idx c j) (ht : a_ty c j = .long) (hc : iz n a c) (k : E l K g d nc ns y cc nL ret (pc + 3) ls (.long (J a j) :: st) (hq n I J F) Q) : E l K g d nc ns y cc nL ret pc ls (.ref a :: st) (hq n I J F) Q := e_getJ lays_ok c j hd hf ht hc k
theorem q_getF {idx : Nat} (c j v : Nat) {a : Nat} (hd : decode cc pc = .ok (.getfield idx, 3)) (hf : a_fl y.cls idx c j) (ht : a_kF (a_ty c j) = true) (hc : iz n a c) (hv : F a j = v) (k : E l K g d nc ns y cc nL ret (pc + 3) ls (.ref v :: st) (hq n I J F) Q) : E l K g d nc ns y cc nL ret pc ls (.ref a :: st) (hq n I J F) Q := by
  subst hv
  exact e_getF lays_ok c j hd hf ht hc k
theorem q_putI {idx : Nat} (c j : Nat) {a : Nat} {x : Int32} (hd : decode cc pc = .ok (.putfield idx, 3)) (hf : a_fl y.cls idx c j) (hfin : (a_tb c j).2.2.2 = false) (ht : a_ty c j = .int) (hc : iz n a c) (k : E l K g d nc ns y cc nL ret (pc + 3) ls st (hq n (a_u2 I a j x) J F) Q) : E l K g d nc ns y cc nL ret pc ls (.int x :: .ref a :: st) (hq n I J F) Q := e_putI lays_ok c j hd hf hfin ht hc k
theorem q_putZ {idx : Nat} (c j : Nat) {a : Nat} {x : Int32} (hd : decode cc pc = .ok (.putfield idx, 3)) (hf : a_fl y.cls idx c j) (hfin : (a_tb c j).2.2.2 = false) (ht : a_ty c j = .boolean) (hx : x = 0 ∨ x = 1) (hc : iz n a c) (k : E l K g d nc ns y cc nL ret (pc + 3) ls st (hq n (a_u2 I a j x) J F) Q) : E l K g d nc ns y cc nL ret pc ls (.int x :: .ref a :: st) (hq n I J F) Q := e_putZ lays_ok c j hd hf hfin ht hx hc k
theorem q_putJ {idx : Nat} (c j : Nat) {a : Nat} {x : Int64} (hd : decode cc pc = .ok (.putfield idx, 3)) (hf : a_fl y.cls idx c j) (hfin : (a_tb c j).2.2.2 = false) (ht : a_ty c j = .long) (hc : iz n a c) (k : E l K g d nc ns y cc nL ret (pc + 3) ls st (hq n I (a_u2 J a j x) F) Q) : E l K g d nc ns y cc nL ret pc ls (.long x :: .ref a :: st) (hq n I J F) Q := e_putJ lays_ok c j hd hf hfin ht hc k
theorem q_putF {idx : Nat} (c j : Nat) {a x : Nat} (hd : decode cc pc = .ok (.putfield idx, 3)) (hf : a_fl y.cls idx c j) (hfin : (a_tb c j).2.2.2 = false ∨ y.name = "<init>" ∧ y.cls = a_rc c ∧ Cond.fieldLink y.cls idx (a_rc c) (a_tb c j).2.1 (a_tb c j).2.2.1 ∈ WS) (ht : a_kF (a_ty c j) = true) (hc : iz n a c) (k : E l K g d nc ns y cc nL ret (pc + 3) ls st (hq n I J (a_u2 F a j x)) Q) : E l K g d nc ns y cc nL ret pc ls (.ref x :: .ref a :: st) (hq n I J F) Q := e_putF lays_ok c j hd hf hfin ht hc k
theorem q_iald {a : Nat} {i : Int32} (hd : decode cc pc = .ok (.iaload, 1)) (hc : iz n a 100) (hi : vp_in i (LEN a)) (k : E l K g d nc ns y cc nL ret (pc + 1) ls (.int (I a i.toNatClampNeg) :: st) (hq n I J F) Q) : E l K g d nc ns y cc nL ret pc ls (.int i :: .ref a :: st) (hq n I J F) Q := e_iald hd hc hi k
theorem q_lald {a : Nat} {i : Int32} (hd : decode cc pc = .ok (.laload, 1)) (hc : iz n a 101) (hi : vp_in i (LEN a)) (k : E l K g d nc ns y cc nL ret (pc + 1) ls (.long (J a i.toNatClampNeg) :: st) (hq n I J F) Q) : E l K g d nc ns y cc nL ret pc ls (.int i :: .ref a :: st) (hq n I J F) Q := e_lald hd hc hi k
theorem q_zald {a : Nat} {i : Int32} (hd : decode cc pc = .ok (.baload, 1)) (hc : iz n a 102) (hi : vp_in i (LEN a)) (k : E l K g d nc ns y cc nL ret (pc + 1) ls (.int (I a i.toNatClampNeg) :: st) (hq n I J F) Q) : E l K g d nc ns y cc nL ret pc ls (.int i :: .ref a :: st) (hq n I J F) Q := e_zald hd hc hi k
theorem q_iast {a : Nat} {i x : Int32} (hd : decode cc pc = .ok (.iastore, 1)) (hc : iz n a 100) (hi : vp_in i (LEN a)) (k : E l K g d nc ns y cc nL ret (pc + 1) ls st (hq n (a_u2 I a i.toNatClampNeg x) J F) Q) : E l K g d nc ns y cc nL ret pc ls (.int x :: .int i :: .ref a :: st) (hq n I J F) Q := e_iast hd hc hi k
theorem q_last {a : Nat} {i : Int32} {x : Int64} (hd : decode cc pc = .ok (.lastore, 1)) (hc : iz n a 101) (hi : vp_in i (LEN a)) (k : E l K g d nc ns y cc nL ret (pc + 1) ls st (hq n I (a_u2 J a i.toNatClampNeg x) F) Q) : E l K g d nc ns y cc nL ret pc ls (.long x :: .int i :: .ref a :: st) (hq n I J F) Q := e_last hd hc hi k
theorem q_zast {a : Nat} {i x : Int32} (hd : decode cc pc = .ok (.bastore, 1)) (hc : iz n a 102) (hi : vp_in i (LEN a)) (hx : x = 0 ∨ x = 1) (k : E l K g d nc ns y cc nL ret (pc + 1) ls st (hq n (a_u2 I a i.toNatClampNeg x) J F) Q) : E l K g d nc ns y cc nL ret pc ls (.int x :: .int i :: .ref a :: st) (hq n I J F) Q := e_zast hd hc hi hx k
theorem q_alen {a : Nat} (hd : decode cc pc = .ok (.arraylength, 1)) (hc : iz n a 100) (k : E l K g d nc ns y cc nL ret (pc + 1) ls (.int (nI (LEN a)) :: st) (hq n I J F) Q) : E l K g d nc ns y cc nL ret pc ls (.ref a :: st) (hq n I J F) Q := e_alen hd (Or.inl hc.1) hc.2.1 hc.2.2 k
/-- a store of one slot where no long stands right before it -/
def a_nl (l : List Value) (i : Nat) : Bool := match i with
  | 0 => true
  | j + 1 => match l[j]? with
    | some (Value.long _) => false
    | some (Value.double _) => false
    | _ => true
theorem a_s1_nl {l : List Value} {i : Nat} {v : Value} (h : a_nl l i = true) : a_s1 l i v = l.set i v := by
  unfold a_s1
  unfold a_nl at h
  split
  · rfl
  · rename_i j
    dsimp only at h
    split at h
    · cases h
    · cases h
    · rename_i n1 n2
      split
      · rename_i q; exact absurd q (n1 _)
      · rename_i q; exact absurd q (n2 _)
      · rfl
theorem q_istore_n {h : aH} {i : Fin 4} {x : Int32} (hi : (i : Nat) < nL) (hn : a_nl ls (i : Nat) = true) (hd : decode cc pc = .ok (.istore_n i, 1)) (k : E l K g d nc ns y cc nL ret (pc + 1) (ls.set (i : Nat) (.int x)) st h Q) : E l K g d nc ns y cc nL ret pc ls (.int x :: st) h Q := e_istore_n hi hd (by rw [a_s1_nl hn]; exact k)
theorem q_istore {h : aH} {i : Nat} {x : Int32} (hi : i < nL) (hn : a_nl ls i = true) (hd : decode cc pc = .ok (.istore i, 2)) (k : E l K g d nc ns y cc nL ret (pc + 2) (ls.set i (.int x)) st h Q) : E l K g d nc ns y cc nL ret pc ls (.int x :: st) h Q := e_istore hi hd (by rw [a_s1_nl hn]; exact k)
theorem q_astore_n {h : aH} {i : Fin 4} {x : Nat} (h0 : x ≠ 0) (hi : (i : Nat) < nL) (hn : a_nl ls (i : Nat) = true) (hd : decode cc pc = .ok (.astore_n i, 1)) (k : E l K g d nc ns y cc nL ret (pc + 1) (ls.set (i : Nat) (.ref x)) st h Q) : E l K g d nc ns y cc nL ret pc ls (.ref x :: st) h Q := e_astore_n h0 hi hd (by rw [a_s1_nl hn]; exact k)
theorem q_astore {h : aH} {i : Nat} {x : Nat} (h0 : x ≠ 0) (hi : i < nL) (hn : a_nl ls i = true) (hd : decode cc pc = .ok (.astore i, 2)) (k : E l K g d nc ns y cc nL ret (pc + 2) (ls.set i (.ref x)) st h Q) : E l K g d nc ns y cc nL ret pc ls (.ref x :: st) h Q := e_astore h0 hi hd (by rw [a_s1_nl hn]; exact k)
theorem q_iinc {h : aH} {i : Nat} {n : Int} {x : Int32} (v : Int32) (hx : ls[i]? = some (.int x)) (hv : x + Int32.ofInt n = v) (hn : a_nl ls i = true) (hd : decode cc pc = .ok (.iinc i n, 3)) (k : E l K g d nc ns y cc nL ret (pc + 3) (ls.set i (.int v)) st h Q) : E l K g d nc ns y cc nL ret pc ls st h Q := e_iinc v hx hv hd (by rw [a_s1_nl hn]; exact k)
/-- a contract out of the walk of its body; the locals as they stand at its beginning -/
theorem c_of {h : aH} (ls0 : List Value) {as : List Value} (hy : plainName y.cls = true) (hn : (a_sl as).length ≤ nL) (hl0 : a_ls nL as = ls0) (hE : E l K g d nc ns y cc nL ret 0 ls0 [] h Q) : C l K g d nc ns y cc nL ret as h Q := C.of hy hn (by rw [hl0]; exact hE)
end
section
variable {l : Launch} {K : a_KT} {g : a_GT} {d nc ns : Nat} {y : MethodName} {cc : ByteArray} {nL : Nat} {ret : Option FieldType} {pc : Nat} {ls st : List Value} {Q : Option Value → aH → Prop} {IA IB : iT} {J : jT} {F : fT}
theorem k_getI {idx : Nat} (c j : Nat) {a : Nat} (hd : decode cc pc = .ok (.getfield idx, 3)) (hf : a_fl y.cls idx c j) (ht : a_kI (a_ty c j) = true) (hc : iz 231 a c) (hb : a ≤ 185) (k : E l K g d nc ns y cc nL ret (pc + 3) ls (.int (IA a j) :: st) (hg IA IB J F) Q) : E l K g d nc ns y cc nL ret pc ls (.ref a :: st) (hg IA IB J F) Q := q_getI c j hd hf ht hc (by rw [glueA hb]; exact k)
theorem k_putI {idx : Nat} (c j : Nat) {a : Nat} {x : Int32} (hd : decode cc pc = .ok (.putfield idx, 3)) (hf : a_fl y.cls idx c j) (hfin : (a_tb c j).2.2.2 = false) (ht : a_ty c j = .int) (hc : iz 231 a c) (hb : a ≤ 185) (k : E l K g d nc ns y cc nL ret (pc + 3) ls st (hg (a_u2 IA a j x) IB J F) Q) : E l K g d nc ns y cc nL ret pc ls (.int x :: .ref a :: st) (hg IA IB J F) Q := q_putI c j hd hf hfin ht hc (by rw [glueA_put hb]; exact k)
theorem k_putZ {idx : Nat} (c j : Nat) {a : Nat} {x : Int32} (hd : decode cc pc = .ok (.putfield idx, 3)) (hf : a_fl y.cls idx c j) (hfin : (a_tb c j).2.2.2 = false) (ht : a_ty c j = .boolean) (hx : x = 0 ∨ x = 1) (hc : iz 231 a c) (hb : a ≤ 185) (k : E l K g d nc ns y cc nL ret (pc + 3) ls st (hg (a_u2 IA a j x) IB J F) Q) : E l K g d nc ns y cc nL ret pc ls (.int x :: .ref a :: st) (hg IA IB J F) Q := q_putZ c j hd hf hfin ht hx hc (by rw [glueA_put hb]; exact k)
theorem k_iald {a : Nat} {i : Int32} (hd : decode cc pc = .ok (.iaload, 1)) (hc : iz 231 a 100) (hi : vp_in i (LEN a)) (hb : a ≤ 185) (k : E l K g d nc ns y cc nL ret (pc + 1) ls (.int (IA a i.toNatClampNeg) :: st) (hg IA IB J F) Q) : E l K g d nc ns y cc nL ret pc ls (.int i :: .ref a :: st) (hg IA IB J F) Q := q_iald hd hc hi (by rw [glueA hb]; exact k)
theorem k_zald {a : Nat} {i : Int32} (hd : decode cc pc = .ok (.baload, 1)) (hc : iz 231 a 102) (hi : vp_in i (LEN a)) (hb : a ≤ 185) (k : E l K g d nc ns y cc nL ret (pc + 1) ls (.int (IA a i.toNatClampNeg) :: st) (hg IA IB J F) Q) : E l K g d nc ns y cc nL ret pc ls (.int i :: .ref a :: st) (hg IA IB J F) Q := q_zald hd hc hi (by rw [glueA hb]; exact k)
theorem k_iast {a : Nat} {i x : Int32} (hd : decode cc pc = .ok (.iastore, 1)) (hc : iz 231 a 100) (hi : vp_in i (LEN a)) (hb : a ≤ 185) (k : E l K g d nc ns y cc nL ret (pc + 1) ls st (hg (a_u2 IA a i.toNatClampNeg x) IB J F) Q) : E l K g d nc ns y cc nL ret pc ls (.int x :: .int i :: .ref a :: st) (hg IA IB J F) Q := q_iast hd hc hi (by rw [glueA_put hb]; exact k)
theorem k_zast {a : Nat} {i x : Int32} (hd : decode cc pc = .ok (.bastore, 1)) (hc : iz 231 a 102) (hi : vp_in i (LEN a)) (hx : x = 0 ∨ x = 1) (hb : a ≤ 185) (k : E l K g d nc ns y cc nL ret (pc + 1) ls st (hg (a_u2 IA a i.toNatClampNeg x) IB J F) Q) : E l K g d nc ns y cc nL ret pc ls (.int x :: .int i :: .ref a :: st) (hg IA IB J F) Q := q_zast hd hc hi hx (by rw [glueA_put hb]; exact k)
end
section
variable {l : Launch} {K : a_KT} {g : a_GT} {d nc ns : Nat} {y : MethodName} {cc : ByteArray} {nL : Nat} {ret : Option FieldType} {pc : Nat} {ls st : List Value} {Q : Option Value → aH → Prop} {IA IB : iT} {J : jT} {F : fT}
theorem l_getI {idx : Nat} (c j : Nat) {a : Nat} (hd : decode cc pc = .ok (.getfield idx, 3)) (hf : a_fl y.cls idx c j) (ht : a_kI (a_ty c j) = true) (hc : iz 231 a c) (hb : 185 < a) (k : E l K g d nc ns y cc nL ret (pc + 3) ls (.int (IB a j) :: st) (hg IA IB J F) Q) : E l K g d nc ns y cc nL ret pc ls (.ref a :: st) (hg IA IB J F) Q := q_getI c j hd hf ht hc (by rw [glueB hb]; exact k)
theorem l_putI {idx : Nat} (c j : Nat) {a : Nat} {x : Int32} (hd : decode cc pc = .ok (.putfield idx, 3)) (hf : a_fl y.cls idx c j) (hfin : (a_tb c j).2.2.2 = false) (ht : a_ty c j = .int) (hc : iz 231 a c) (hb : 185 < a) (k : E l K g d nc ns y cc nL ret (pc + 3) ls st (hg IA (a_u2 IB a j x) J F) Q) : E l K g d nc ns y cc nL ret pc ls (.int x :: .ref a :: st) (hg IA IB J F) Q := q_putI c j hd hf hfin ht hc (by rw [glueB_put hb]; exact k)
theorem l_putZ {idx : Nat} (c j : Nat) {a : Nat} {x : Int32} (hd : decode cc pc = .ok (.putfield idx, 3)) (hf : a_fl y.cls idx c j) (hfin : (a_tb c j).2.2.2 = false) (ht : a_ty c j = .boolean) (hx : x = 0 ∨ x = 1) (hc : iz 231 a c) (hb : 185 < a) (k : E l K g d nc ns y cc nL ret (pc + 3) ls st (hg IA (a_u2 IB a j x) J F) Q) : E l K g d nc ns y cc nL ret pc ls (.int x :: .ref a :: st) (hg IA IB J F) Q := q_putZ c j hd hf hfin ht hx hc (by rw [glueB_put hb]; exact k)
theorem l_iald {a : Nat} {i : Int32} (hd : decode cc pc = .ok (.iaload, 1)) (hc : iz 231 a 100) (hi : vp_in i (LEN a)) (hb : 185 < a) (k : E l K g d nc ns y cc nL ret (pc + 1) ls (.int (IB a i.toNatClampNeg) :: st) (hg IA IB J F) Q) : E l K g d nc ns y cc nL ret pc ls (.int i :: .ref a :: st) (hg IA IB J F) Q := q_iald hd hc hi (by rw [glueB hb]; exact k)
theorem l_zald {a : Nat} {i : Int32} (hd : decode cc pc = .ok (.baload, 1)) (hc : iz 231 a 102) (hi : vp_in i (LEN a)) (hb : 185 < a) (k : E l K g d nc ns y cc nL ret (pc + 1) ls (.int (IB a i.toNatClampNeg) :: st) (hg IA IB J F) Q) : E l K g d nc ns y cc nL ret pc ls (.int i :: .ref a :: st) (hg IA IB J F) Q := q_zald hd hc hi (by rw [glueB hb]; exact k)
theorem l_iast {a : Nat} {i x : Int32} (hd : decode cc pc = .ok (.iastore, 1)) (hc : iz 231 a 100) (hi : vp_in i (LEN a)) (hb : 185 < a) (k : E l K g d nc ns y cc nL ret (pc + 1) ls st (hg IA (a_u2 IB a i.toNatClampNeg x) J F) Q) : E l K g d nc ns y cc nL ret pc ls (.int x :: .int i :: .ref a :: st) (hg IA IB J F) Q := q_iast hd hc hi (by rw [glueB_put hb]; exact k)
theorem l_zast {a : Nat} {i x : Int32} (hd : decode cc pc = .ok (.bastore, 1)) (hc : iz 231 a 102) (hi : vp_in i (LEN a)) (hx : x = 0 ∨ x = 1) (hb : 185 < a) (k : E l K g d nc ns y cc nL ret (pc + 1) ls st (hg IA (a_u2 IB a i.toNatClampNeg x) J F) Q) : E l K g d nc ns y cc nL ret pc ls (.int x :: .int i :: .ref a :: st) (hg IA IB J F) Q := q_zast hd hc hi hx (by rw [glueB_put hb]; exact k)
end
