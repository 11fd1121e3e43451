-- the layout of both objects, by numbers; written out by gen17.py
abbrev HT : Type := (Nat → Nat → Option Nat) × List (Nat × Nat)
def kd (T : HT) (a : Nat) : Nat × Nat := T.2.getD a (99, 0)
def rf (T : HT) (a k : Nat) : Option Nat := T.1 a k
def shpTab : List (Nat × Nat) := [(0, 0), (18, 8), (14, 12), (17, 6), (1, 401), (1, 401), (1, 401), (2, 400), (15, 2), (1, 200), (1, 4), (1, 4), (16, 9), (1, 30), (3, 4), (11, 6), (1, 16), (1, 256), (1, 300), (1, 30), (15, 2), (1, 200), (15, 2), (1, 200), (15, 2), (1, 200), (15, 2), (1, 200), (12, 3), (4, 6), (11, 6), (1, 16), (1, 256), (11, 6), (1, 16), (1, 256), (11, 6), (1, 16), (1, 256), (11, 6), (1, 16), (1, 256), (11, 6), (1, 16), (1, 256), (11, 6), (1, 16), (1, 256), (13, 1), (1, 64), (10, 2), (1, 200), (1, 202), (11, 6), (1, 16), (1, 256), (11, 6), (1, 16), (1, 256), (19, 30), (1, 4180), (1, 4180), (1, 1896), (1, 800), (1, 400), (1, 16), (1, 16), (1, 16384), (1, 16384), (1, 5040), (1, 7), (1, 256), (1, 256), (1, 16), (1, 200), (1, 202), (1, 16)]
def refTab : List (Nat × Nat × Nat) := [(1, 0, 2), (1, 1, 12), (1, 2, 28), (1, 3, 48), (1, 4, 50), (1, 5, 53), (1, 6, 56), (2, 2, 3), (2, 3, 8), (2, 10, 10), (2, 11, 11), (3, 2, 4), (3, 3, 5), (3, 4, 6), (3, 5, 7), (8, 1, 9), (12, 4, 13), (12, 5, 14), (12, 6, 15), (12, 7, 18), (12, 8, 19), (14, 0, 20), (14, 1, 22), (14, 2, 24), (14, 3, 26), (15, 4, 16), (15, 5, 17), (20, 1, 21), (22, 1, 23), (24, 1, 25), (26, 1, 27), (28, 2, 29), (29, 0, 30), (29, 1, 33), (29, 2, 36), (29, 3, 39), (29, 4, 42), (29, 5, 45), (30, 4, 31), (30, 5, 32), (33, 4, 34), (33, 5, 35), (36, 4, 37), (36, 5, 38), (39, 4, 40), (39, 5, 41), (42, 4, 43), (42, 5, 44), (45, 4, 46), (45, 5, 47), (48, 0, 49), (50, 0, 51), (50, 1, 52), (53, 4, 54), (53, 5, 55), (56, 4, 57), (56, 5, 58), (59, 0, 60), (59, 1, 61), (59, 2, 62), (59, 5, 63), (59, 6, 64), (59, 17, 65), (59, 18, 66), (59, 19, 67), (59, 20, 68), (59, 21, 69), (59, 22, 70), (59, 24, 71), (59, 25, 72), (59, 26, 73), (59, 27, 74), (59, 28, 75), (59, 29, 76)]
def Lay (T : HT) : Prop := (∀ a, 0 < a → a < 77 → kd T a = shpTab.getD a (0, 0)) ∧ (∀ e ∈ refTab, rf T e.1 e.2.1 = some e.2.2)
theorem kdH {h : Hp} {T : HT} {a : Nat} {x : Nat × Nat} (e : h.2.2 = T) (f : kd T a = x) : shp h a = x := by subst e; exact f
theorem kdK {h : Hp} {T : HT} {a k n : Nat} (e : h.2.2 = T) (f : kd T a = (k, n)) : (shp h a).1 = k := by rw [kdH e f]
theorem rfH {h : Hp} {T : HT} {a k : Nat} {x : Option Nat} (e : h.2.2 = T) (f : rf T a k = x) : gR h a k = x := by subst e; exact f
section Lay
variable {T : HT} (hL : Lay T)
theorem kd_1 {T : HT} (hL : Lay T) : kd T 1 = (18, 8) := hL.1 1 (by decide) (by decide)
theorem kd_2 {T : HT} (hL : Lay T) : kd T 2 = (14, 12) := hL.1 2 (by decide) (by decide)
theorem kd_3 {T : HT} (hL : Lay T) : kd T 3 = (17, 6) := hL.1 3 (by decide) (by decide)
theorem kd_4 {T : HT} (hL : Lay T) : kd T 4 = (1, 401) := hL.1 4 (by decide) (by decide)
theorem kd_5 {T : HT} (hL : Lay T) : kd T 5 = (1, 401) := hL.1 5 (by decide) (by decide)
theorem kd_6 {T : HT} (hL : Lay T) : kd T 6 = (1, 401) := hL.1 6 (by decide) (by decide)
theorem kd_7 {T : HT} (hL : Lay T) : kd T 7 = (2, 400) := hL.1 7 (by decide) (by decide)
theorem kd_8 {T : HT} (hL : Lay T) : kd T 8 = (15, 2) := hL.1 8 (by decide) (by decide)
theorem kd_9 {T : HT} (hL : Lay T) : kd T 9 = (1, 200) := hL.1 9 (by decide) (by decide)
theorem kd_10 {T : HT} (hL : Lay T) : kd T 10 = (1, 4) := hL.1 10 (by decide) (by decide)
theorem kd_11 {T : HT} (hL : Lay T) : kd T 11 = (1, 4) := hL.1 11 (by decide) (by decide)
theorem kd_12 {T : HT} (hL : Lay T) : kd T 12 = (16, 9) := hL.1 12 (by decide) (by decide)
theorem kd_13 {T : HT} (hL : Lay T) : kd T 13 = (1, 30) := hL.1 13 (by decide) (by decide)
theorem kd_14 {T : HT} (hL : Lay T) : kd T 14 = (3, 4) := hL.1 14 (by decide) (by decide)
theorem kd_15 {T : HT} (hL : Lay T) : kd T 15 = (11, 6) := hL.1 15 (by decide) (by decide)
theorem kd_16 {T : HT} (hL : Lay T) : kd T 16 = (1, 16) := hL.1 16 (by decide) (by decide)
theorem kd_17 {T : HT} (hL : Lay T) : kd T 17 = (1, 256) := hL.1 17 (by decide) (by decide)
theorem kd_18 {T : HT} (hL : Lay T) : kd T 18 = (1, 300) := hL.1 18 (by decide) (by decide)
theorem kd_19 {T : HT} (hL : Lay T) : kd T 19 = (1, 30) := hL.1 19 (by decide) (by decide)
theorem kd_20 {T : HT} (hL : Lay T) : kd T 20 = (15, 2) := hL.1 20 (by decide) (by decide)
theorem kd_21 {T : HT} (hL : Lay T) : kd T 21 = (1, 200) := hL.1 21 (by decide) (by decide)
theorem kd_22 {T : HT} (hL : Lay T) : kd T 22 = (15, 2) := hL.1 22 (by decide) (by decide)
theorem kd_23 {T : HT} (hL : Lay T) : kd T 23 = (1, 200) := hL.1 23 (by decide) (by decide)
theorem kd_24 {T : HT} (hL : Lay T) : kd T 24 = (15, 2) := hL.1 24 (by decide) (by decide)
theorem kd_25 {T : HT} (hL : Lay T) : kd T 25 = (1, 200) := hL.1 25 (by decide) (by decide)
theorem kd_26 {T : HT} (hL : Lay T) : kd T 26 = (15, 2) := hL.1 26 (by decide) (by decide)
theorem kd_27 {T : HT} (hL : Lay T) : kd T 27 = (1, 200) := hL.1 27 (by decide) (by decide)
theorem kd_28 {T : HT} (hL : Lay T) : kd T 28 = (12, 3) := hL.1 28 (by decide) (by decide)
theorem kd_29 {T : HT} (hL : Lay T) : kd T 29 = (4, 6) := hL.1 29 (by decide) (by decide)
theorem kd_30 {T : HT} (hL : Lay T) : kd T 30 = (11, 6) := hL.1 30 (by decide) (by decide)
theorem kd_31 {T : HT} (hL : Lay T) : kd T 31 = (1, 16) := hL.1 31 (by decide) (by decide)
theorem kd_32 {T : HT} (hL : Lay T) : kd T 32 = (1, 256) := hL.1 32 (by decide) (by decide)
theorem kd_33 {T : HT} (hL : Lay T) : kd T 33 = (11, 6) := hL.1 33 (by decide) (by decide)
theorem kd_34 {T : HT} (hL : Lay T) : kd T 34 = (1, 16) := hL.1 34 (by decide) (by decide)
theorem kd_35 {T : HT} (hL : Lay T) : kd T 35 = (1, 256) := hL.1 35 (by decide) (by decide)
theorem kd_36 {T : HT} (hL : Lay T) : kd T 36 = (11, 6) := hL.1 36 (by decide) (by decide)
theorem kd_37 {T : HT} (hL : Lay T) : kd T 37 = (1, 16) := hL.1 37 (by decide) (by decide)
theorem kd_38 {T : HT} (hL : Lay T) : kd T 38 = (1, 256) := hL.1 38 (by decide) (by decide)
theorem kd_39 {T : HT} (hL : Lay T) : kd T 39 = (11, 6) := hL.1 39 (by decide) (by decide)
theorem kd_40 {T : HT} (hL : Lay T) : kd T 40 = (1, 16) := hL.1 40 (by decide) (by decide)
theorem kd_41 {T : HT} (hL : Lay T) : kd T 41 = (1, 256) := hL.1 41 (by decide) (by decide)
theorem kd_42 {T : HT} (hL : Lay T) : kd T 42 = (11, 6) := hL.1 42 (by decide) (by decide)
theorem kd_43 {T : HT} (hL : Lay T) : kd T 43 = (1, 16) := hL.1 43 (by decide) (by decide)
theorem kd_44 {T : HT} (hL : Lay T) : kd T 44 = (1, 256) := hL.1 44 (by decide) (by decide)
theorem kd_45 {T : HT} (hL : Lay T) : kd T 45 = (11, 6) := hL.1 45 (by decide) (by decide)
theorem kd_46 {T : HT} (hL : Lay T) : kd T 46 = (1, 16) := hL.1 46 (by decide) (by decide)
theorem kd_47 {T : HT} (hL : Lay T) : kd T 47 = (1, 256) := hL.1 47 (by decide) (by decide)
theorem kd_48 {T : HT} (hL : Lay T) : kd T 48 = (13, 1) := hL.1 48 (by decide) (by decide)
theorem kd_49 {T : HT} (hL : Lay T) : kd T 49 = (1, 64) := hL.1 49 (by decide) (by decide)
theorem kd_50 {T : HT} (hL : Lay T) : kd T 50 = (10, 2) := hL.1 50 (by decide) (by decide)
theorem kd_51 {T : HT} (hL : Lay T) : kd T 51 = (1, 200) := hL.1 51 (by decide) (by decide)
theorem kd_52 {T : HT} (hL : Lay T) : kd T 52 = (1, 202) := hL.1 52 (by decide) (by decide)
theorem kd_53 {T : HT} (hL : Lay T) : kd T 53 = (11, 6) := hL.1 53 (by decide) (by decide)
theorem kd_54 {T : HT} (hL : Lay T) : kd T 54 = (1, 16) := hL.1 54 (by decide) (by decide)
theorem kd_55 {T : HT} (hL : Lay T) : kd T 55 = (1, 256) := hL.1 55 (by decide) (by decide)
theorem kd_56 {T : HT} (hL : Lay T) : kd T 56 = (11, 6) := hL.1 56 (by decide) (by decide)
theorem kd_57 {T : HT} (hL : Lay T) : kd T 57 = (1, 16) := hL.1 57 (by decide) (by decide)
theorem kd_58 {T : HT} (hL : Lay T) : kd T 58 = (1, 256) := hL.1 58 (by decide) (by decide)
theorem kd_59 {T : HT} (hL : Lay T) : kd T 59 = (19, 30) := hL.1 59 (by decide) (by decide)
theorem kd_60 {T : HT} (hL : Lay T) : kd T 60 = (1, 4180) := hL.1 60 (by decide) (by decide)
theorem kd_61 {T : HT} (hL : Lay T) : kd T 61 = (1, 4180) := hL.1 61 (by decide) (by decide)
theorem kd_62 {T : HT} (hL : Lay T) : kd T 62 = (1, 1896) := hL.1 62 (by decide) (by decide)
theorem kd_63 {T : HT} (hL : Lay T) : kd T 63 = (1, 800) := hL.1 63 (by decide) (by decide)
theorem kd_64 {T : HT} (hL : Lay T) : kd T 64 = (1, 400) := hL.1 64 (by decide) (by decide)
theorem kd_65 {T : HT} (hL : Lay T) : kd T 65 = (1, 16) := hL.1 65 (by decide) (by decide)
theorem kd_66 {T : HT} (hL : Lay T) : kd T 66 = (1, 16) := hL.1 66 (by decide) (by decide)
theorem kd_67 {T : HT} (hL : Lay T) : kd T 67 = (1, 16384) := hL.1 67 (by decide) (by decide)
theorem kd_68 {T : HT} (hL : Lay T) : kd T 68 = (1, 16384) := hL.1 68 (by decide) (by decide)
theorem kd_69 {T : HT} (hL : Lay T) : kd T 69 = (1, 5040) := hL.1 69 (by decide) (by decide)
theorem kd_70 {T : HT} (hL : Lay T) : kd T 70 = (1, 7) := hL.1 70 (by decide) (by decide)
theorem kd_71 {T : HT} (hL : Lay T) : kd T 71 = (1, 256) := hL.1 71 (by decide) (by decide)
theorem kd_72 {T : HT} (hL : Lay T) : kd T 72 = (1, 256) := hL.1 72 (by decide) (by decide)
theorem kd_73 {T : HT} (hL : Lay T) : kd T 73 = (1, 16) := hL.1 73 (by decide) (by decide)
theorem kd_74 {T : HT} (hL : Lay T) : kd T 74 = (1, 200) := hL.1 74 (by decide) (by decide)
theorem kd_75 {T : HT} (hL : Lay T) : kd T 75 = (1, 202) := hL.1 75 (by decide) (by decide)
theorem kd_76 {T : HT} (hL : Lay T) : kd T 76 = (1, 16) := hL.1 76 (by decide) (by decide)
theorem rf_1_0 {T : HT} (hL : Lay T) : rf T 1 0 = some 2 := hL.2 (1, 0, 2) (by decide)
theorem rf_1_1 {T : HT} (hL : Lay T) : rf T 1 1 = some 12 := hL.2 (1, 1, 12) (by decide)
theorem rf_1_2 {T : HT} (hL : Lay T) : rf T 1 2 = some 28 := hL.2 (1, 2, 28) (by decide)
theorem rf_1_3 {T : HT} (hL : Lay T) : rf T 1 3 = some 48 := hL.2 (1, 3, 48) (by decide)
theorem rf_1_4 {T : HT} (hL : Lay T) : rf T 1 4 = some 50 := hL.2 (1, 4, 50) (by decide)
theorem rf_1_5 {T : HT} (hL : Lay T) : rf T 1 5 = some 53 := hL.2 (1, 5, 53) (by decide)
theorem rf_1_6 {T : HT} (hL : Lay T) : rf T 1 6 = some 56 := hL.2 (1, 6, 56) (by decide)
theorem rf_2_2 {T : HT} (hL : Lay T) : rf T 2 2 = some 3 := hL.2 (2, 2, 3) (by decide)
theorem rf_2_3 {T : HT} (hL : Lay T) : rf T 2 3 = some 8 := hL.2 (2, 3, 8) (by decide)
theorem rf_2_10 {T : HT} (hL : Lay T) : rf T 2 10 = some 10 := hL.2 (2, 10, 10) (by decide)
theorem rf_2_11 {T : HT} (hL : Lay T) : rf T 2 11 = some 11 := hL.2 (2, 11, 11) (by decide)
theorem rf_3_2 {T : HT} (hL : Lay T) : rf T 3 2 = some 4 := hL.2 (3, 2, 4) (by decide)
theorem rf_3_3 {T : HT} (hL : Lay T) : rf T 3 3 = some 5 := hL.2 (3, 3, 5) (by decide)
theorem rf_3_4 {T : HT} (hL : Lay T) : rf T 3 4 = some 6 := hL.2 (3, 4, 6) (by decide)
theorem rf_3_5 {T : HT} (hL : Lay T) : rf T 3 5 = some 7 := hL.2 (3, 5, 7) (by decide)
theorem rf_8_1 {T : HT} (hL : Lay T) : rf T 8 1 = some 9 := hL.2 (8, 1, 9) (by decide)
theorem rf_12_4 {T : HT} (hL : Lay T) : rf T 12 4 = some 13 := hL.2 (12, 4, 13) (by decide)
theorem rf_12_5 {T : HT} (hL : Lay T) : rf T 12 5 = some 14 := hL.2 (12, 5, 14) (by decide)
theorem rf_12_6 {T : HT} (hL : Lay T) : rf T 12 6 = some 15 := hL.2 (12, 6, 15) (by decide)
theorem rf_12_7 {T : HT} (hL : Lay T) : rf T 12 7 = some 18 := hL.2 (12, 7, 18) (by decide)
theorem rf_12_8 {T : HT} (hL : Lay T) : rf T 12 8 = some 19 := hL.2 (12, 8, 19) (by decide)
theorem rf_14_0 {T : HT} (hL : Lay T) : rf T 14 0 = some 20 := hL.2 (14, 0, 20) (by decide)
theorem rf_14_1 {T : HT} (hL : Lay T) : rf T 14 1 = some 22 := hL.2 (14, 1, 22) (by decide)
theorem rf_14_2 {T : HT} (hL : Lay T) : rf T 14 2 = some 24 := hL.2 (14, 2, 24) (by decide)
theorem rf_14_3 {T : HT} (hL : Lay T) : rf T 14 3 = some 26 := hL.2 (14, 3, 26) (by decide)
theorem rf_15_4 {T : HT} (hL : Lay T) : rf T 15 4 = some 16 := hL.2 (15, 4, 16) (by decide)
theorem rf_15_5 {T : HT} (hL : Lay T) : rf T 15 5 = some 17 := hL.2 (15, 5, 17) (by decide)
theorem rf_20_1 {T : HT} (hL : Lay T) : rf T 20 1 = some 21 := hL.2 (20, 1, 21) (by decide)
theorem rf_22_1 {T : HT} (hL : Lay T) : rf T 22 1 = some 23 := hL.2 (22, 1, 23) (by decide)
theorem rf_24_1 {T : HT} (hL : Lay T) : rf T 24 1 = some 25 := hL.2 (24, 1, 25) (by decide)
theorem rf_26_1 {T : HT} (hL : Lay T) : rf T 26 1 = some 27 := hL.2 (26, 1, 27) (by decide)
theorem rf_28_2 {T : HT} (hL : Lay T) : rf T 28 2 = some 29 := hL.2 (28, 2, 29) (by decide)
theorem rf_29_0 {T : HT} (hL : Lay T) : rf T 29 0 = some 30 := hL.2 (29, 0, 30) (by decide)
theorem rf_29_1 {T : HT} (hL : Lay T) : rf T 29 1 = some 33 := hL.2 (29, 1, 33) (by decide)
theorem rf_29_2 {T : HT} (hL : Lay T) : rf T 29 2 = some 36 := hL.2 (29, 2, 36) (by decide)
theorem rf_29_3 {T : HT} (hL : Lay T) : rf T 29 3 = some 39 := hL.2 (29, 3, 39) (by decide)
theorem rf_29_4 {T : HT} (hL : Lay T) : rf T 29 4 = some 42 := hL.2 (29, 4, 42) (by decide)
theorem rf_29_5 {T : HT} (hL : Lay T) : rf T 29 5 = some 45 := hL.2 (29, 5, 45) (by decide)
theorem rf_30_4 {T : HT} (hL : Lay T) : rf T 30 4 = some 31 := hL.2 (30, 4, 31) (by decide)
theorem rf_30_5 {T : HT} (hL : Lay T) : rf T 30 5 = some 32 := hL.2 (30, 5, 32) (by decide)
theorem rf_33_4 {T : HT} (hL : Lay T) : rf T 33 4 = some 34 := hL.2 (33, 4, 34) (by decide)
theorem rf_33_5 {T : HT} (hL : Lay T) : rf T 33 5 = some 35 := hL.2 (33, 5, 35) (by decide)
theorem rf_36_4 {T : HT} (hL : Lay T) : rf T 36 4 = some 37 := hL.2 (36, 4, 37) (by decide)
theorem rf_36_5 {T : HT} (hL : Lay T) : rf T 36 5 = some 38 := hL.2 (36, 5, 38) (by decide)
theorem rf_39_4 {T : HT} (hL : Lay T) : rf T 39 4 = some 40 := hL.2 (39, 4, 40) (by decide)
theorem rf_39_5 {T : HT} (hL : Lay T) : rf T 39 5 = some 41 := hL.2 (39, 5, 41) (by decide)
theorem rf_42_4 {T : HT} (hL : Lay T) : rf T 42 4 = some 43 := hL.2 (42, 4, 43) (by decide)
theorem rf_42_5 {T : HT} (hL : Lay T) : rf T 42 5 = some 44 := hL.2 (42, 5, 44) (by decide)
theorem rf_45_4 {T : HT} (hL : Lay T) : rf T 45 4 = some 46 := hL.2 (45, 4, 46) (by decide)
theorem rf_45_5 {T : HT} (hL : Lay T) : rf T 45 5 = some 47 := hL.2 (45, 5, 47) (by decide)
theorem rf_48_0 {T : HT} (hL : Lay T) : rf T 48 0 = some 49 := hL.2 (48, 0, 49) (by decide)
theorem rf_50_0 {T : HT} (hL : Lay T) : rf T 50 0 = some 51 := hL.2 (50, 0, 51) (by decide)
theorem rf_50_1 {T : HT} (hL : Lay T) : rf T 50 1 = some 52 := hL.2 (50, 1, 52) (by decide)
theorem rf_53_4 {T : HT} (hL : Lay T) : rf T 53 4 = some 54 := hL.2 (53, 4, 54) (by decide)
theorem rf_53_5 {T : HT} (hL : Lay T) : rf T 53 5 = some 55 := hL.2 (53, 5, 55) (by decide)
theorem rf_56_4 {T : HT} (hL : Lay T) : rf T 56 4 = some 57 := hL.2 (56, 4, 57) (by decide)
theorem rf_56_5 {T : HT} (hL : Lay T) : rf T 56 5 = some 58 := hL.2 (56, 5, 58) (by decide)
theorem rf_59_0 {T : HT} (hL : Lay T) : rf T 59 0 = some 60 := hL.2 (59, 0, 60) (by decide)
theorem rf_59_1 {T : HT} (hL : Lay T) : rf T 59 1 = some 61 := hL.2 (59, 1, 61) (by decide)
theorem rf_59_2 {T : HT} (hL : Lay T) : rf T 59 2 = some 62 := hL.2 (59, 2, 62) (by decide)
theorem rf_59_5 {T : HT} (hL : Lay T) : rf T 59 5 = some 63 := hL.2 (59, 5, 63) (by decide)
theorem rf_59_6 {T : HT} (hL : Lay T) : rf T 59 6 = some 64 := hL.2 (59, 6, 64) (by decide)
theorem rf_59_17 {T : HT} (hL : Lay T) : rf T 59 17 = some 65 := hL.2 (59, 17, 65) (by decide)
theorem rf_59_18 {T : HT} (hL : Lay T) : rf T 59 18 = some 66 := hL.2 (59, 18, 66) (by decide)
theorem rf_59_19 {T : HT} (hL : Lay T) : rf T 59 19 = some 67 := hL.2 (59, 19, 67) (by decide)
theorem rf_59_20 {T : HT} (hL : Lay T) : rf T 59 20 = some 68 := hL.2 (59, 20, 68) (by decide)
theorem rf_59_21 {T : HT} (hL : Lay T) : rf T 59 21 = some 69 := hL.2 (59, 21, 69) (by decide)
theorem rf_59_22 {T : HT} (hL : Lay T) : rf T 59 22 = some 70 := hL.2 (59, 22, 70) (by decide)
theorem rf_59_24 {T : HT} (hL : Lay T) : rf T 59 24 = some 71 := hL.2 (59, 24, 71) (by decide)
theorem rf_59_25 {T : HT} (hL : Lay T) : rf T 59 25 = some 72 := hL.2 (59, 25, 72) (by decide)
theorem rf_59_26 {T : HT} (hL : Lay T) : rf T 59 26 = some 73 := hL.2 (59, 26, 73) (by decide)
theorem rf_59_27 {T : HT} (hL : Lay T) : rf T 59 27 = some 74 := hL.2 (59, 27, 74) (by decide)
theorem rf_59_28 {T : HT} (hL : Lay T) : rf T 59 28 = some 75 := hL.2 (59, 28, 75) (by decide)
theorem rf_59_29 {T : HT} (hL : Lay T) : rf T 59 29 = some 76 := hL.2 (59, 29, 76) (by decide)
end Lay
def IsX7 (T : HT) (a : Nat) : Prop := kd T a = (15, 2) ∧ kd T (a + 1) = (1, 200) ∧ rf T a 1 = some (a + 1)
theorem X7_k0 {T : HT} {a : Nat} (q : IsX7 T a) : kd T a = (15, 2) := q.1
theorem X7_k1 {T : HT} {a : Nat} (q : IsX7 T a) : kd T (a + 1) = (1, 200) := q.2.1
theorem X7_r1 {T : HT} {a : Nat} (q : IsX7 T a) : rf T a 1 = some (a + 1) := q.2.2
def IsX1 (T : HT) (a : Nat) : Prop := kd T a = (11, 6) ∧ kd T (a + 1) = (1, 16) ∧ kd T (a + 2) = (1, 256) ∧ rf T a 4 = some (a + 1) ∧ rf T a 5 = some (a + 2)
theorem X1_k0 {T : HT} {a : Nat} (q : IsX1 T a) : kd T a = (11, 6) := q.1
theorem X1_k1 {T : HT} {a : Nat} (q : IsX1 T a) : kd T (a + 1) = (1, 16) := q.2.1
theorem X1_k2 {T : HT} {a : Nat} (q : IsX1 T a) : kd T (a + 2) = (1, 256) := q.2.2.1
theorem X1_r4 {T : HT} {a : Nat} (q : IsX1 T a) : rf T a 4 = some (a + 1) := q.2.2.2.1
theorem X1_r5 {T : HT} {a : Nat} (q : IsX1 T a) : rf T a 5 = some (a + 2) := q.2.2.2.2
def IsX8 (T : HT) (a : Nat) : Prop := kd T a = (16, 9) ∧ kd T (a + 1) = (1, 30) ∧ kd T (a + 2) = (3, 4) ∧ kd T (a + 6) = (1, 300) ∧ kd T (a + 7) = (1, 30) ∧ rf T a 4 = some (a + 1) ∧ rf T a 5 = some (a + 2) ∧ rf T a 6 = some (a + 3) ∧ rf T a 7 = some (a + 6) ∧ rf T a 8 = some (a + 7) ∧ IsX1 T (a + 3) ∧ (∀ k, k < 4 → rf T (a + 2) k = some (a + 8 + 2 * k) ∧ IsX7 T (a + 8 + 2 * k))
theorem X8_k0 {T : HT} {a : Nat} (q : IsX8 T a) : kd T a = (16, 9) := q.1
theorem X8_k1 {T : HT} {a : Nat} (q : IsX8 T a) : kd T (a + 1) = (1, 30) := q.2.1
theorem X8_k2 {T : HT} {a : Nat} (q : IsX8 T a) : kd T (a + 2) = (3, 4) := q.2.2.1
theorem X8_k6 {T : HT} {a : Nat} (q : IsX8 T a) : kd T (a + 6) = (1, 300) := q.2.2.2.1
theorem X8_k7 {T : HT} {a : Nat} (q : IsX8 T a) : kd T (a + 7) = (1, 30) := q.2.2.2.2.1
theorem X8_r4 {T : HT} {a : Nat} (q : IsX8 T a) : rf T a 4 = some (a + 1) := q.2.2.2.2.2.1
theorem X8_r5 {T : HT} {a : Nat} (q : IsX8 T a) : rf T a 5 = some (a + 2) := q.2.2.2.2.2.2.1
theorem X8_r6 {T : HT} {a : Nat} (q : IsX8 T a) : rf T a 6 = some (a + 3) := q.2.2.2.2.2.2.2.1
theorem X8_r7 {T : HT} {a : Nat} (q : IsX8 T a) : rf T a 7 = some (a + 6) := q.2.2.2.2.2.2.2.2.1
theorem X8_r8 {T : HT} {a : Nat} (q : IsX8 T a) : rf T a 8 = some (a + 7) := q.2.2.2.2.2.2.2.2.2.1
theorem X8_cord {T : HT} {a : Nat} (q : IsX8 T a) : IsX1 T (a + 3) := q.2.2.2.2.2.2.2.2.2.2.1
theorem X8_songs {T : HT} {a : Nat} (q : IsX8 T a) : (∀ k, k < 4 → rf T (a + 2) k = some (a + 8 + 2 * k) ∧ IsX7 T (a + 8 + 2 * k)) := q.2.2.2.2.2.2.2.2.2.2.2
theorem X8_sref {T : HT} {a k : Nat} (q : IsX8 T a) (hk : k < 4) : rf T (a + 2) k = some (a + 8 + 2 * k) := (X8_songs q k hk).1
theorem X8_song {T : HT} {a k : Nat} (q : IsX8 T a) (hk : k < 4) : IsX7 T (a + 8 + 2 * k) := (X8_songs q k hk).2
theorem isX7_8 {T : HT} (hL : Lay T) : IsX7 T 8 := ⟨kd_8 hL, kd_9 hL, rf_8_1 hL⟩
theorem isX7_20 {T : HT} (hL : Lay T) : IsX7 T 20 := ⟨kd_20 hL, kd_21 hL, rf_20_1 hL⟩
theorem isX7_22 {T : HT} (hL : Lay T) : IsX7 T 22 := ⟨kd_22 hL, kd_23 hL, rf_22_1 hL⟩
theorem isX7_24 {T : HT} (hL : Lay T) : IsX7 T 24 := ⟨kd_24 hL, kd_25 hL, rf_24_1 hL⟩
theorem isX7_26 {T : HT} (hL : Lay T) : IsX7 T 26 := ⟨kd_26 hL, kd_27 hL, rf_26_1 hL⟩
theorem isX1_15 {T : HT} (hL : Lay T) : IsX1 T 15 := ⟨kd_15 hL, kd_16 hL, kd_17 hL, rf_15_4 hL, rf_15_5 hL⟩
theorem isX1_30 {T : HT} (hL : Lay T) : IsX1 T 30 := ⟨kd_30 hL, kd_31 hL, kd_32 hL, rf_30_4 hL, rf_30_5 hL⟩
theorem isX1_33 {T : HT} (hL : Lay T) : IsX1 T 33 := ⟨kd_33 hL, kd_34 hL, kd_35 hL, rf_33_4 hL, rf_33_5 hL⟩
theorem isX1_36 {T : HT} (hL : Lay T) : IsX1 T 36 := ⟨kd_36 hL, kd_37 hL, kd_38 hL, rf_36_4 hL, rf_36_5 hL⟩
theorem isX1_39 {T : HT} (hL : Lay T) : IsX1 T 39 := ⟨kd_39 hL, kd_40 hL, kd_41 hL, rf_39_4 hL, rf_39_5 hL⟩
theorem isX1_42 {T : HT} (hL : Lay T) : IsX1 T 42 := ⟨kd_42 hL, kd_43 hL, kd_44 hL, rf_42_4 hL, rf_42_5 hL⟩
theorem isX1_45 {T : HT} (hL : Lay T) : IsX1 T 45 := ⟨kd_45 hL, kd_46 hL, kd_47 hL, rf_45_4 hL, rf_45_5 hL⟩
theorem isX1_53 {T : HT} (hL : Lay T) : IsX1 T 53 := ⟨kd_53 hL, kd_54 hL, kd_55 hL, rf_53_4 hL, rf_53_5 hL⟩
theorem isX1_56 {T : HT} (hL : Lay T) : IsX1 T 56 := ⟨kd_56 hL, kd_57 hL, kd_58 hL, rf_56_4 hL, rf_56_5 hL⟩
theorem isX7_song {T : HT} (hL : Lay T) {k : Nat} (hk : k < 4) : IsX7 T (20 + 2 * k) := by
  match k, hk with
  | 0, _ => exact isX7_20 hL
  | 1, _ => exact isX7_22 hL
  | 2, _ => exact isX7_24 hL
  | 3, _ => exact isX7_26 hL
  | k + 4, hk => exact absurd hk (by omega)
theorem isX1_hist {T : HT} (hL : Lay T) {k : Nat} (hk : k < 6) : IsX1 T (30 + 3 * k) := by
  match k, hk with
  | 0, _ => exact isX1_30 hL
  | 1, _ => exact isX1_33 hL
  | 2, _ => exact isX1_36 hL
  | 3, _ => exact isX1_39 hL
  | 4, _ => exact isX1_42 hL
  | 5, _ => exact isX1_45 hL
  | k + 6, hk => exact absurd hk (by omega)
theorem rf_song {T : HT} (hL : Lay T) {k : Nat} (hk : k < 4) : rf T 14 k = some (20 + 2 * k) := by
  match k, hk with
  | 0, _ => exact rf_14_0 hL
  | 1, _ => exact rf_14_1 hL
  | 2, _ => exact rf_14_2 hL
  | 3, _ => exact rf_14_3 hL
  | k + 4, hk => exact absurd hk (by omega)
theorem rf_hist {T : HT} (hL : Lay T) {k : Nat} (hk : k < 6) : rf T 29 k = some (30 + 3 * k) := by
  match k, hk with
  | 0, _ => exact rf_29_0 hL
  | 1, _ => exact rf_29_1 hL
  | 2, _ => exact rf_29_2 hL
  | 3, _ => exact rf_29_3 hL
  | 4, _ => exact rf_29_4 hL
  | 5, _ => exact rf_29_5 hL
  | k + 6, hk => exact absurd hk (by omega)
theorem isX8_12 {T : HT} (hL : Lay T) : IsX8 T 12 := ⟨kd_12 hL, kd_13 hL, kd_14 hL, kd_18 hL, kd_19 hL, rf_12_4 hL, rf_12_5 hL, rf_12_6 hL, rf_12_7 hL, rf_12_8 hL, isX1_15 hL, fun k hk => ⟨rf_song hL hk, isX7_song hL hk⟩⟩
def b2i (b : Bool) : Int32 := if b then 1 else 0
theorem b2i_01 (b : Bool) : b2i b = 0 ∨ b2i b = 1 := by cases b <;> decide
theorem b2i_t : b2i true = 1 := rfl
theorem b2i_f : b2i false = 0 := rfl
def CallZ (d : Nat) (y : Mth) (as : List Value) (h : Hp) (K : Bool → Hp → Prop) : Prop := Call d y as h (fun v h' => ∃ r, v = some (.int (b2i r)) ∧ K r h')
section Rows2
variable {d : Nat} {y : Mth} {pc pc' : Nat} {L S : List Value} {h : Hp} {Q : Option Value → Hp → Prop}
theorem b2i_0 {e : Bool} : b2i e = 0 ↔ e = false := by cases e <;> decide
theorem b2i_n0 {e : Bool} : ¬ b2i e = 0 ↔ e = true := by cases e <;> decide
theorem At_zeq {o : Int} {t : Nat} {e : Bool} (hd : ins y pc = some (.ifCond .eq o, 3)) (ht : (pc : Int) + o = (t : Int)) (hp : pc + 3 = pc') (k1 : ¬ e = true → At d y t L S h Q) (k2 : e = true → At d y pc' L S h Q) : At d y pc L (.int (b2i e) :: S) h Q := At_if_eq hd ht hp (fun q => k1 (by rw [b2i_0.mp q]; decide)) (fun q => k2 (b2i_n0.mp q))
theorem At_zne {o : Int} {t : Nat} {e : Bool} (hd : ins y pc = some (.ifCond .ne o, 3)) (ht : (pc : Int) + o = (t : Int)) (hp : pc + 3 = pc') (k1 : e = true → At d y t L S h Q) (k2 : ¬ e = true → At d y pc' L S h Q) : At d y pc L (.int (b2i e) :: S) h Q := At_if_ne hd ht hp (fun q => k1 (b2i_n0.mp q)) (fun q => k2 (by rw [b2i_0.mp q]; decide))
theorem At_tabC {df lo hi o : Int} {os : Array Int} {len t : Nat} {x v : Int32} (c : x = v) (hd : ins y pc = some (.tableswitch df lo hi os, len)) (h1 : ¬ (v.toInt < lo ∨ hi < v.toInt)) (ho : os[(v.toInt - lo).toNat]? = some o) (ht : (pc : Int) + o = (t : Int)) (k : At d y t L S h Q) : At d y pc L (.int x :: S) h Q := by subst c; exact At_tabIn hd h1 ho ht k
theorem tabCs (x : Int32) (lo n : Nat) (hb : lo + n < 2 ^ 31) : (x.toInt < (lo : Int) ∨ ((lo + n : Nat) : Int) < x.toInt) ∨ ∃ k, k ≤ n ∧ x = nI (lo + k) := by
  rcases Classical.em (x.toInt < (lo : Int) ∨ ((lo + n : Nat) : Int) < x.toInt) with q | q
  · exact Or.inl q
  · right
    have h0 : ¬ x < 0 := by
      intro z
      have := Int32.lt_iff_toInt_lt.mp z
      have e0 : (0 : Int32).toInt = 0 := by decide
      omega
    obtain ⟨j, hj, rfl⟩ := nI_of h0
    rw [nI_toInt hj] at q
    refine ⟨j - lo, by omega, ?_⟩
    rw [show lo + (j - lo) = j by omega]
end Rows2
