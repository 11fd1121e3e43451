-- THE WORDS of the tables, by their places; written out by gen04.py
abbrev vwCl : List vw_C := [(RX0, TX0, 2), (RX1, TX1, 6), (RX2, TX2, 3), (RX3, TX3, 1), (RX5, TX5, 12), (RX7, TX7, 2), (RX8, TX8, 9), (RX9, TX9, 6), (RX10, TX10, 8), (RX11, TX11, 30)]
def gt : List Cond := lw_tbl.filter goodWord
set_option maxRecDepth 20000 in
theorem gt_in {w : Cond} (h : w ∈ tables_1) (g : goodWord w = true) : w ∈ gt := List.mem_filter.mpr ⟨List.mem_append_right _ h, g⟩
set_option maxRecDepth 20000 in
theorem gt_sel {w : Cond} (h : w ∈ k2_sels lw_privs) (g : goodWord w = true) : w ∈ gt := List.mem_filter.mpr ⟨List.mem_append_left _ h, g⟩
set_option maxRecDepth 20000 in
theorem gt_good : GoodIn gt gt := fun w h => ⟨h, good_of_word (List.mem_filter.mp h).2⟩
set_option maxRecDepth 20000 in
theorem tch1 {w : Cond} (h : w ∈ tables_1_1) : w ∈ tables_1 := List.mem_append_left _ h
set_option maxRecDepth 20000 in
theorem tch2 {w : Cond} (h : w ∈ tables_1_2) : w ∈ tables_1 := List.mem_append_right _ (List.mem_append_left _ h)
set_option maxRecDepth 20000 in
theorem tch3 {w : Cond} (h : w ∈ tables_1_3) : w ∈ tables_1 := List.mem_append_right _ (List.mem_append_right _ (List.mem_append_left _ h))
set_option maxRecDepth 20000 in
theorem tch4 {w : Cond} (h : w ∈ tables_1_4) : w ∈ tables_1 := List.mem_append_right _ (List.mem_append_right _ (List.mem_append_right _ (List.mem_append_left _ h)))
set_option maxRecDepth 20000 in
theorem tch5 {w : Cond} (h : w ∈ tables_1_5) : w ∈ tables_1 := List.mem_append_right _ (List.mem_append_right _ (List.mem_append_right _ (List.mem_append_right _ (List.mem_append_left _ h))))
set_option maxRecDepth 20000 in
theorem tch6 {w : Cond} (h : w ∈ tables_1_6) : w ∈ tables_1 := List.mem_append_right _ (List.mem_append_right _ (List.mem_append_right _ (List.mem_append_right _ (List.mem_append_right _ (h)))))
def PF (e : (Nat × Nat) × (Nat × Nat)) : Prop := ∃ q : vw_C, vwCl[e.2.1]? = some q ∧ e.2.2 < q.2.2 ∧ Cond.fieldLink (clsN e.1.1) e.1.2 (q.2.1 e.2.2).1 (q.2.1 e.2.2).2.1 (q.2.1 e.2.2).2.2.1 ∈ gt
set_option maxRecDepth 20000 in
theorem pf_0 : PF ((0, 9), (0, 0)) := ⟨_, rfl, by decide, (gt_in (tch2 (List.mem_of_getElem? (i := 13) rfl)) rfl)⟩
set_option maxRecDepth 20000 in
theorem pf_1 : PF ((0, 15), (0, 1)) := ⟨_, rfl, by decide, (gt_in (tch2 (List.mem_of_getElem? (i := 14) rfl)) rfl)⟩
set_option maxRecDepth 20000 in
theorem pf_2 : PF ((0, 24), (5, 0)) := ⟨_, rfl, by decide, (gt_in (tch1 (List.mem_of_getElem? (i := 74) rfl)) rfl)⟩
set_option maxRecDepth 20000 in
theorem pf_3 : PF ((0, 30), (5, 1)) := ⟨_, rfl, by decide, (gt_in (tch1 (List.mem_of_getElem? (i := 80) rfl)) rfl)⟩
set_option maxRecDepth 20000 in
theorem pf_4 : PF ((1, 15), (1, 0)) := ⟨_, rfl, by decide, (gt_in (tch1 (List.mem_of_getElem? (i := 152) rfl)) rfl)⟩
set_option maxRecDepth 20000 in
theorem pf_5 : PF ((1, 21), (1, 1)) := ⟨_, rfl, by decide, (gt_in (tch1 (List.mem_of_getElem? (i := 155) rfl)) rfl)⟩
set_option maxRecDepth 20000 in
theorem pf_6 : PF ((1, 25), (1, 2)) := ⟨_, rfl, by decide, (gt_in (tch1 (List.mem_of_getElem? (i := 157) rfl)) rfl)⟩
set_option maxRecDepth 20000 in
theorem pf_7 : PF ((1, 28), (1, 3)) := ⟨_, rfl, by decide, (gt_in (tch1 (List.mem_of_getElem? (i := 159) rfl)) rfl)⟩
set_option maxRecDepth 20000 in
theorem pf_8 : PF ((1, 31), (1, 4)) := ⟨_, rfl, by decide, (gt_in (tch1 (List.mem_of_getElem? (i := 162) rfl)) rfl)⟩
set_option maxRecDepth 20000 in
theorem pf_9 : PF ((1, 35), (1, 5)) := ⟨_, rfl, by decide, (gt_in (tch1 (List.mem_of_getElem? (i := 164) rfl)) rfl)⟩
set_option maxRecDepth 20000 in
theorem pf_10 : PF ((1, 52), (5, 0)) := ⟨_, rfl, by decide, (gt_in (tch1 (List.mem_of_getElem? (i := 77) rfl)) rfl)⟩
set_option maxRecDepth 20000 in
theorem pf_11 : PF ((1, 57), (5, 1)) := ⟨_, rfl, by decide, (gt_in (tch1 (List.mem_of_getElem? (i := 82) rfl)) rfl)⟩
set_option maxRecDepth 20000 in
theorem pf_12 : PF ((2, 9), (2, 0)) := ⟨_, rfl, by decide, (gt_in (tch1 (List.mem_of_getElem? (i := 226) rfl)) rfl)⟩
set_option maxRecDepth 20000 in
theorem pf_13 : PF ((2, 15), (2, 1)) := ⟨_, rfl, by decide, (gt_in (tch1 (List.mem_of_getElem? (i := 228) rfl)) rfl)⟩
set_option maxRecDepth 20000 in
theorem pf_14 : PF ((2, 20), (2, 2)) := ⟨_, rfl, by decide, (gt_in (tch1 (List.mem_of_getElem? (i := 229) rfl)) rfl)⟩
set_option maxRecDepth 20000 in
theorem pf_15 : PF ((3, 11), (3, 0)) := ⟨_, rfl, by decide, (gt_in (tch2 (List.mem_of_getElem? (i := 3) rfl)) rfl)⟩
set_option maxRecDepth 20000 in
theorem pf_16 : PF ((5, 9), (4, 0)) := ⟨_, rfl, by decide, (gt_in (tch1 (List.mem_of_getElem? (i := 89) rfl)) rfl)⟩
set_option maxRecDepth 20000 in
theorem pf_17 : PF ((5, 15), (4, 1)) := ⟨_, rfl, by decide, (gt_in (tch1 (List.mem_of_getElem? (i := 91) rfl)) rfl)⟩
set_option maxRecDepth 20000 in
theorem pf_18 : PF ((5, 21), (4, 2)) := ⟨_, rfl, by decide, (gt_in (tch1 (List.mem_of_getElem? (i := 93) rfl)) rfl)⟩
set_option maxRecDepth 20000 in
theorem pf_19 : PF ((5, 28), (4, 3)) := ⟨_, rfl, by decide, (gt_in (tch1 (List.mem_of_getElem? (i := 95) rfl)) rfl)⟩
set_option maxRecDepth 20000 in
theorem pf_20 : PF ((5, 32), (4, 4)) := ⟨_, rfl, by decide, (gt_in (tch1 (List.mem_of_getElem? (i := 97) rfl)) rfl)⟩
set_option maxRecDepth 20000 in
theorem pf_21 : PF ((5, 35), (4, 5)) := ⟨_, rfl, by decide, (gt_in (tch1 (List.mem_of_getElem? (i := 98) rfl)) rfl)⟩
set_option maxRecDepth 20000 in
theorem pf_22 : PF ((5, 38), (4, 6)) := ⟨_, rfl, by decide, (gt_in (tch1 (List.mem_of_getElem? (i := 99) rfl)) rfl)⟩
set_option maxRecDepth 20000 in
theorem pf_23 : PF ((5, 41), (4, 7)) := ⟨_, rfl, by decide, (gt_in (tch1 (List.mem_of_getElem? (i := 100) rfl)) rfl)⟩
set_option maxRecDepth 20000 in
theorem pf_24 : PF ((5, 44), (4, 8)) := ⟨_, rfl, by decide, (gt_in (tch1 (List.mem_of_getElem? (i := 101) rfl)) rfl)⟩
set_option maxRecDepth 20000 in
theorem pf_25 : PF ((5, 48), (4, 9)) := ⟨_, rfl, by decide, (gt_in (tch1 (List.mem_of_getElem? (i := 102) rfl)) rfl)⟩
set_option maxRecDepth 20000 in
theorem pf_26 : PF ((5, 51), (4, 10)) := ⟨_, rfl, by decide, (gt_in (tch1 (List.mem_of_getElem? (i := 103) rfl)) rfl)⟩
set_option maxRecDepth 20000 in
theorem pf_27 : PF ((5, 55), (4, 11)) := ⟨_, rfl, by decide, (gt_in (tch1 (List.mem_of_getElem? (i := 104) rfl)) rfl)⟩
set_option maxRecDepth 20000 in
theorem pf_28 : PF ((5, 61), (5, 0)) := ⟨_, rfl, by decide, (gt_in (tch1 (List.mem_of_getElem? (i := 76) rfl)) rfl)⟩
set_option maxRecDepth 20000 in
theorem pf_29 : PF ((5, 64), (7, 1)) := ⟨_, rfl, by decide, (gt_in (tch1 (List.mem_of_getElem? (i := 44) rfl)) rfl)⟩
set_option maxRecDepth 20000 in
theorem pf_30 : PF ((5, 93), (7, 3)) := ⟨_, rfl, by decide, (gt_in (tch1 (List.mem_of_getElem? (i := 48) rfl)) rfl)⟩
set_option maxRecDepth 20000 in
theorem pf_31 : PF ((5, 96), (7, 2)) := ⟨_, rfl, by decide, (gt_in (tch1 (List.mem_of_getElem? (i := 46) rfl)) rfl)⟩
set_option maxRecDepth 20000 in
theorem pf_32 : PF ((5, 99), (7, 4)) := ⟨_, rfl, by decide, (gt_in (tch1 (List.mem_of_getElem? (i := 50) rfl)) rfl)⟩
set_option maxRecDepth 20000 in
theorem pf_33 : PF ((5, 123), (5, 1)) := ⟨_, rfl, by decide, (gt_in (tch1 (List.mem_of_getElem? (i := 83) rfl)) rfl)⟩
set_option maxRecDepth 20000 in
theorem pf_34 : PF ((7, 9), (5, 0)) := ⟨_, rfl, by decide, (gt_in (tch1 (List.mem_of_getElem? (i := 73) rfl)) rfl)⟩
set_option maxRecDepth 20000 in
theorem pf_35 : PF ((7, 15), (5, 1)) := ⟨_, rfl, by decide, (gt_in (tch1 (List.mem_of_getElem? (i := 79) rfl)) rfl)⟩
set_option maxRecDepth 20000 in
theorem pf_36 : PF ((8, 9), (6, 0)) := ⟨_, rfl, by decide, (gt_in (tch1 (List.mem_of_getElem? (i := 182) rfl)) rfl)⟩
set_option maxRecDepth 20000 in
theorem pf_37 : PF ((8, 15), (6, 1)) := ⟨_, rfl, by decide, (gt_in (tch1 (List.mem_of_getElem? (i := 184) rfl)) rfl)⟩
set_option maxRecDepth 20000 in
theorem pf_38 : PF ((8, 18), (6, 2)) := ⟨_, rfl, by decide, (gt_in (tch1 (List.mem_of_getElem? (i := 186) rfl)) rfl)⟩
set_option maxRecDepth 20000 in
theorem pf_39 : PF ((8, 22), (6, 3)) := ⟨_, rfl, by decide, (gt_in (tch1 (List.mem_of_getElem? (i := 188) rfl)) rfl)⟩
set_option maxRecDepth 20000 in
theorem pf_40 : PF ((8, 25), (6, 4)) := ⟨_, rfl, by decide, (gt_in (tch1 (List.mem_of_getElem? (i := 190) rfl)) rfl)⟩
set_option maxRecDepth 20000 in
theorem pf_41 : PF ((8, 31), (6, 5)) := ⟨_, rfl, by decide, (gt_in (tch1 (List.mem_of_getElem? (i := 192) rfl)) rfl)⟩
set_option maxRecDepth 20000 in
theorem pf_42 : PF ((8, 38), (6, 6)) := ⟨_, rfl, by decide, (gt_in (tch1 (List.mem_of_getElem? (i := 194) rfl)) rfl)⟩
set_option maxRecDepth 20000 in
theorem pf_43 : PF ((8, 42), (6, 7)) := ⟨_, rfl, by decide, (gt_in (tch1 (List.mem_of_getElem? (i := 196) rfl)) rfl)⟩
set_option maxRecDepth 20000 in
theorem pf_44 : PF ((8, 45), (6, 8)) := ⟨_, rfl, by decide, (gt_in (tch1 (List.mem_of_getElem? (i := 197) rfl)) rfl)⟩
set_option maxRecDepth 20000 in
theorem pf_45 : PF ((8, 55), (5, 0)) := ⟨_, rfl, by decide, (gt_in (tch1 (List.mem_of_getElem? (i := 75) rfl)) rfl)⟩
set_option maxRecDepth 20000 in
theorem pf_46 : PF ((8, 85), (5, 1)) := ⟨_, rfl, by decide, (gt_in (tch1 (List.mem_of_getElem? (i := 81) rfl)) rfl)⟩
set_option maxRecDepth 20000 in
theorem pf_47 : PF ((8, 88), (1, 0)) := ⟨_, rfl, by decide, (gt_in (tch1 (List.mem_of_getElem? (i := 153) rfl)) rfl)⟩
set_option maxRecDepth 20000 in
theorem pf_48 : PF ((8, 111), (1, 3)) := ⟨_, rfl, by decide, (gt_in (tch1 (List.mem_of_getElem? (i := 160) rfl)) rfl)⟩
set_option maxRecDepth 20000 in
theorem pf_49 : PF ((9, 9), (7, 0)) := ⟨_, rfl, by decide, (gt_in (tch1 (List.mem_of_getElem? (i := 41) rfl)) rfl)⟩
set_option maxRecDepth 20000 in
theorem pf_50 : PF ((9, 15), (7, 1)) := ⟨_, rfl, by decide, (gt_in (tch1 (List.mem_of_getElem? (i := 43) rfl)) rfl)⟩
set_option maxRecDepth 20000 in
theorem pf_51 : PF ((9, 18), (7, 2)) := ⟨_, rfl, by decide, (gt_in (tch1 (List.mem_of_getElem? (i := 45) rfl)) rfl)⟩
set_option maxRecDepth 20000 in
theorem pf_52 : PF ((9, 22), (7, 3)) := ⟨_, rfl, by decide, (gt_in (tch1 (List.mem_of_getElem? (i := 47) rfl)) rfl)⟩
set_option maxRecDepth 20000 in
theorem pf_53 : PF ((9, 25), (7, 4)) := ⟨_, rfl, by decide, (gt_in (tch1 (List.mem_of_getElem? (i := 49) rfl)) rfl)⟩
set_option maxRecDepth 20000 in
theorem pf_54 : PF ((9, 28), (7, 5)) := ⟨_, rfl, by decide, (gt_in (tch1 (List.mem_of_getElem? (i := 51) rfl)) rfl)⟩
set_option maxRecDepth 20000 in
theorem pf_55 : PF ((10, 10), (8, 0)) := ⟨_, rfl, by decide, (gt_in (tch2 (List.mem_of_getElem? (i := 22) rfl)) rfl)⟩
set_option maxRecDepth 20000 in
theorem pf_56 : PF ((10, 19), (8, 1)) := ⟨_, rfl, by decide, (gt_in (tch2 (List.mem_of_getElem? (i := 23) rfl)) rfl)⟩
set_option maxRecDepth 20000 in
theorem pf_57 : PF ((10, 26), (8, 2)) := ⟨_, rfl, by decide, (gt_in (tch2 (List.mem_of_getElem? (i := 24) rfl)) rfl)⟩
set_option maxRecDepth 20000 in
theorem pf_58 : PF ((10, 33), (8, 3)) := ⟨_, rfl, by decide, (gt_in (tch2 (List.mem_of_getElem? (i := 25) rfl)) rfl)⟩
set_option maxRecDepth 20000 in
theorem pf_59 : PF ((10, 40), (8, 4)) := ⟨_, rfl, by decide, (gt_in (tch2 (List.mem_of_getElem? (i := 26) rfl)) rfl)⟩
set_option maxRecDepth 20000 in
theorem pf_60 : PF ((10, 47), (8, 5)) := ⟨_, rfl, by decide, (gt_in (tch2 (List.mem_of_getElem? (i := 27) rfl)) rfl)⟩
set_option maxRecDepth 20000 in
theorem pf_61 : PF ((10, 51), (8, 6)) := ⟨_, rfl, by decide, (gt_in (tch2 (List.mem_of_getElem? (i := 28) rfl)) rfl)⟩
set_option maxRecDepth 20000 in
theorem pf_62 : PF ((10, 54), (8, 7)) := ⟨_, rfl, by decide, (gt_in (tch2 (List.mem_of_getElem? (i := 29) rfl)) rfl)⟩
set_option maxRecDepth 20000 in
theorem pf_63 : PF ((10, 57), (6, 6)) := ⟨_, rfl, by decide, (gt_in (tch1 (List.mem_of_getElem? (i := 195) rfl)) rfl)⟩
set_option maxRecDepth 20000 in
theorem pf_64 : PF ((10, 60), (1, 1)) := ⟨_, rfl, by decide, (gt_in (tch1 (List.mem_of_getElem? (i := 156) rfl)) rfl)⟩
set_option maxRecDepth 20000 in
theorem pf_65 : PF ((10, 78), (6, 2)) := ⟨_, rfl, by decide, (gt_in (tch1 (List.mem_of_getElem? (i := 187) rfl)) rfl)⟩
set_option maxRecDepth 20000 in
theorem pf_66 : PF ((10, 88), (6, 1)) := ⟨_, rfl, by decide, (gt_in (tch1 (List.mem_of_getElem? (i := 185) rfl)) rfl)⟩
set_option maxRecDepth 20000 in
theorem pf_67 : PF ((10, 91), (4, 2)) := ⟨_, rfl, by decide, (gt_in (tch1 (List.mem_of_getElem? (i := 94) rfl)) rfl)⟩
set_option maxRecDepth 20000 in
theorem pf_68 : PF ((10, 95), (7, 0)) := ⟨_, rfl, by decide, (gt_in (tch1 (List.mem_of_getElem? (i := 42) rfl)) rfl)⟩
set_option maxRecDepth 20000 in
theorem pf_69 : PF ((10, 109), (6, 0)) := ⟨_, rfl, by decide, (gt_in (tch1 (List.mem_of_getElem? (i := 183) rfl)) rfl)⟩
set_option maxRecDepth 20000 in
theorem pf_70 : PF ((10, 115), (6, 5)) := ⟨_, rfl, by decide, (gt_in (tch1 (List.mem_of_getElem? (i := 193) rfl)) rfl)⟩
set_option maxRecDepth 20000 in
theorem pf_71 : PF ((10, 119), (4, 3)) := ⟨_, rfl, by decide, (gt_in (tch1 (List.mem_of_getElem? (i := 96) rfl)) rfl)⟩
set_option maxRecDepth 20000 in
theorem pf_72 : PF ((10, 129), (5, 0)) := ⟨_, rfl, by decide, (gt_in (tch1 (List.mem_of_getElem? (i := 78) rfl)) rfl)⟩
set_option maxRecDepth 20000 in
theorem pf_73 : PF ((10, 132), (4, 0)) := ⟨_, rfl, by decide, (gt_in (tch1 (List.mem_of_getElem? (i := 90) rfl)) rfl)⟩
set_option maxRecDepth 20000 in
theorem pf_74 : PF ((10, 135), (4, 1)) := ⟨_, rfl, by decide, (gt_in (tch1 (List.mem_of_getElem? (i := 92) rfl)) rfl)⟩
set_option maxRecDepth 20000 in
theorem pf_75 : PF ((10, 146), (1, 0)) := ⟨_, rfl, by decide, (gt_in (tch1 (List.mem_of_getElem? (i := 154) rfl)) rfl)⟩
set_option maxRecDepth 20000 in
theorem pf_76 : PF ((10, 157), (1, 4)) := ⟨_, rfl, by decide, (gt_in (tch1 (List.mem_of_getElem? (i := 163) rfl)) rfl)⟩
set_option maxRecDepth 20000 in
theorem pf_77 : PF ((10, 165), (1, 3)) := ⟨_, rfl, by decide, (gt_in (tch1 (List.mem_of_getElem? (i := 161) rfl)) rfl)⟩
set_option maxRecDepth 20000 in
theorem pf_78 : PF ((10, 189), (6, 3)) := ⟨_, rfl, by decide, (gt_in (tch1 (List.mem_of_getElem? (i := 189) rfl)) rfl)⟩
set_option maxRecDepth 20000 in
theorem pf_79 : PF ((10, 223), (6, 4)) := ⟨_, rfl, by decide, (gt_in (tch1 (List.mem_of_getElem? (i := 191) rfl)) rfl)⟩
set_option maxRecDepth 20000 in
theorem pf_80 : PF ((10, 263), (1, 2)) := ⟨_, rfl, by decide, (gt_in (tch1 (List.mem_of_getElem? (i := 158) rfl)) rfl)⟩
set_option maxRecDepth 20000 in
theorem pf_81 : PF ((10, 266), (2, 0)) := ⟨_, rfl, by decide, (gt_in (tch1 (List.mem_of_getElem? (i := 227) rfl)) rfl)⟩
set_option maxRecDepth 20000 in
theorem pf_82 : PF ((11, 7), (9, 0)) := ⟨_, rfl, by decide, (gt_in (tch4 (List.mem_of_getElem? (i := 125) rfl)) rfl)⟩
set_option maxRecDepth 20000 in
theorem pf_83 : PF ((11, 13), (9, 1)) := ⟨_, rfl, by decide, (gt_in (tch4 (List.mem_of_getElem? (i := 126) rfl)) rfl)⟩
set_option maxRecDepth 20000 in
theorem pf_84 : PF ((11, 16), (9, 2)) := ⟨_, rfl, by decide, (gt_in (tch4 (List.mem_of_getElem? (i := 127) rfl)) rfl)⟩
set_option maxRecDepth 20000 in
theorem pf_85 : PF ((11, 19), (9, 5)) := ⟨_, rfl, by decide, (gt_in (tch4 (List.mem_of_getElem? (i := 130) rfl)) rfl)⟩
set_option maxRecDepth 20000 in
theorem pf_86 : PF ((11, 22), (9, 6)) := ⟨_, rfl, by decide, (gt_in (tch4 (List.mem_of_getElem? (i := 131) rfl)) rfl)⟩
set_option maxRecDepth 20000 in
theorem pf_87 : PF ((11, 25), (9, 16)) := ⟨_, rfl, by decide, (gt_in (tch4 (List.mem_of_getElem? (i := 141) rfl)) rfl)⟩
set_option maxRecDepth 20000 in
theorem pf_88 : PF ((11, 29), (9, 17)) := ⟨_, rfl, by decide, (gt_in (tch4 (List.mem_of_getElem? (i := 142) rfl)) rfl)⟩
set_option maxRecDepth 20000 in
theorem pf_89 : PF ((11, 32), (9, 18)) := ⟨_, rfl, by decide, (gt_in (tch4 (List.mem_of_getElem? (i := 143) rfl)) rfl)⟩
set_option maxRecDepth 20000 in
theorem pf_90 : PF ((11, 35), (9, 19)) := ⟨_, rfl, by decide, (gt_in (tch4 (List.mem_of_getElem? (i := 144) rfl)) rfl)⟩
set_option maxRecDepth 20000 in
theorem pf_91 : PF ((11, 38), (9, 20)) := ⟨_, rfl, by decide, (gt_in (tch4 (List.mem_of_getElem? (i := 145) rfl)) rfl)⟩
set_option maxRecDepth 20000 in
theorem pf_92 : PF ((11, 41), (9, 21)) := ⟨_, rfl, by decide, (gt_in (tch4 (List.mem_of_getElem? (i := 146) rfl)) rfl)⟩
set_option maxRecDepth 20000 in
theorem pf_93 : PF ((11, 44), (9, 22)) := ⟨_, rfl, by decide, (gt_in (tch4 (List.mem_of_getElem? (i := 147) rfl)) rfl)⟩
set_option maxRecDepth 20000 in
theorem pf_94 : PF ((11, 47), (9, 24)) := ⟨_, rfl, by decide, (gt_in (tch4 (List.mem_of_getElem? (i := 149) rfl)) rfl)⟩
set_option maxRecDepth 20000 in
theorem pf_95 : PF ((11, 50), (9, 25)) := ⟨_, rfl, by decide, (gt_in (tch4 (List.mem_of_getElem? (i := 150) rfl)) rfl)⟩
set_option maxRecDepth 20000 in
theorem pf_96 : PF ((11, 53), (9, 26)) := ⟨_, rfl, by decide, (gt_in (tch4 (List.mem_of_getElem? (i := 151) rfl)) rfl)⟩
set_option maxRecDepth 20000 in
theorem pf_97 : PF ((11, 56), (9, 27)) := ⟨_, rfl, by decide, (gt_in (tch4 (List.mem_of_getElem? (i := 152) rfl)) rfl)⟩
set_option maxRecDepth 20000 in
theorem pf_98 : PF ((11, 59), (9, 28)) := ⟨_, rfl, by decide, (gt_in (tch4 (List.mem_of_getElem? (i := 153) rfl)) rfl)⟩
set_option maxRecDepth 20000 in
theorem pf_99 : PF ((11, 62), (9, 29)) := ⟨_, rfl, by decide, (gt_in (tch4 (List.mem_of_getElem? (i := 154) rfl)) rfl)⟩
set_option maxRecDepth 20000 in
theorem pf_100 : PF ((11, 69), (9, 3)) := ⟨_, rfl, by decide, (gt_in (tch4 (List.mem_of_getElem? (i := 128) rfl)) rfl)⟩
set_option maxRecDepth 20000 in
theorem pf_101 : PF ((11, 82), (9, 8)) := ⟨_, rfl, by decide, (gt_in (tch4 (List.mem_of_getElem? (i := 133) rfl)) rfl)⟩
set_option maxRecDepth 20000 in
theorem pf_102 : PF ((11, 85), (9, 9)) := ⟨_, rfl, by decide, (gt_in (tch4 (List.mem_of_getElem? (i := 134) rfl)) rfl)⟩
set_option maxRecDepth 20000 in
theorem pf_103 : PF ((11, 88), (9, 11)) := ⟨_, rfl, by decide, (gt_in (tch4 (List.mem_of_getElem? (i := 136) rfl)) rfl)⟩
set_option maxRecDepth 20000 in
theorem pf_104 : PF ((11, 121), (9, 10)) := ⟨_, rfl, by decide, (gt_in (tch4 (List.mem_of_getElem? (i := 135) rfl)) rfl)⟩
set_option maxRecDepth 20000 in
theorem pf_105 : PF ((11, 133), (9, 12)) := ⟨_, rfl, by decide, (gt_in (tch4 (List.mem_of_getElem? (i := 137) rfl)) rfl)⟩
set_option maxRecDepth 20000 in
theorem pf_106 : PF ((11, 136), (9, 13)) := ⟨_, rfl, by decide, (gt_in (tch4 (List.mem_of_getElem? (i := 138) rfl)) rfl)⟩
set_option maxRecDepth 20000 in
theorem pf_107 : PF ((11, 139), (9, 14)) := ⟨_, rfl, by decide, (gt_in (tch4 (List.mem_of_getElem? (i := 139) rfl)) rfl)⟩
set_option maxRecDepth 20000 in
theorem pf_108 : PF ((11, 148), (9, 7)) := ⟨_, rfl, by decide, (gt_in (tch4 (List.mem_of_getElem? (i := 132) rfl)) rfl)⟩
set_option maxRecDepth 20000 in
theorem pf_109 : PF ((11, 175), (9, 15)) := ⟨_, rfl, by decide, (gt_in (tch4 (List.mem_of_getElem? (i := 140) rfl)) rfl)⟩
set_option maxRecDepth 20000 in
theorem pf_110 : PF ((11, 232), (9, 23)) := ⟨_, rfl, by decide, (gt_in (tch4 (List.mem_of_getElem? (i := 148) rfl)) rfl)⟩
set_option maxRecDepth 20000 in
theorem pf_111 : PF ((11, 279), (9, 4)) := ⟨_, rfl, by decide, (gt_in (tch4 (List.mem_of_getElem? (i := 129) rfl)) rfl)⟩
set_option maxRecDepth 20000 in
theorem flW : ∀ e ∈ flT, PF e := (List.forall_mem_cons.mpr ⟨pf_0, (List.forall_mem_cons.mpr ⟨pf_1, (List.forall_mem_cons.mpr ⟨pf_2, (List.forall_mem_cons.mpr ⟨pf_3, (List.forall_mem_cons.mpr ⟨pf_4, (List.forall_mem_cons.mpr ⟨pf_5, (List.forall_mem_cons.mpr ⟨pf_6, (List.forall_mem_cons.mpr ⟨pf_7, (List.forall_mem_cons.mpr ⟨pf_8, (List.forall_mem_cons.mpr ⟨pf_9, (List.forall_mem_cons.mpr ⟨pf_10, (List.forall_mem_cons.mpr ⟨pf_11, (List.forall_mem_cons.mpr ⟨pf_12, (List.forall_mem_cons.mpr ⟨pf_13, (List.forall_mem_cons.mpr ⟨pf_14, (List.forall_mem_cons.mpr ⟨pf_15, (List.forall_mem_cons.mpr ⟨pf_16, (List.forall_mem_cons.mpr ⟨pf_17, (List.forall_mem_cons.mpr ⟨pf_18, (List.forall_mem_cons.mpr ⟨pf_19, (List.forall_mem_cons.mpr ⟨pf_20, (List.forall_mem_cons.mpr ⟨pf_21, (List.forall_mem_cons.mpr ⟨pf_22, (List.forall_mem_cons.mpr ⟨pf_23, (List.forall_mem_cons.mpr ⟨pf_24, (List.forall_mem_cons.mpr ⟨pf_25, (List.forall_mem_cons.mpr ⟨pf_26, (List.forall_mem_cons.mpr ⟨pf_27, (List.forall_mem_cons.mpr ⟨pf_28, (List.forall_mem_cons.mpr ⟨pf_29, (List.forall_mem_cons.mpr ⟨pf_30, (List.forall_mem_cons.mpr ⟨pf_31, (List.forall_mem_cons.mpr ⟨pf_32, (List.forall_mem_cons.mpr ⟨pf_33, (List.forall_mem_cons.mpr ⟨pf_34, (List.forall_mem_cons.mpr ⟨pf_35, (List.forall_mem_cons.mpr ⟨pf_36, (List.forall_mem_cons.mpr ⟨pf_37, (List.forall_mem_cons.mpr ⟨pf_38, (List.forall_mem_cons.mpr ⟨pf_39, (List.forall_mem_cons.mpr ⟨pf_40, (List.forall_mem_cons.mpr ⟨pf_41, (List.forall_mem_cons.mpr ⟨pf_42, (List.forall_mem_cons.mpr ⟨pf_43, (List.forall_mem_cons.mpr ⟨pf_44, (List.forall_mem_cons.mpr ⟨pf_45, (List.forall_mem_cons.mpr ⟨pf_46, (List.forall_mem_cons.mpr ⟨pf_47, (List.forall_mem_cons.mpr ⟨pf_48, (List.forall_mem_cons.mpr ⟨pf_49, (List.forall_mem_cons.mpr ⟨pf_50, (List.forall_mem_cons.mpr ⟨pf_51, (List.forall_mem_cons.mpr ⟨pf_52, (List.forall_mem_cons.mpr ⟨pf_53, (List.forall_mem_cons.mpr ⟨pf_54, (List.forall_mem_cons.mpr ⟨pf_55, (List.forall_mem_cons.mpr ⟨pf_56, (List.forall_mem_cons.mpr ⟨pf_57, (List.forall_mem_cons.mpr ⟨pf_58, (List.forall_mem_cons.mpr ⟨pf_59, (List.forall_mem_cons.mpr ⟨pf_60, (List.forall_mem_cons.mpr ⟨pf_61, (List.forall_mem_cons.mpr ⟨pf_62, (List.forall_mem_cons.mpr ⟨pf_63, (List.forall_mem_cons.mpr ⟨pf_64, (List.forall_mem_cons.mpr ⟨pf_65, (List.forall_mem_cons.mpr ⟨pf_66, (List.forall_mem_cons.mpr ⟨pf_67, (List.forall_mem_cons.mpr ⟨pf_68, (List.forall_mem_cons.mpr ⟨pf_69, (List.forall_mem_cons.mpr ⟨pf_70, (List.forall_mem_cons.mpr ⟨pf_71, (List.forall_mem_cons.mpr ⟨pf_72, (List.forall_mem_cons.mpr ⟨pf_73, (List.forall_mem_cons.mpr ⟨pf_74, (List.forall_mem_cons.mpr ⟨pf_75, (List.forall_mem_cons.mpr ⟨pf_76, (List.forall_mem_cons.mpr ⟨pf_77, (List.forall_mem_cons.mpr ⟨pf_78, (List.forall_mem_cons.mpr ⟨pf_79, (List.forall_mem_cons.mpr ⟨pf_80, (List.forall_mem_cons.mpr ⟨pf_81, (List.forall_mem_cons.mpr ⟨pf_82, (List.forall_mem_cons.mpr ⟨pf_83, (List.forall_mem_cons.mpr ⟨pf_84, (List.forall_mem_cons.mpr ⟨pf_85, (List.forall_mem_cons.mpr ⟨pf_86, (List.forall_mem_cons.mpr ⟨pf_87, (List.forall_mem_cons.mpr ⟨pf_88, (List.forall_mem_cons.mpr ⟨pf_89, (List.forall_mem_cons.mpr ⟨pf_90, (List.forall_mem_cons.mpr ⟨pf_91, (List.forall_mem_cons.mpr ⟨pf_92, (List.forall_mem_cons.mpr ⟨pf_93, (List.forall_mem_cons.mpr ⟨pf_94, (List.forall_mem_cons.mpr ⟨pf_95, (List.forall_mem_cons.mpr ⟨pf_96, (List.forall_mem_cons.mpr ⟨pf_97, (List.forall_mem_cons.mpr ⟨pf_98, (List.forall_mem_cons.mpr ⟨pf_99, (List.forall_mem_cons.mpr ⟨pf_100, (List.forall_mem_cons.mpr ⟨pf_101, (List.forall_mem_cons.mpr ⟨pf_102, (List.forall_mem_cons.mpr ⟨pf_103, (List.forall_mem_cons.mpr ⟨pf_104, (List.forall_mem_cons.mpr ⟨pf_105, (List.forall_mem_cons.mpr ⟨pf_106, (List.forall_mem_cons.mpr ⟨pf_107, (List.forall_mem_cons.mpr ⟨pf_108, (List.forall_mem_cons.mpr ⟨pf_109, (List.forall_mem_cons.mpr ⟨pf_110, (List.forall_mem_cons.mpr ⟨pf_111, (fun _ h => absurd h List.not_mem_nil)⟩)⟩)⟩)⟩)⟩)⟩)⟩)⟩)⟩)⟩)⟩)⟩)⟩)⟩)⟩)⟩)⟩)⟩)⟩)⟩)⟩)⟩)⟩)⟩)⟩)⟩)⟩)⟩)⟩)⟩)⟩)⟩)⟩)⟩)⟩)⟩)⟩)⟩)⟩)⟩)⟩)⟩)⟩)⟩)⟩)⟩)⟩)⟩)⟩)⟩)⟩)⟩)⟩)⟩)⟩)⟩)⟩)⟩)⟩)⟩)⟩)⟩)⟩)⟩)⟩)⟩)⟩)⟩)⟩)⟩)⟩)⟩)⟩)⟩)⟩)⟩)⟩)⟩)⟩)⟩)⟩)⟩)⟩)⟩)⟩)⟩)⟩)⟩)⟩)⟩)⟩)⟩)⟩)⟩)⟩)⟩)⟩)⟩)⟩)⟩)⟩)⟩)⟩)⟩)⟩)⟩)⟩)⟩)⟩)⟩)⟩)⟩)
def PT (c : Nat) (q : vw_C) : Prop := (∀ w ∈ u_ws q.1 q.2.1 q.2.2, w ∈ gt) ∧ q.2.2 = csize c ∧ clsN (cnum c) = q.1 ∧ Cond.instantiable q.1 q.2.2 ∈ gt ∧ Cond.initialized q.1 ∈ gt ∧ (∀ a, a < q.2.2 → ∀ b, b < q.2.2 → a ≠ b → (q.2.1 a).2.1 ≠ (q.2.1 b).2.1) ∧ ∃ ty : Nat → FieldType, (∀ k, k < q.2.2 → parseFieldDescriptor (q.2.1 k).2.2.1 = some (ty k)) ∧ ∀ k, k < q.2.2 → (q.2.1 k).1 = q.1 ∧ (q.2.1 k).2.2.2 = (fkind c k).2 ∧ (match (fkind c k).1 with | 0 => ty k = .int | 1 => ty k = .long | 3 => ty k = .boolean | 2 => (∃ C, ty k = .object C) ∨ (∃ t, ty k = .array t) | _ => False)
set_option maxRecDepth 20000 in
theorem inG0 : ∀ w ∈ u_ws RX0 TX0 2, w ∈ gt := (List.forall_mem_cons.mpr ⟨(gt_in (tch2 (List.mem_of_getElem? (i := 15) rfl)) rfl), (List.forall_mem_cons.mpr ⟨(gt_in (tch2 (List.mem_of_getElem? (i := 17) rfl)) rfl), (fun _ h => absurd h List.not_mem_nil)⟩)⟩)
set_option maxRecDepth 20000 in
theorem pt0 : PT 0 (RX0, TX0, 2) := by
  refine ⟨inG0, by decide, by decide, (gt_in (tch2 (List.mem_of_getElem? (i := 8) rfl)) rfl), (gt_in (tch1 (List.mem_of_getElem? (i := 11) rfl)) rfl), nmX0, tyX0, tyX0_ok, ?_⟩
  intro k hk
  match k, hk with
  | 0, _ => exact ⟨rfl, rfl, Or.inr ⟨_, rfl⟩⟩
  | 1, _ => exact ⟨rfl, rfl, Or.inr ⟨_, rfl⟩⟩
  | k + 2, hk => exact absurd hk (by show ¬ (k + 2 < 2); omega)
set_option maxRecDepth 20000 in
theorem inG1 : ∀ w ∈ u_ws RX1 TX1 6, w ∈ gt := (List.forall_mem_cons.mpr ⟨(gt_in (tch1 (List.mem_of_getElem? (i := 165) rfl)) rfl), (List.forall_mem_cons.mpr ⟨(gt_in (tch1 (List.mem_of_getElem? (i := 167) rfl)) rfl), (List.forall_mem_cons.mpr ⟨(gt_in (tch1 (List.mem_of_getElem? (i := 169) rfl)) rfl), (List.forall_mem_cons.mpr ⟨(gt_in (tch1 (List.mem_of_getElem? (i := 171) rfl)) rfl), (List.forall_mem_cons.mpr ⟨(gt_in (tch1 (List.mem_of_getElem? (i := 173) rfl)) rfl), (List.forall_mem_cons.mpr ⟨(gt_in (tch1 (List.mem_of_getElem? (i := 175) rfl)) rfl), (fun _ h => absurd h List.not_mem_nil)⟩)⟩)⟩)⟩)⟩)⟩)
set_option maxRecDepth 20000 in
theorem pt1 : PT 1 (RX1, TX1, 6) := by
  refine ⟨inG1, by decide, by decide, (gt_in (tch1 (List.mem_of_getElem? (i := 139) rfl)) rfl), (gt_in (tch1 (List.mem_of_getElem? (i := 6) rfl)) rfl), nmX1, tyX1, tyX1_ok, ?_⟩
  intro k hk
  match k, hk with
  | 0, _ => exact ⟨rfl, rfl, rfl⟩
  | 1, _ => exact ⟨rfl, rfl, rfl⟩
  | 2, _ => exact ⟨rfl, rfl, rfl⟩
  | 3, _ => exact ⟨rfl, rfl, rfl⟩
  | 4, _ => exact ⟨rfl, rfl, Or.inr ⟨_, rfl⟩⟩
  | 5, _ => exact ⟨rfl, rfl, Or.inr ⟨_, rfl⟩⟩
  | k + 6, hk => exact absurd hk (by show ¬ (k + 6 < 6); omega)
set_option maxRecDepth 20000 in
theorem inG2 : ∀ w ∈ u_ws RX2 TX2 3, w ∈ gt := (List.forall_mem_cons.mpr ⟨(gt_in (tch1 (List.mem_of_getElem? (i := 230) rfl)) rfl), (List.forall_mem_cons.mpr ⟨(gt_in (tch1 (List.mem_of_getElem? (i := 232) rfl)) rfl), (List.forall_mem_cons.mpr ⟨(gt_in (tch1 (List.mem_of_getElem? (i := 234) rfl)) rfl), (fun _ h => absurd h List.not_mem_nil)⟩)⟩)⟩)
set_option maxRecDepth 20000 in
theorem pt2 : PT 2 (RX2, TX2, 3) := by
  refine ⟨inG2, by decide, by decide, (gt_in (tch1 (List.mem_of_getElem? (i := 218) rfl)) rfl), (gt_in (tch1 (List.mem_of_getElem? (i := 9) rfl)) rfl), nmX2, tyX2, tyX2_ok, ?_⟩
  intro k hk
  match k, hk with
  | 0, _ => exact ⟨rfl, rfl, rfl⟩
  | 1, _ => exact ⟨rfl, rfl, rfl⟩
  | 2, _ => exact ⟨rfl, rfl, Or.inr ⟨_, rfl⟩⟩
  | k + 3, hk => exact absurd hk (by show ¬ (k + 3 < 3); omega)
set_option maxRecDepth 20000 in
theorem inG3 : ∀ w ∈ u_ws RX3 TX3 1, w ∈ gt := (List.forall_mem_cons.mpr ⟨(gt_in (tch2 (List.mem_of_getElem? (i := 4) rfl)) rfl), (fun _ h => absurd h List.not_mem_nil)⟩)
set_option maxRecDepth 20000 in
theorem pt3 : PT 3 (RX3, TX3, 1) := by
  refine ⟨inG3, by decide, by decide, (gt_in (tch1 (List.mem_of_getElem? (i := 238) rfl)) rfl), (gt_in (tch1 (List.mem_of_getElem? (i := 10) rfl)) rfl), nmX3, tyX3, tyX3_ok, ?_⟩
  intro k hk
  match k, hk with
  | 0, _ => exact ⟨rfl, rfl, Or.inr ⟨_, rfl⟩⟩
  | k + 1, hk => exact absurd hk (by show ¬ (k + 1 < 1); omega)
set_option maxRecDepth 20000 in
theorem inG5 : ∀ w ∈ u_ws RX5 TX5 12, w ∈ gt := (List.forall_mem_cons.mpr ⟨(gt_in (tch1 (List.mem_of_getElem? (i := 105) rfl)) rfl), (List.forall_mem_cons.mpr ⟨(gt_in (tch1 (List.mem_of_getElem? (i := 107) rfl)) rfl), (List.forall_mem_cons.mpr ⟨(gt_in (tch1 (List.mem_of_getElem? (i := 109) rfl)) rfl), (List.forall_mem_cons.mpr ⟨(gt_in (tch1 (List.mem_of_getElem? (i := 111) rfl)) rfl), (List.forall_mem_cons.mpr ⟨(gt_in (tch1 (List.mem_of_getElem? (i := 113) rfl)) rfl), (List.forall_mem_cons.mpr ⟨(gt_in (tch1 (List.mem_of_getElem? (i := 115) rfl)) rfl), (List.forall_mem_cons.mpr ⟨(gt_in (tch1 (List.mem_of_getElem? (i := 117) rfl)) rfl), (List.forall_mem_cons.mpr ⟨(gt_in (tch1 (List.mem_of_getElem? (i := 119) rfl)) rfl), (List.forall_mem_cons.mpr ⟨(gt_in (tch1 (List.mem_of_getElem? (i := 121) rfl)) rfl), (List.forall_mem_cons.mpr ⟨(gt_in (tch1 (List.mem_of_getElem? (i := 123) rfl)) rfl), (List.forall_mem_cons.mpr ⟨(gt_in (tch1 (List.mem_of_getElem? (i := 125) rfl)) rfl), (List.forall_mem_cons.mpr ⟨(gt_in (tch1 (List.mem_of_getElem? (i := 127) rfl)) rfl), (fun _ h => absurd h List.not_mem_nil)⟩)⟩)⟩)⟩)⟩)⟩)⟩)⟩)⟩)⟩)⟩)⟩)
set_option maxRecDepth 20000 in
theorem pt5 : PT 4 (RX5, TX5, 12) := by
  refine ⟨inG5, by decide, by decide, (gt_in (tch1 (List.mem_of_getElem? (i := 30) rfl)) rfl), (gt_in (tch1 (List.mem_of_getElem? (i := 2) rfl)) rfl), nmX5, tyX5, tyX5_ok, ?_⟩
  intro k hk
  match k, hk with
  | 0, _ => exact ⟨rfl, rfl, rfl⟩
  | 1, _ => exact ⟨rfl, rfl, rfl⟩
  | 2, _ => exact ⟨rfl, rfl, Or.inl ⟨_, rfl⟩⟩
  | 3, _ => exact ⟨rfl, rfl, Or.inl ⟨_, rfl⟩⟩
  | 4, _ => exact ⟨rfl, rfl, rfl⟩
  | 5, _ => exact ⟨rfl, rfl, rfl⟩
  | 6, _ => exact ⟨rfl, rfl, rfl⟩
  | 7, _ => exact ⟨rfl, rfl, rfl⟩
  | 8, _ => exact ⟨rfl, rfl, rfl⟩
  | 9, _ => exact ⟨rfl, rfl, rfl⟩
  | 10, _ => exact ⟨rfl, rfl, Or.inr ⟨_, rfl⟩⟩
  | 11, _ => exact ⟨rfl, rfl, Or.inr ⟨_, rfl⟩⟩
  | k + 12, hk => exact absurd hk (by show ¬ (k + 12 < 12); omega)
set_option maxRecDepth 20000 in
theorem inG7 : ∀ w ∈ u_ws RX7 TX7 2, w ∈ gt := (List.forall_mem_cons.mpr ⟨(gt_in (tch1 (List.mem_of_getElem? (i := 84) rfl)) rfl), (List.forall_mem_cons.mpr ⟨(gt_in (tch1 (List.mem_of_getElem? (i := 86) rfl)) rfl), (fun _ h => absurd h List.not_mem_nil)⟩)⟩)
set_option maxRecDepth 20000 in
theorem pt7 : PT 5 (RX7, TX7, 2) := by
  refine ⟨inG7, by decide, by decide, (gt_in (tch1 (List.mem_of_getElem? (i := 68) rfl)) rfl), (gt_in (tch1 (List.mem_of_getElem? (i := 4) rfl)) rfl), nmX7, tyX7, tyX7_ok, ?_⟩
  intro k hk
  match k, hk with
  | 0, _ => exact ⟨rfl, rfl, rfl⟩
  | 1, _ => exact ⟨rfl, rfl, Or.inr ⟨_, rfl⟩⟩
  | k + 2, hk => exact absurd hk (by show ¬ (k + 2 < 2); omega)
set_option maxRecDepth 20000 in
theorem inG8 : ∀ w ∈ u_ws RX8 TX8 9, w ∈ gt := (List.forall_mem_cons.mpr ⟨(gt_in (tch1 (List.mem_of_getElem? (i := 198) rfl)) rfl), (List.forall_mem_cons.mpr ⟨(gt_in (tch1 (List.mem_of_getElem? (i := 200) rfl)) rfl), (List.forall_mem_cons.mpr ⟨(gt_in (tch1 (List.mem_of_getElem? (i := 202) rfl)) rfl), (List.forall_mem_cons.mpr ⟨(gt_in (tch1 (List.mem_of_getElem? (i := 204) rfl)) rfl), (List.forall_mem_cons.mpr ⟨(gt_in (tch1 (List.mem_of_getElem? (i := 206) rfl)) rfl), (List.forall_mem_cons.mpr ⟨(gt_in (tch1 (List.mem_of_getElem? (i := 208) rfl)) rfl), (List.forall_mem_cons.mpr ⟨(gt_in (tch1 (List.mem_of_getElem? (i := 210) rfl)) rfl), (List.forall_mem_cons.mpr ⟨(gt_in (tch1 (List.mem_of_getElem? (i := 212) rfl)) rfl), (List.forall_mem_cons.mpr ⟨(gt_in (tch1 (List.mem_of_getElem? (i := 214) rfl)) rfl), (fun _ h => absurd h List.not_mem_nil)⟩)⟩)⟩)⟩)⟩)⟩)⟩)⟩)⟩)
set_option maxRecDepth 20000 in
theorem pt8 : PT 6 (RX8, TX8, 9) := by
  refine ⟨inG8, by decide, by decide, (gt_in (tch1 (List.mem_of_getElem? (i := 131) rfl)) rfl), (gt_in (tch1 (List.mem_of_getElem? (i := 5) rfl)) rfl), nmX8, tyX8, tyX8_ok, ?_⟩
  intro k hk
  match k, hk with
  | 0, _ => exact ⟨rfl, rfl, rfl⟩
  | 1, _ => exact ⟨rfl, rfl, rfl⟩
  | 2, _ => exact ⟨rfl, rfl, rfl⟩
  | 3, _ => exact ⟨rfl, rfl, rfl⟩
  | 4, _ => exact ⟨rfl, rfl, Or.inr ⟨_, rfl⟩⟩
  | 5, _ => exact ⟨rfl, rfl, Or.inr ⟨_, rfl⟩⟩
  | 6, _ => exact ⟨rfl, rfl, Or.inl ⟨_, rfl⟩⟩
  | 7, _ => exact ⟨rfl, rfl, Or.inr ⟨_, rfl⟩⟩
  | 8, _ => exact ⟨rfl, rfl, Or.inr ⟨_, rfl⟩⟩
  | k + 9, hk => exact absurd hk (by show ¬ (k + 9 < 9); omega)
set_option maxRecDepth 20000 in
theorem inG9 : ∀ w ∈ u_ws RX9 TX9 6, w ∈ gt := (List.forall_mem_cons.mpr ⟨(gt_in (tch1 (List.mem_of_getElem? (i := 52) rfl)) rfl), (List.forall_mem_cons.mpr ⟨(gt_in (tch1 (List.mem_of_getElem? (i := 54) rfl)) rfl), (List.forall_mem_cons.mpr ⟨(gt_in (tch1 (List.mem_of_getElem? (i := 56) rfl)) rfl), (List.forall_mem_cons.mpr ⟨(gt_in (tch1 (List.mem_of_getElem? (i := 58) rfl)) rfl), (List.forall_mem_cons.mpr ⟨(gt_in (tch1 (List.mem_of_getElem? (i := 60) rfl)) rfl), (List.forall_mem_cons.mpr ⟨(gt_in (tch1 (List.mem_of_getElem? (i := 62) rfl)) rfl), (fun _ h => absurd h List.not_mem_nil)⟩)⟩)⟩)⟩)⟩)⟩)
set_option maxRecDepth 20000 in
theorem pt9 : PT 7 (RX9, TX9, 6) := by
  refine ⟨inG9, by decide, by decide, (gt_in (tch1 (List.mem_of_getElem? (i := 36) rfl)) rfl), (gt_in (tch1 (List.mem_of_getElem? (i := 3) rfl)) rfl), nmX9, tyX9, tyX9_ok, ?_⟩
  intro k hk
  match k, hk with
  | 0, _ => exact ⟨rfl, rfl, rfl⟩
  | 1, _ => exact ⟨rfl, rfl, rfl⟩
  | 2, _ => exact ⟨rfl, rfl, Or.inr ⟨_, rfl⟩⟩
  | 3, _ => exact ⟨rfl, rfl, Or.inr ⟨_, rfl⟩⟩
  | 4, _ => exact ⟨rfl, rfl, Or.inr ⟨_, rfl⟩⟩
  | 5, _ => exact ⟨rfl, rfl, Or.inr ⟨_, rfl⟩⟩
  | k + 6, hk => exact absurd hk (by show ¬ (k + 6 < 6); omega)
set_option maxRecDepth 20000 in
theorem inG10 : ∀ w ∈ u_ws RX10 TX10 8, w ∈ gt := (List.forall_mem_cons.mpr ⟨(gt_in (tch2 (List.mem_of_getElem? (i := 30) rfl)) rfl), (List.forall_mem_cons.mpr ⟨(gt_in (tch2 (List.mem_of_getElem? (i := 32) rfl)) rfl), (List.forall_mem_cons.mpr ⟨(gt_in (tch2 (List.mem_of_getElem? (i := 34) rfl)) rfl), (List.forall_mem_cons.mpr ⟨(gt_in (tch2 (List.mem_of_getElem? (i := 36) rfl)) rfl), (List.forall_mem_cons.mpr ⟨(gt_in (tch2 (List.mem_of_getElem? (i := 38) rfl)) rfl), (List.forall_mem_cons.mpr ⟨(gt_in (tch2 (List.mem_of_getElem? (i := 40) rfl)) rfl), (List.forall_mem_cons.mpr ⟨(gt_in (tch2 (List.mem_of_getElem? (i := 42) rfl)) rfl), (List.forall_mem_cons.mpr ⟨(gt_in (tch2 (List.mem_of_getElem? (i := 44) rfl)) rfl), (fun _ h => absurd h List.not_mem_nil)⟩)⟩)⟩)⟩)⟩)⟩)⟩)⟩)
set_option maxRecDepth 20000 in
theorem pt10 : PT 8 (RX10, TX10, 8) := by
  refine ⟨inG10, by decide, by decide, (gt_in (tch1 (List.mem_of_getElem? (i := 22) rfl)) rfl), (gt_in (tch1 (List.mem_of_getElem? (i := 1) rfl)) rfl), nmX10, tyX10, tyX10_ok, ?_⟩
  intro k hk
  match k, hk with
  | 0, _ => exact ⟨rfl, rfl, Or.inl ⟨_, rfl⟩⟩
  | 1, _ => exact ⟨rfl, rfl, Or.inl ⟨_, rfl⟩⟩
  | 2, _ => exact ⟨rfl, rfl, Or.inl ⟨_, rfl⟩⟩
  | 3, _ => exact ⟨rfl, rfl, Or.inl ⟨_, rfl⟩⟩
  | 4, _ => exact ⟨rfl, rfl, Or.inl ⟨_, rfl⟩⟩
  | 5, _ => exact ⟨rfl, rfl, Or.inl ⟨_, rfl⟩⟩
  | 6, _ => exact ⟨rfl, rfl, Or.inl ⟨_, rfl⟩⟩
  | 7, _ => exact ⟨rfl, rfl, Or.inl ⟨_, rfl⟩⟩
  | k + 8, hk => exact absurd hk (by show ¬ (k + 8 < 8); omega)
set_option maxRecDepth 20000 in
theorem inG11 : ∀ w ∈ u_ws RX11 TX11 30, w ∈ gt := (List.forall_mem_cons.mpr ⟨(gt_in (tch4 (List.mem_of_getElem? (i := 155) rfl)) rfl), (List.forall_mem_cons.mpr ⟨(gt_in (tch4 (List.mem_of_getElem? (i := 157) rfl)) rfl), (List.forall_mem_cons.mpr ⟨(gt_in (tch4 (List.mem_of_getElem? (i := 159) rfl)) rfl), (List.forall_mem_cons.mpr ⟨(gt_in (tch4 (List.mem_of_getElem? (i := 161) rfl)) rfl), (List.forall_mem_cons.mpr ⟨(gt_in (tch4 (List.mem_of_getElem? (i := 163) rfl)) rfl), (List.forall_mem_cons.mpr ⟨(gt_in (tch4 (List.mem_of_getElem? (i := 165) rfl)) rfl), (List.forall_mem_cons.mpr ⟨(gt_in (tch4 (List.mem_of_getElem? (i := 167) rfl)) rfl), (List.forall_mem_cons.mpr ⟨(gt_in (tch4 (List.mem_of_getElem? (i := 169) rfl)) rfl), (List.forall_mem_cons.mpr ⟨(gt_in (tch4 (List.mem_of_getElem? (i := 171) rfl)) rfl), (List.forall_mem_cons.mpr ⟨(gt_in (tch4 (List.mem_of_getElem? (i := 173) rfl)) rfl), (List.forall_mem_cons.mpr ⟨(gt_in (tch4 (List.mem_of_getElem? (i := 175) rfl)) rfl), (List.forall_mem_cons.mpr ⟨(gt_in (tch4 (List.mem_of_getElem? (i := 177) rfl)) rfl), (List.forall_mem_cons.mpr ⟨(gt_in (tch4 (List.mem_of_getElem? (i := 179) rfl)) rfl), (List.forall_mem_cons.mpr ⟨(gt_in (tch4 (List.mem_of_getElem? (i := 181) rfl)) rfl), (List.forall_mem_cons.mpr ⟨(gt_in (tch4 (List.mem_of_getElem? (i := 183) rfl)) rfl), (List.forall_mem_cons.mpr ⟨(gt_in (tch4 (List.mem_of_getElem? (i := 185) rfl)) rfl), (List.forall_mem_cons.mpr ⟨(gt_in (tch4 (List.mem_of_getElem? (i := 187) rfl)) rfl), (List.forall_mem_cons.mpr ⟨(gt_in (tch4 (List.mem_of_getElem? (i := 189) rfl)) rfl), (List.forall_mem_cons.mpr ⟨(gt_in (tch4 (List.mem_of_getElem? (i := 191) rfl)) rfl), (List.forall_mem_cons.mpr ⟨(gt_in (tch4 (List.mem_of_getElem? (i := 193) rfl)) rfl), (List.forall_mem_cons.mpr ⟨(gt_in (tch4 (List.mem_of_getElem? (i := 195) rfl)) rfl), (List.forall_mem_cons.mpr ⟨(gt_in (tch4 (List.mem_of_getElem? (i := 197) rfl)) rfl), (List.forall_mem_cons.mpr ⟨(gt_in (tch4 (List.mem_of_getElem? (i := 199) rfl)) rfl), (List.forall_mem_cons.mpr ⟨(gt_in (tch4 (List.mem_of_getElem? (i := 201) rfl)) rfl), (List.forall_mem_cons.mpr ⟨(gt_in (tch4 (List.mem_of_getElem? (i := 203) rfl)) rfl), (List.forall_mem_cons.mpr ⟨(gt_in (tch4 (List.mem_of_getElem? (i := 205) rfl)) rfl), (List.forall_mem_cons.mpr ⟨(gt_in (tch4 (List.mem_of_getElem? (i := 207) rfl)) rfl), (List.forall_mem_cons.mpr ⟨(gt_in (tch4 (List.mem_of_getElem? (i := 209) rfl)) rfl), (List.forall_mem_cons.mpr ⟨(gt_in (tch4 (List.mem_of_getElem? (i := 211) rfl)) rfl), (List.forall_mem_cons.mpr ⟨(gt_in (tch4 (List.mem_of_getElem? (i := 213) rfl)) rfl), (fun _ h => absurd h List.not_mem_nil)⟩)⟩)⟩)⟩)⟩)⟩)⟩)⟩)⟩)⟩)⟩)⟩)⟩)⟩)⟩)⟩)⟩)⟩)⟩)⟩)⟩)⟩)⟩)⟩)⟩)⟩)⟩)⟩)⟩)⟩)
set_option maxRecDepth 20000 in
theorem pt11 : PT 9 (RX11, TX11, 30) := by
  refine ⟨inG11, by decide, by decide, (gt_in (tch4 (List.mem_of_getElem? (i := 116) rfl)) rfl), (gt_in (tch1 (List.mem_of_getElem? (i := 12) rfl)) rfl), nmX11, tyX11, tyX11_ok, ?_⟩
  intro k hk
  match k, hk with
  | 0, _ => exact ⟨rfl, rfl, Or.inr ⟨_, rfl⟩⟩
  | 1, _ => exact ⟨rfl, rfl, Or.inr ⟨_, rfl⟩⟩
  | 2, _ => exact ⟨rfl, rfl, Or.inr ⟨_, rfl⟩⟩
  | 3, _ => exact ⟨rfl, rfl, rfl⟩
  | 4, _ => exact ⟨rfl, rfl, rfl⟩
  | 5, _ => exact ⟨rfl, rfl, Or.inr ⟨_, rfl⟩⟩
  | 6, _ => exact ⟨rfl, rfl, Or.inr ⟨_, rfl⟩⟩
  | 7, _ => exact ⟨rfl, rfl, rfl⟩
  | 8, _ => exact ⟨rfl, rfl, rfl⟩
  | 9, _ => exact ⟨rfl, rfl, rfl⟩
  | 10, _ => exact ⟨rfl, rfl, rfl⟩
  | 11, _ => exact ⟨rfl, rfl, rfl⟩
  | 12, _ => exact ⟨rfl, rfl, rfl⟩
  | 13, _ => exact ⟨rfl, rfl, rfl⟩
  | 14, _ => exact ⟨rfl, rfl, rfl⟩
  | 15, _ => exact ⟨rfl, rfl, rfl⟩
  | 16, _ => exact ⟨rfl, rfl, rfl⟩
  | 17, _ => exact ⟨rfl, rfl, Or.inr ⟨_, rfl⟩⟩
  | 18, _ => exact ⟨rfl, rfl, Or.inr ⟨_, rfl⟩⟩
  | 19, _ => exact ⟨rfl, rfl, Or.inr ⟨_, rfl⟩⟩
  | 20, _ => exact ⟨rfl, rfl, Or.inr ⟨_, rfl⟩⟩
  | 21, _ => exact ⟨rfl, rfl, Or.inr ⟨_, rfl⟩⟩
  | 22, _ => exact ⟨rfl, rfl, Or.inr ⟨_, rfl⟩⟩
  | 23, _ => exact ⟨rfl, rfl, rfl⟩
  | 24, _ => exact ⟨rfl, rfl, Or.inr ⟨_, rfl⟩⟩
  | 25, _ => exact ⟨rfl, rfl, Or.inr ⟨_, rfl⟩⟩
  | 26, _ => exact ⟨rfl, rfl, Or.inr ⟨_, rfl⟩⟩
  | 27, _ => exact ⟨rfl, rfl, Or.inr ⟨_, rfl⟩⟩
  | 28, _ => exact ⟨rfl, rfl, Or.inr ⟨_, rfl⟩⟩
  | 29, _ => exact ⟨rfl, rfl, Or.inr ⟨_, rfl⟩⟩
  | k + 30, hk => exact absurd hk (by show ¬ (k + 30 < 30); omega)
set_option maxRecDepth 20000 in
theorem vwW : ∀ (c : Nat) (q : vw_C), vwCl[c]? = some q → PT c q := by
  intro c q h
  match c, h with
  | 0, h => cases h; exact pt0
  | 1, h => cases h; exact pt1
  | 2, h => cases h; exact pt2
  | 3, h => cases h; exact pt3
  | 4, h => cases h; exact pt5
  | 5, h => cases h; exact pt7
  | 6, h => cases h; exact pt8
  | 7, h => cases h; exact pt9
  | 8, h => cases h; exact pt10
  | 9, h => cases h; exact pt11
  | c + 10, h => simp [vwCl] at h
def PY (y : Mth) : Prop := Cond.code y.2.2.1 y.2.2.2.1 y.2.2.2.2.1 y.2.2.2.2.2 ∈ gt ∧ Cond.initialized y.2.2.1.cls ∈ gt ∧ (y.2.2.1.cls ≠ "java/lang/invoke/MethodHandle" ∧ y.2.2.1.cls ≠ "java/lang/invoke/VarHandle") ∧ clsN y.1 = y.2.2.1.cls ∧ y.2.2.2.2.1 ≤ 45 ∧ (y.2.1 = true → y.2.2.1.name = "<init>") ∧ plainName y.2.2.1.cls = true
set_option maxRecDepth 20000 in
theorem pyX0_earliest : PY MX0_earliest := ⟨(gt_in (tch4 (List.mem_of_getElem? (i := 8) rfl)) rfl), (gt_in (tch1 (List.mem_of_getElem? (i := 11) rfl)) rfl), ⟨by decide, by decide⟩, rfl, by decide, (fun h => Bool.noConfusion h), by decide⟩
set_option maxRecDepth 20000 in
theorem pyX0_init : PY MX0_init := ⟨(gt_in (tch2 (List.mem_of_getElem? (i := 11) rfl)) rfl), (gt_in (tch1 (List.mem_of_getElem? (i := 11) rfl)) rfl), ⟨by decide, by decide⟩, rfl, by decide, (fun _ => rfl), by decide⟩
set_option maxRecDepth 20000 in
theorem pyX0_needed : PY MX0_needed := ⟨(gt_in (tch4 (List.mem_of_getElem? (i := 2) rfl)) rfl), (gt_in (tch1 (List.mem_of_getElem? (i := 11) rfl)) rfl), ⟨by decide, by decide⟩, rfl, by decide, (fun h => Bool.noConfusion h), by decide⟩
set_option maxRecDepth 20000 in
theorem pyX1_copy : PY MX1_copy := ⟨(gt_in (tch3 (List.mem_of_getElem? (i := 42) rfl)) rfl), (gt_in (tch1 (List.mem_of_getElem? (i := 6) rfl)) rfl), ⟨by decide, by decide⟩, rfl, by decide, (fun h => Bool.noConfusion h), by decide⟩
set_option maxRecDepth 20000 in
theorem pyX1_countOver : PY MX1_countOver := ⟨(gt_in (tch3 (List.mem_of_getElem? (i := 85) rfl)) rfl), (gt_in (tch1 (List.mem_of_getElem? (i := 6) rfl)) rfl), ⟨by decide, by decide⟩, rfl, by decide, (fun h => Bool.noConfusion h), by decide⟩
set_option maxRecDepth 20000 in
theorem pyX1_draw : PY MX1_draw := ⟨(gt_in (tch3 (List.mem_of_getElem? (i := 66) rfl)) rfl), (gt_in (tch1 (List.mem_of_getElem? (i := 6) rfl)) rfl), ⟨by decide, by decide⟩, rfl, by decide, (fun h => Bool.noConfusion h), by decide⟩
set_option maxRecDepth 20000 in
theorem pyX1_init : PY MX1_init := ⟨(gt_in (tch1 (List.mem_of_getElem? (i := 142) rfl)) rfl), (gt_in (tch1 (List.mem_of_getElem? (i := 6) rfl)) rfl), ⟨by decide, by decide⟩, rfl, by decide, (fun _ => rfl), by decide⟩
set_option maxRecDepth 20000 in
theorem pyX1_isCovered : PY MX1_isCovered := ⟨(gt_in (tch4 (List.mem_of_getElem? (i := 54) rfl)) rfl), (gt_in (tch1 (List.mem_of_getElem? (i := 6) rfl)) rfl), ⟨by decide, by decide⟩, rfl, by decide, (fun h => Bool.noConfusion h), by decide⟩
set_option maxRecDepth 20000 in
theorem pyX1_isOverLike : PY MX1_isOverLike := ⟨(gt_in (tch4 (List.mem_of_getElem? (i := 82) rfl)) rfl), (gt_in (tch1 (List.mem_of_getElem? (i := 6) rfl)) rfl), ⟨by decide, by decide⟩, rfl, by decide, (fun h => Bool.noConfusion h), by decide⟩
set_option maxRecDepth 20000 in
theorem pyX1_leastFree : PY MX1_leastFree := ⟨(gt_in (tch4 (List.mem_of_getElem? (i := 50) rfl)) rfl), (gt_in (tch1 (List.mem_of_getElem? (i := 6) rfl)) rfl), ⟨by decide, by decide⟩, rfl, by decide, (fun h => Bool.noConfusion h), by decide⟩
set_option maxRecDepth 20000 in
theorem pyX1_make : PY MX1_make := ⟨(gt_in (tch3 (List.mem_of_getElem? (i := 72) rfl)) rfl), (gt_in (tch1 (List.mem_of_getElem? (i := 6) rfl)) rfl), ⟨by decide, by decide⟩, rfl, by decide, (fun h => Bool.noConfusion h), by decide⟩
set_option maxRecDepth 20000 in
theorem pyX1_singInThought : PY MX1_singInThought := ⟨(gt_in (tch4 (List.mem_of_getElem? (i := 77) rfl)) rfl), (gt_in (tch1 (List.mem_of_getElem? (i := 6) rfl)) rfl), ⟨by decide, by decide⟩, rfl, by decide, (fun h => Bool.noConfusion h), by decide⟩
set_option maxRecDepth 20000 in
theorem pyX1_startAnew : PY MX1_startAnew := ⟨(gt_in (tch2 (List.mem_of_getElem? (i := 66) rfl)) rfl), (gt_in (tch1 (List.mem_of_getElem? (i := 6) rfl)) rfl), ⟨by decide, by decide⟩, rfl, by decide, (fun h => Bool.noConfusion h), by decide⟩
set_option maxRecDepth 20000 in
theorem pyX1_timesOver : PY MX1_timesOver := ⟨(gt_in (tch3 (List.mem_of_getElem? (i := 136) rfl)) rfl), (gt_in (tch1 (List.mem_of_getElem? (i := 6) rfl)) rfl), ⟨by decide, by decide⟩, rfl, by decide, (fun h => Bool.noConfusion h), by decide⟩
set_option maxRecDepth 20000 in
theorem pyX2_forget : PY MX2_forget := ⟨(gt_in (tch2 (List.mem_of_getElem? (i := 54) rfl)) rfl), (gt_in (tch1 (List.mem_of_getElem? (i := 9) rfl)) rfl), ⟨by decide, by decide⟩, rfl, by decide, (fun h => Bool.noConfusion h), by decide⟩
set_option maxRecDepth 20000 in
theorem pyX2_goBack : PY MX2_goBack := ⟨(gt_in (tch4 (List.mem_of_getElem? (i := 99) rfl)) rfl), (gt_in (tch1 (List.mem_of_getElem? (i := 9) rfl)) rfl), ⟨by decide, by decide⟩, rfl, by decide, (fun h => Bool.noConfusion h), by decide⟩
set_option maxRecDepth 20000 in
theorem pyX2_init : PY MX2_init := ⟨(gt_in (tch1 (List.mem_of_getElem? (i := 221) rfl)) rfl), (gt_in (tch1 (List.mem_of_getElem? (i := 9) rfl)) rfl), ⟨by decide, by decide⟩, rfl, by decide, (fun _ => rfl), by decide⟩
set_option maxRecDepth 20000 in
theorem pyX2_remember : PY MX2_remember := ⟨(gt_in (tch3 (List.mem_of_getElem? (i := 38) rfl)) rfl), (gt_in (tch1 (List.mem_of_getElem? (i := 9) rfl)) rfl), ⟨by decide, by decide⟩, rfl, by decide, (fun h => Bool.noConfusion h), by decide⟩
set_option maxRecDepth 20000 in
theorem pyX3_countOf : PY MX3_countOf := ⟨(gt_in (tch3 (List.mem_of_getElem? (i := 203) rfl)) rfl), (gt_in (tch1 (List.mem_of_getElem? (i := 10) rfl)) rfl), ⟨by decide, by decide⟩, rfl, by decide, (fun h => Bool.noConfusion h), by decide⟩
set_option maxRecDepth 20000 in
theorem pyX3_firstOf : PY MX3_firstOf := ⟨(gt_in (tch3 (List.mem_of_getElem? (i := 213) rfl)) rfl), (gt_in (tch1 (List.mem_of_getElem? (i := 10) rfl)) rfl), ⟨by decide, by decide⟩, rfl, by decide, (fun h => Bool.noConfusion h), by decide⟩
set_option maxRecDepth 20000 in
theorem pyX3_init : PY MX3_init := ⟨(gt_in (tch2 (List.mem_of_getElem? (i := 1) rfl)) rfl), (gt_in (tch1 (List.mem_of_getElem? (i := 10) rfl)) rfl), ⟨by decide, by decide⟩, rfl, by decide, (fun _ => rfl), by decide⟩
set_option maxRecDepth 20000 in
theorem pyX3_isSameColours : PY MX3_isSameColours := ⟨(gt_in (tch3 (List.mem_of_getElem? (i := 200) rfl)) rfl), (gt_in (tch1 (List.mem_of_getElem? (i := 10) rfl)) rfl), ⟨by decide, by decide⟩, rfl, by decide, (fun h => Bool.noConfusion h), by decide⟩
set_option maxRecDepth 20000 in
theorem pyX3_longestCommon : PY MX3_longestCommon := ⟨(gt_in (tch3 (List.mem_of_getElem? (i := 208) rfl)) rfl), (gt_in (tch1 (List.mem_of_getElem? (i := 10) rfl)) rfl), ⟨by decide, by decide⟩, rfl, by decide, (fun h => Bool.noConfusion h), by decide⟩
set_option maxRecDepth 20000 in
theorem pyX3_needed : PY MX3_needed := ⟨(gt_in (tch3 (List.mem_of_getElem? (i := 197) rfl)) rfl), (gt_in (tch1 (List.mem_of_getElem? (i := 10) rfl)) rfl), ⟨by decide, by decide⟩, rfl, by decide, (fun h => Bool.noConfusion h), by decide⟩
set_option maxRecDepth 20000 in
theorem pyX4_asked : PY MX4_asked := ⟨(gt_in (tch3 (List.mem_of_getElem? (i := 79) rfl)) rfl), (gt_in (tch1 (List.mem_of_getElem? (i := 17) rfl)) rfl), ⟨by decide, by decide⟩, rfl, by decide, (fun h => Bool.noConfusion h), by decide⟩
set_option maxRecDepth 20000 in
theorem pyX4_cross : PY MX4_cross := ⟨(gt_in (tch4 (List.mem_of_getElem? (i := 11) rfl)) rfl), (gt_in (tch1 (List.mem_of_getElem? (i := 17) rfl)) rfl), ⟨by decide, by decide⟩, rfl, by decide, (fun h => Bool.noConfusion h), by decide⟩
set_option maxRecDepth 20000 in
theorem pyX4_findsColour : PY MX4_findsColour := ⟨(gt_in (tch3 (List.mem_of_getElem? (i := 76) rfl)) rfl), (gt_in (tch1 (List.mem_of_getElem? (i := 17) rfl)) rfl), ⟨by decide, by decide⟩, rfl, by decide, (fun h => Bool.noConfusion h), by decide⟩
set_option maxRecDepth 20000 in
theorem pyX4_from : PY MX4_from := ⟨(gt_in (tch3 (List.mem_of_getElem? (i := 53) rfl)) rfl), (gt_in (tch1 (List.mem_of_getElem? (i := 17) rfl)) rfl), ⟨by decide, by decide⟩, rfl, by decide, (fun h => Bool.noConfusion h), by decide⟩
set_option maxRecDepth 20000 in
theorem pyX4_isBetween : PY MX4_isBetween := ⟨(gt_in (tch4 (List.mem_of_getElem? (i := 14) rfl)) rfl), (gt_in (tch1 (List.mem_of_getElem? (i := 17) rfl)) rfl), ⟨by decide, by decide⟩, rfl, by decide, (fun h => Bool.noConfusion h), by decide⟩
set_option maxRecDepth 20000 in
theorem pyX4_isTurn : PY MX4_isTurn := ⟨(gt_in (tch3 (List.mem_of_getElem? (i := 59) rfl)) rfl), (gt_in (tch1 (List.mem_of_getElem? (i := 17) rfl)) rfl), ⟨by decide, by decide⟩, rfl, by decide, (fun h => Bool.noConfusion h), by decide⟩
set_option maxRecDepth 20000 in
theorem pyX4_kind : PY MX4_kind := ⟨(gt_in (tch3 (List.mem_of_getElem? (i := 62) rfl)) rfl), (gt_in (tch1 (List.mem_of_getElem? (i := 17) rfl)) rfl), ⟨by decide, by decide⟩, rfl, by decide, (fun h => Bool.noConfusion h), by decide⟩
set_option maxRecDepth 20000 in
theorem pyX4_madeOn : PY MX4_madeOn := ⟨(gt_in (tch3 (List.mem_of_getElem? (i := 98) rfl)) rfl), (gt_in (tch1 (List.mem_of_getElem? (i := 17) rfl)) rfl), ⟨by decide, by decide⟩, rfl, by decide, (fun h => Bool.noConfusion h), by decide⟩
set_option maxRecDepth 20000 in
theorem pyX4_mirrored : PY MX4_mirrored := ⟨(gt_in (tch3 (List.mem_of_getElem? (i := 183) rfl)) rfl), (gt_in (tch1 (List.mem_of_getElem? (i := 17) rfl)) rfl), ⟨by decide, by decide⟩, rfl, by decide, (fun h => Bool.noConfusion h), by decide⟩
set_option maxRecDepth 20000 in
theorem pyX4_packed : PY MX4_packed := ⟨(gt_in (tch2 (List.mem_of_getElem? (i := 235) rfl)) rfl), (gt_in (tch1 (List.mem_of_getElem? (i := 17) rfl)) rfl), ⟨by decide, by decide⟩, rfl, by decide, (fun h => Bool.noConfusion h), by decide⟩
set_option maxRecDepth 20000 in
theorem pyX4_to : PY MX4_to := ⟨(gt_in (tch3 (List.mem_of_getElem? (i := 89) rfl)) rfl), (gt_in (tch1 (List.mem_of_getElem? (i := 17) rfl)) rfl), ⟨by decide, by decide⟩, rfl, by decide, (fun h => Bool.noConfusion h), by decide⟩
set_option maxRecDepth 20000 in
theorem pyX4_withoutAsking : PY MX4_withoutAsking := ⟨(gt_in (tch4 (List.mem_of_getElem? (i := 37) rfl)) rfl), (gt_in (tch1 (List.mem_of_getElem? (i := 17) rfl)) rfl), ⟨by decide, by decide⟩, rfl, by decide, (fun h => Bool.noConfusion h), by decide⟩
set_option maxRecDepth 20000 in
theorem pyX5_append : PY MX5_append := ⟨(gt_in (tch2 (List.mem_of_getElem? (i := 239) rfl)) rfl), (gt_in (tch1 (List.mem_of_getElem? (i := 2) rfl)) rfl), ⟨by decide, by decide⟩, rfl, by decide, (fun h => Bool.noConfusion h), by decide⟩
set_option maxRecDepth 20000 in
theorem pyX5_fail : PY MX5_fail := ⟨(gt_in (tch2 (List.mem_of_getElem? (i := 216) rfl)) rfl), (gt_in (tch1 (List.mem_of_getElem? (i := 2) rfl)) rfl), ⟨by decide, by decide⟩, rfl, by decide, (fun h => Bool.noConfusion h), by decide⟩
set_option maxRecDepth 20000 in
theorem pyX5_forgetFault : PY MX5_forgetFault := ⟨(gt_in (tch2 (List.mem_of_getElem? (i := 106) rfl)) rfl), (gt_in (tch1 (List.mem_of_getElem? (i := 2) rfl)) rfl), ⟨by decide, by decide⟩, rfl, by decide, (fun h => Bool.noConfusion h), by decide⟩
set_option maxRecDepth 20000 in
theorem pyX5_init : PY MX5_init := ⟨(gt_in (tch1 (List.mem_of_getElem? (i := 33) rfl)) rfl), (gt_in (tch1 (List.mem_of_getElem? (i := 2) rfl)) rfl), ⟨by decide, by decide⟩, rfl, by decide, (fun _ => rfl), by decide⟩
set_option maxRecDepth 20000 in
theorem pyX5_read : PY MX5_read := ⟨(gt_in (tch2 (List.mem_of_getElem? (i := 113) rfl)) rfl), (gt_in (tch1 (List.mem_of_getElem? (i := 2) rfl)) rfl), ⟨by decide, by decide⟩, rfl, by decide, (fun h => Bool.noConfusion h), by decide⟩
set_option maxRecDepth 20000 in
theorem pyX5_readAsked : PY MX5_readAsked := ⟨(gt_in (tch2 (List.mem_of_getElem? (i := 232) rfl)) rfl), (gt_in (tch1 (List.mem_of_getElem? (i := 2) rfl)) rfl), ⟨by decide, by decide⟩, rfl, by decide, (fun h => Bool.noConfusion h), by decide⟩
set_option maxRecDepth 20000 in
theorem pyX5_readClosing : PY MX5_readClosing := ⟨(gt_in (tch3 (List.mem_of_getElem? (i := 19) rfl)) rfl), (gt_in (tch1 (List.mem_of_getElem? (i := 2) rfl)) rfl), ⟨by decide, by decide⟩, rfl, by decide, (fun h => Bool.noConfusion h), by decide⟩
set_option maxRecDepth 20000 in
theorem pyX5_readEnd : PY MX5_readEnd := ⟨(gt_in (tch2 (List.mem_of_getElem? (i := 212) rfl)) rfl), (gt_in (tch1 (List.mem_of_getElem? (i := 2) rfl)) rfl), ⟨by decide, by decide⟩, rfl, by decide, (fun h => Bool.noConfusion h), by decide⟩
set_option maxRecDepth 20000 in
theorem pyX5_readLift : PY MX5_readLift := ⟨(gt_in (tch2 (List.mem_of_getElem? (i := 220) rfl)) rfl), (gt_in (tch1 (List.mem_of_getElem? (i := 2) rfl)) rfl), ⟨by decide, by decide⟩, rfl, by decide, (fun h => Bool.noConfusion h), by decide⟩
set_option maxRecDepth 20000 in
theorem pyX5_readNumber : PY MX5_readNumber := ⟨(gt_in (tch2 (List.mem_of_getElem? (i := 224) rfl)) rfl), (gt_in (tch1 (List.mem_of_getElem? (i := 2) rfl)) rfl), ⟨by decide, by decide⟩, rfl, by decide, (fun h => Bool.noConfusion h), by decide⟩
set_option maxRecDepth 20000 in
theorem pyX5_readSwap : PY MX5_readSwap := ⟨(gt_in (tch3 (List.mem_of_getElem? (i := 7) rfl)) rfl), (gt_in (tch1 (List.mem_of_getElem? (i := 2) rfl)) rfl), ⟨by decide, by decide⟩, rfl, by decide, (fun h => Bool.noConfusion h), by decide⟩
set_option maxRecDepth 20000 in
theorem pyX5_readTimes : PY MX5_readTimes := ⟨(gt_in (tch3 (List.mem_of_getElem? (i := 15) rfl)) rfl), (gt_in (tch1 (List.mem_of_getElem? (i := 2) rfl)) rfl), ⟨by decide, by decide⟩, rfl, by decide, (fun h => Bool.noConfusion h), by decide⟩
set_option maxRecDepth 20000 in
theorem pyX5_readToken : PY MX5_readToken := ⟨(gt_in (tch2 (List.mem_of_getElem? (i := 228) rfl)) rfl), (gt_in (tch1 (List.mem_of_getElem? (i := 2) rfl)) rfl), ⟨by decide, by decide⟩, rfl, by decide, (fun h => Bool.noConfusion h), by decide⟩
set_option maxRecDepth 20000 in
theorem pyX5_readTurn : PY MX5_readTurn := ⟨(gt_in (tch3 (List.mem_of_getElem? (i := 11) rfl)) rfl), (gt_in (tch1 (List.mem_of_getElem? (i := 2) rfl)) rfl), ⟨by decide, by decide⟩, rfl, by decide, (fun h => Bool.noConfusion h), by decide⟩
set_option maxRecDepth 20000 in
theorem pyX5_take : PY MX5_take := ⟨(gt_in (tch2 (List.mem_of_getElem? (i := 208) rfl)) rfl), (gt_in (tch1 (List.mem_of_getElem? (i := 2) rfl)) rfl), ⟨by decide, by decide⟩, rfl, by decide, (fun h => Bool.noConfusion h), by decide⟩
set_option maxRecDepth 20000 in
theorem pyX6_get : PY MX6_get := ⟨(gt_in (tch3 (List.mem_of_getElem? (i := 56) rfl)) rfl), (gt_in (tch1 (List.mem_of_getElem? (i := 7) rfl)) rfl), ⟨by decide, by decide⟩, rfl, by decide, (fun h => Bool.noConfusion h), by decide⟩
set_option maxRecDepth 20000 in
theorem pyX6_home : PY MX6_home := ⟨(gt_in (tch1 (List.mem_of_getElem? (i := 146) rfl)) rfl), (gt_in (tch1 (List.mem_of_getElem? (i := 7) rfl)) rfl), ⟨by decide, by decide⟩, rfl, by decide, (fun h => Bool.noConfusion h), by decide⟩
set_option maxRecDepth 20000 in
theorem pyX6_lifted : PY MX6_lifted := ⟨(gt_in (tch3 (List.mem_of_getElem? (i := 107) rfl)) rfl), (gt_in (tch1 (List.mem_of_getElem? (i := 7) rfl)) rfl), ⟨by decide, by decide⟩, rfl, by decide, (fun h => Bool.noConfusion h), by decide⟩
set_option maxRecDepth 20000 in
theorem pyX6_lowest : PY MX6_lowest := ⟨(gt_in (tch1 (List.mem_of_getElem? (i := 150) rfl)) rfl), (gt_in (tch1 (List.mem_of_getElem? (i := 7) rfl)) rfl), ⟨by decide, by decide⟩, rfl, by decide, (fun h => Bool.noConfusion h), by decide⟩
set_option maxRecDepth 20000 in
theorem pyX6_slotWith : PY MX6_slotWith := ⟨(gt_in (tch3 (List.mem_of_getElem? (i := 128) rfl)) rfl), (gt_in (tch1 (List.mem_of_getElem? (i := 7) rfl)) rfl), ⟨by decide, by decide⟩, rfl, by decide, (fun h => Bool.noConfusion h), by decide⟩
set_option maxRecDepth 20000 in
theorem pyX6_swapped : PY MX6_swapped := ⟨(gt_in (tch3 (List.mem_of_getElem? (i := 111) rfl)) rfl), (gt_in (tch1 (List.mem_of_getElem? (i := 7) rfl)) rfl), ⟨by decide, by decide⟩, rfl, by decide, (fun h => Bool.noConfusion h), by decide⟩
set_option maxRecDepth 20000 in
theorem pyX6_turned : PY MX6_turned := ⟨(gt_in (tch3 (List.mem_of_getElem? (i := 102) rfl)) rfl), (gt_in (tch1 (List.mem_of_getElem? (i := 7) rfl)) rfl), ⟨by decide, by decide⟩, rfl, by decide, (fun h => Bool.noConfusion h), by decide⟩
set_option maxRecDepth 20000 in
theorem pyX6_with : PY MX6_with := ⟨(gt_in (tch2 (List.mem_of_getElem? (i := 81) rfl)) rfl), (gt_in (tch1 (List.mem_of_getElem? (i := 7) rfl)) rfl), ⟨by decide, by decide⟩, rfl, by decide, (fun h => Bool.noConfusion h), by decide⟩
set_option maxRecDepth 20000 in
theorem pyX7_add : PY MX7_add := ⟨(gt_in (tch3 (List.mem_of_getElem? (i := 3) rfl)) rfl), (gt_in (tch1 (List.mem_of_getElem? (i := 4) rfl)) rfl), ⟨by decide, by decide⟩, rfl, by decide, (fun h => Bool.noConfusion h), by decide⟩
set_option maxRecDepth 20000 in
theorem pyX7_copy : PY MX7_copy := ⟨(gt_in (tch3 (List.mem_of_getElem? (i := 23) rfl)) rfl), (gt_in (tch1 (List.mem_of_getElem? (i := 4) rfl)) rfl), ⟨by decide, by decide⟩, rfl, by decide, (fun h => Bool.noConfusion h), by decide⟩
set_option maxRecDepth 20000 in
theorem pyX7_init : PY MX7_init := ⟨(gt_in (tch1 (List.mem_of_getElem? (i := 71) rfl)) rfl), (gt_in (tch1 (List.mem_of_getElem? (i := 4) rfl)) rfl), ⟨by decide, by decide⟩, rfl, by decide, (fun _ => rfl), by decide⟩
set_option maxRecDepth 20000 in
theorem pyX7_mirroredFrom : PY MX7_mirroredFrom := ⟨(gt_in (tch3 (List.mem_of_getElem? (i := 180) rfl)) rfl), (gt_in (tch1 (List.mem_of_getElem? (i := 4) rfl)) rfl), ⟨by decide, by decide⟩, rfl, by decide, (fun h => Bool.noConfusion h), by decide⟩
set_option maxRecDepth 20000 in
theorem pyX7_singingsBack : PY MX7_singingsBack := ⟨(gt_in (tch3 (List.mem_of_getElem? (i := 152) rfl)) rfl), (gt_in (tch1 (List.mem_of_getElem? (i := 4) rfl)) rfl), ⟨by decide, by decide⟩, rfl, by decide, (fun h => Bool.noConfusion h), by decide⟩
set_option maxRecDepth 20000 in
theorem pyX7_sungFrom : PY MX7_sungFrom := ⟨(gt_in (tch3 (List.mem_of_getElem? (i := 156) rfl)) rfl), (gt_in (tch1 (List.mem_of_getElem? (i := 4) rfl)) rfl), ⟨by decide, by decide⟩, rfl, by decide, (fun h => Bool.noConfusion h), by decide⟩
set_option maxRecDepth 20000 in
theorem pyX8_addRow : PY MX8_addRow := ⟨(gt_in (tch3 (List.mem_of_getElem? (i := 116) rfl)) rfl), (gt_in (tch1 (List.mem_of_getElem? (i := 5) rfl)) rfl), ⟨by decide, by decide⟩, rfl, by decide, (fun h => Bool.noConfusion h), by decide⟩
set_option maxRecDepth 20000 in
theorem pyX8_copy : PY MX8_copy := ⟨(gt_in (tch4 (List.mem_of_getElem? (i := 107) rfl)) rfl), (gt_in (tch1 (List.mem_of_getElem? (i := 5) rfl)) rfl), ⟨by decide, by decide⟩, rfl, by decide, (fun h => Bool.noConfusion h), by decide⟩
set_option maxRecDepth 20000 in
theorem pyX8_countUnlike : PY MX8_countUnlike := ⟨(gt_in (tch4 (List.mem_of_getElem? (i := 42) rfl)) rfl), (gt_in (tch1 (List.mem_of_getElem? (i := 5) rfl)) rfl), ⟨by decide, by decide⟩, rfl, by decide, (fun h => Bool.noConfusion h), by decide⟩
set_option maxRecDepth 20000 in
theorem pyX8_init : PY MX8_init := ⟨(gt_in (tch1 (List.mem_of_getElem? (i := 134) rfl)) rfl), (gt_in (tch1 (List.mem_of_getElem? (i := 5) rfl)) rfl), ⟨by decide, by decide⟩, rfl, by decide, (fun _ => rfl), by decide⟩
set_option maxRecDepth 20000 in
theorem pyX8_layRows : PY MX8_layRows := ⟨(gt_in (tch4 (List.mem_of_getElem? (i := 33) rfl)) rfl), (gt_in (tch1 (List.mem_of_getElem? (i := 5) rfl)) rfl), ⟨by decide, by decide⟩, rfl, by decide, (fun h => Bool.noConfusion h), by decide⟩
set_option maxRecDepth 20000 in
theorem pyX8_rowPart : PY MX8_rowPart := ⟨(gt_in (tch3 (List.mem_of_getElem? (i := 144) rfl)) rfl), (gt_in (tch1 (List.mem_of_getElem? (i := 5) rfl)) rfl), ⟨by decide, by decide⟩, rfl, by decide, (fun h => Bool.noConfusion h), by decide⟩
set_option maxRecDepth 20000 in
theorem pyX8_rowsComeAgain : PY MX8_rowsComeAgain := ⟨(gt_in (tch4 (List.mem_of_getElem? (i := 90) rfl)) rfl), (gt_in (tch1 (List.mem_of_getElem? (i := 5) rfl)) rfl), ⟨by decide, by decide⟩, rfl, by decide, (fun h => Bool.noConfusion h), by decide⟩
set_option maxRecDepth 20000 in
theorem pyX8_seen : PY MX8_seen := ⟨(gt_in (tch3 (List.mem_of_getElem? (i := 170) rfl)) rfl), (gt_in (tch1 (List.mem_of_getElem? (i := 5) rfl)) rfl), ⟨by decide, by decide⟩, rfl, by decide, (fun h => Bool.noConfusion h), by decide⟩
set_option maxRecDepth 20000 in
theorem pyX8_singOnce : PY MX8_singOnce := ⟨(gt_in (tch3 (List.mem_of_getElem? (i := 50) rfl)) rfl), (gt_in (tch1 (List.mem_of_getElem? (i := 5) rfl)) rfl), ⟨by decide, by decide⟩, rfl, by decide, (fun h => Bool.noConfusion h), by decide⟩
set_option maxRecDepth 20000 in
theorem pyX8_startAnew : PY MX8_startAnew := ⟨(gt_in (tch2 (List.mem_of_getElem? (i := 62) rfl)) rfl), (gt_in (tch1 (List.mem_of_getElem? (i := 5) rfl)) rfl), ⟨by decide, by decide⟩, rfl, by decide, (fun h => Bool.noConfusion h), by decide⟩
set_option maxRecDepth 20000 in
theorem pyX8_strandsToDye : PY MX8_strandsToDye := ⟨(gt_in (tch4 (List.mem_of_getElem? (i := 29) rfl)) rfl), (gt_in (tch1 (List.mem_of_getElem? (i := 5) rfl)) rfl), ⟨by decide, by decide⟩, rfl, by decide, (fun h => Bool.noConfusion h), by decide⟩
set_option maxRecDepth 20000 in
theorem pyX9_add : PY MX9_add := ⟨(gt_in (tch2 (List.mem_of_getElem? (i := 94) rfl)) rfl), (gt_in (tch1 (List.mem_of_getElem? (i := 3) rfl)) rfl), ⟨by decide, by decide⟩, rfl, by decide, (fun h => Bool.noConfusion h), by decide⟩
set_option maxRecDepth 20000 in
theorem pyX9_addToken : PY MX9_addToken := ⟨(gt_in (tch2 (List.mem_of_getElem? (i := 204) rfl)) rfl), (gt_in (tch1 (List.mem_of_getElem? (i := 3) rfl)) rfl), ⟨by decide, by decide⟩, rfl, by decide, (fun h => Bool.noConfusion h), by decide⟩
set_option maxRecDepth 20000 in
theorem pyX9_endOfRun : PY MX9_endOfRun := ⟨(gt_in (tch2 (List.mem_of_getElem? (i := 121) rfl)) rfl), (gt_in (tch1 (List.mem_of_getElem? (i := 3) rfl)) rfl), ⟨by decide, by decide⟩, rfl, by decide, (fun h => Bool.noConfusion h), by decide⟩
set_option maxRecDepth 20000 in
theorem pyX9_findTokens : PY MX9_findTokens := ⟨(gt_in (tch2 (List.mem_of_getElem? (i := 117) rfl)) rfl), (gt_in (tch1 (List.mem_of_getElem? (i := 3) rfl)) rfl), ⟨by decide, by decide⟩, rfl, by decide, (fun h => Bool.noConfusion h), by decide⟩
set_option maxRecDepth 20000 in
theorem pyX9_init : PY MX9_init := ⟨(gt_in (tch1 (List.mem_of_getElem? (i := 39) rfl)) rfl), (gt_in (tch1 (List.mem_of_getElem? (i := 3) rfl)) rfl), ⟨by decide, by decide⟩, rfl, by decide, (fun _ => rfl), by decide⟩
set_option maxRecDepth 20000 in
theorem pyX9_isBlank : PY MX9_isBlank := ⟨(gt_in (tch2 (List.mem_of_getElem? (i := 130) rfl)) rfl), (gt_in (tch1 (List.mem_of_getElem? (i := 3) rfl)) rfl), ⟨by decide, by decide⟩, rfl, by decide, (fun h => Bool.noConfusion h), by decide⟩
set_option maxRecDepth 20000 in
theorem pyX9_isDigit : PY MX9_isDigit := ⟨(gt_in (tch2 (List.mem_of_getElem? (i := 127) rfl)) rfl), (gt_in (tch1 (List.mem_of_getElem? (i := 3) rfl)) rfl), ⟨by decide, by decide⟩, rfl, by decide, (fun h => Bool.noConfusion h), by decide⟩
set_option maxRecDepth 20000 in
theorem pyX9_isLetter : PY MX9_isLetter := ⟨(gt_in (tch2 (List.mem_of_getElem? (i := 124) rfl)) rfl), (gt_in (tch1 (List.mem_of_getElem? (i := 3) rfl)) rfl), ⟨by decide, by decide⟩, rfl, by decide, (fun h => Bool.noConfusion h), by decide⟩
set_option maxRecDepth 20000 in
theorem pyX9_isWord : PY MX9_isWord := ⟨(gt_in (tch2 (List.mem_of_getElem? (i := 143) rfl)) rfl), (gt_in (tch1 (List.mem_of_getElem? (i := 3) rfl)) rfl), ⟨by decide, by decide⟩, rfl, by decide, (fun h => Bool.noConfusion h), by decide⟩
set_option maxRecDepth 20000 in
theorem pyX9_kindOfRun : PY MX9_kindOfRun := ⟨(gt_in (tch2 (List.mem_of_getElem? (i := 134) rfl)) rfl), (gt_in (tch1 (List.mem_of_getElem? (i := 3) rfl)) rfl), ⟨by decide, by decide⟩, rfl, by decide, (fun h => Bool.noConfusion h), by decide⟩
set_option maxRecDepth 20000 in
theorem pyX9_kindOfWord : PY MX9_kindOfWord := ⟨(gt_in (tch2 (List.mem_of_getElem? (i := 138) rfl)) rfl), (gt_in (tch1 (List.mem_of_getElem? (i := 3) rfl)) rfl), ⟨by decide, by decide⟩, rfl, by decide, (fun h => Bool.noConfusion h), by decide⟩
set_option maxRecDepth 20000 in
theorem pyX9_numberOfRun : PY MX9_numberOfRun := ⟨(gt_in (tch2 (List.mem_of_getElem? (i := 200) rfl)) rfl), (gt_in (tch1 (List.mem_of_getElem? (i := 3) rfl)) rfl), ⟨by decide, by decide⟩, rfl, by decide, (fun h => Bool.noConfusion h), by decide⟩
set_option maxRecDepth 20000 in
theorem pyX10_alike : PY MX10_alike := ⟨(gt_in (tch4 (List.mem_of_getElem? (i := 72) rfl)) rfl), (gt_in (tch1 (List.mem_of_getElem? (i := 1) rfl)) rfl), ⟨by decide, by decide⟩, rfl, by decide, (fun h => Bool.noConfusion h), by decide⟩
set_option maxRecDepth 20000 in
theorem pyX10_at : PY MX10_at := ⟨(gt_in (tch3 (List.mem_of_getElem? (i := 120) rfl)) rfl), (gt_in (tch1 (List.mem_of_getElem? (i := 1) rfl)) rfl), ⟨by decide, by decide⟩, rfl, by decide, (fun h => Bool.noConfusion h), by decide⟩
set_option maxRecDepth 20000 in
theorem pyX10_back : PY MX10_back := ⟨(gt_in (tch3 (List.mem_of_getElem? (i := 148) rfl)) rfl), (gt_in (tch1 (List.mem_of_getElem? (i := 1) rfl)) rfl), ⟨by decide, by decide⟩, rfl, by decide, (fun h => Bool.noConfusion h), by decide⟩
set_option maxRecDepth 20000 in
theorem pyX10_beats : PY MX10_beats := ⟨(gt_in (tch3 (List.mem_of_getElem? (i := 238) rfl)) rfl), (gt_in (tch1 (List.mem_of_getElem? (i := 1) rfl)) rfl), ⟨by decide, by decide⟩, rfl, by decide, (fun h => Bool.noConfusion h), by decide⟩
set_option maxRecDepth 20000 in
theorem pyX10_colour : PY MX10_colour := ⟨(gt_in (tch2 (List.mem_of_getElem? (i := 71) rfl)) rfl), (gt_in (tch1 (List.mem_of_getElem? (i := 1) rfl)) rfl), ⟨by decide, by decide⟩, rfl, by decide, (fun h => Bool.noConfusion h), by decide⟩
set_option maxRecDepth 20000 in
theorem pyX10_countRings : PY MX10_countRings := ⟨(gt_in (tch4 (List.mem_of_getElem? (i := 63) rfl)) rfl), (gt_in (tch1 (List.mem_of_getElem? (i := 1) rfl)) rfl), ⟨by decide, by decide⟩, rfl, by decide, (fun h => Bool.noConfusion h), by decide⟩
set_option maxRecDepth 20000 in
theorem pyX10_cut : PY MX10_cut := ⟨(gt_in (tch3 (List.mem_of_getElem? (i := 222) rfl)) rfl), (gt_in (tch1 (List.mem_of_getElem? (i := 1) rfl)) rfl), ⟨by decide, by decide⟩, rfl, by decide, (fun h => Bool.noConfusion h), by decide⟩
set_option maxRecDepth 20000 in
theorem pyX10_dropped : PY MX10_dropped := ⟨(gt_in (tch3 (List.mem_of_getElem? (i := 229) rfl)) rfl), (gt_in (tch1 (List.mem_of_getElem? (i := 1) rfl)) rfl), ⟨by decide, by decide⟩, rfl, by decide, (fun h => Bool.noConfusion h), by decide⟩
set_option maxRecDepth 20000 in
theorem pyX10_end : PY MX10_end := ⟨(gt_in (tch2 (List.mem_of_getElem? (i := 98) rfl)) rfl), (gt_in (tch1 (List.mem_of_getElem? (i := 1) rfl)) rfl), ⟨by decide, by decide⟩, rfl, by decide, (fun h => Bool.noConfusion h), by decide⟩
set_option maxRecDepth 20000 in
theorem pyX10_fault : PY MX10_fault := ⟨(gt_in (tch3 (List.mem_of_getElem? (i := 30) rfl)) rfl), (gt_in (tch1 (List.mem_of_getElem? (i := 1) rfl)) rfl), ⟨by decide, by decide⟩, rfl, by decide, (fun h => Bool.noConfusion h), by decide⟩
set_option maxRecDepth 20000 in
theorem pyX10_feed : PY MX10_feed := ⟨(gt_in (tch2 (List.mem_of_getElem? (i := 90) rfl)) rfl), (gt_in (tch1 (List.mem_of_getElem? (i := 1) rfl)) rfl), ⟨by decide, by decide⟩, rfl, by decide, (fun h => Bool.noConfusion h), by decide⟩
set_option maxRecDepth 20000 in
theorem pyX10_fewest : PY MX10_fewest := ⟨(gt_in (tch3 (List.mem_of_getElem? (i := 193) rfl)) rfl), (gt_in (tch1 (List.mem_of_getElem? (i := 1) rfl)) rfl), ⟨by decide, by decide⟩, rfl, by decide, (fun h => Bool.noConfusion h), by decide⟩
set_option maxRecDepth 20000 in
theorem pyX10_fitsWithout : PY MX10_fitsWithout := ⟨(gt_in (tch3 (List.mem_of_getElem? (i := 234) rfl)) rfl), (gt_in (tch1 (List.mem_of_getElem? (i := 1) rfl)) rfl), ⟨by decide, by decide⟩, rfl, by decide, (fun h => Bool.noConfusion h), by decide⟩
set_option maxRecDepth 20000 in
theorem pyX10_image : PY MX10_image := ⟨(gt_in (tch4 (List.mem_of_getElem? (i := 103) rfl)) rfl), (gt_in (tch1 (List.mem_of_getElem? (i := 1) rfl)) rfl), ⟨by decide, by decide⟩, rfl, by decide, (fun h => Bool.noConfusion h), by decide⟩
set_option maxRecDepth 20000 in
theorem pyX10_init : PY MX10_init := ⟨(gt_in (tch1 (List.mem_of_getElem? (i := 25) rfl)) rfl), (gt_in (tch1 (List.mem_of_getElem? (i := 1) rfl)) rfl), ⟨by decide, by decide⟩, rfl, by decide, (fun _ => rfl), by decide⟩
set_option maxRecDepth 20000 in
theorem pyX10_isColour : PY MX10_isColour := ⟨(gt_in (tch2 (List.mem_of_getElem? (i := 78) rfl)) rfl), (gt_in (tch1 (List.mem_of_getElem? (i := 1) rfl)) rfl), ⟨by decide, by decide⟩, rfl, by decide, (fun h => Bool.noConfusion h), by decide⟩
set_option maxRecDepth 20000 in
theorem pyX10_isSlot : PY MX10_isSlot := ⟨(gt_in (tch2 (List.mem_of_getElem? (i := 75) rfl)) rfl), (gt_in (tch1 (List.mem_of_getElem? (i := 1) rfl)) rfl), ⟨by decide, by decide⟩, rfl, by decide, (fun h => Bool.noConfusion h), by decide⟩
set_option maxRecDepth 20000 in
theorem pyX10_isSong : PY MX10_isSong := ⟨(gt_in (tch2 (List.mem_of_getElem? (i := 109) rfl)) rfl), (gt_in (tch1 (List.mem_of_getElem? (i := 1) rfl)) rfl), ⟨by decide, by decide⟩, rfl, by decide, (fun h => Bool.noConfusion h), by decide⟩
set_option maxRecDepth 20000 in
theorem pyX10_lay : PY MX10_lay := ⟨(gt_in (tch4 (List.mem_of_getElem? (i := 25) rfl)) rfl), (gt_in (tch1 (List.mem_of_getElem? (i := 1) rfl)) rfl), ⟨by decide, by decide⟩, rfl, by decide, (fun h => Bool.noConfusion h), by decide⟩
set_option maxRecDepth 20000 in
theorem pyX10_look : PY MX10_look := ⟨(gt_in (tch4 (List.mem_of_getElem? (i := 114) rfl)) rfl), (gt_in (tch1 (List.mem_of_getElem? (i := 1) rfl)) rfl), ⟨by decide, by decide⟩, rfl, by decide, (fun h => Bool.noConfusion h), by decide⟩
set_option maxRecDepth 20000 in
theorem pyX10_loops : PY MX10_loops := ⟨(gt_in (tch4 (List.mem_of_getElem? (i := 59) rfl)) rfl), (gt_in (tch1 (List.mem_of_getElem? (i := 1) rfl)) rfl), ⟨by decide, by decide⟩, rfl, by decide, (fun h => Bool.noConfusion h), by decide⟩
set_option maxRecDepth 20000 in
theorem pyX10_name : PY MX10_name := ⟨(gt_in (tch4 (List.mem_of_getElem? (i := 21) rfl)) rfl), (gt_in (tch1 (List.mem_of_getElem? (i := 1) rfl)) rfl), ⟨by decide, by decide⟩, rfl, by decide, (fun h => Bool.noConfusion h), by decide⟩
set_option maxRecDepth 20000 in
theorem pyX10_of : PY MX10_of := ⟨(gt_in (tch3 (List.mem_of_getElem? (i := 125) rfl)) rfl), (gt_in (tch1 (List.mem_of_getElem? (i := 1) rfl)) rfl), ⟨by decide, by decide⟩, rfl, by decide, (fun h => Bool.noConfusion h), by decide⟩
set_option maxRecDepth 20000 in
theorem pyX10_oneOfThree : PY MX10_oneOfThree := ⟨(gt_in (tch3 (List.mem_of_getElem? (i := 225) rfl)) rfl), (gt_in (tch1 (List.mem_of_getElem? (i := 1) rfl)) rfl), ⟨by decide, by decide⟩, rfl, by decide, (fun h => Bool.noConfusion h), by decide⟩
set_option maxRecDepth 20000 in
theorem pyX10_outside : PY MX10_outside := ⟨(gt_in (tch3 (List.mem_of_getElem? (i := 140) rfl)) rfl), (gt_in (tch1 (List.mem_of_getElem? (i := 1) rfl)) rfl), ⟨by decide, by decide⟩, rfl, by decide, (fun h => Bool.noConfusion h), by decide⟩
set_option maxRecDepth 20000 in
theorem pyX10_over : PY MX10_over := ⟨(gt_in (tch3 (List.mem_of_getElem? (i := 132) rfl)) rfl), (gt_in (tch1 (List.mem_of_getElem? (i := 1) rfl)) rfl), ⟨by decide, by decide⟩, rfl, by decide, (fun h => Bool.noConfusion h), by decide⟩
set_option maxRecDepth 20000 in
theorem pyX10_period : PY MX10_period := ⟨(gt_in (tch4 (List.mem_of_getElem? (i := 86) rfl)) rfl), (gt_in (tch1 (List.mem_of_getElem? (i := 1) rfl)) rfl), ⟨by decide, by decide⟩, rfl, by decide, (fun h => Bool.noConfusion h), by decide⟩
set_option maxRecDepth 20000 in
theorem pyX10_pulled : PY MX10_pulled := ⟨(gt_in (tch4 (List.mem_of_getElem? (i := 46) rfl)) rfl), (gt_in (tch1 (List.mem_of_getElem? (i := 1) rfl)) rfl), ⟨by decide, by decide⟩, rfl, by decide, (fun h => Bool.noConfusion h), by decide⟩
set_option maxRecDepth 20000 in
theorem pyX10_ringOf : PY MX10_ringOf := ⟨(gt_in (tch4 (List.mem_of_getElem? (i := 67) rfl)) rfl), (gt_in (tch1 (List.mem_of_getElem? (i := 1) rfl)) rfl), ⟨by decide, by decide⟩, rfl, by decide, (fun h => Bool.noConfusion h), by decide⟩
set_option maxRecDepth 20000 in
theorem pyX10_sing : PY MX10_sing := ⟨(gt_in (tch3 (List.mem_of_getElem? (i := 34) rfl)) rfl), (gt_in (tch1 (List.mem_of_getElem? (i := 1) rfl)) rfl), ⟨by decide, by decide⟩, rfl, by decide, (fun h => Bool.noConfusion h), by decide⟩
set_option maxRecDepth 20000 in
theorem pyX10_slip : PY MX10_slip := ⟨(gt_in (tch2 (List.mem_of_getElem? (i := 86) rfl)) rfl), (gt_in (tch1 (List.mem_of_getElem? (i := 1) rfl)) rfl), ⟨by decide, by decide⟩, rfl, by decide, (fun h => Bool.noConfusion h), by decide⟩
set_option maxRecDepth 20000 in
theorem pyX10_state : PY MX10_state := ⟨(gt_in (tch2 (List.mem_of_getElem? (i := 50) rfl)) rfl), (gt_in (tch1 (List.mem_of_getElem? (i := 1) rfl)) rfl), ⟨by decide, by decide⟩, rfl, by decide, (fun h => Bool.noConfusion h), by decide⟩
set_option maxRecDepth 20000 in
theorem pyX10_stool : PY MX10_stool := ⟨(gt_in (tch2 (List.mem_of_getElem? (i := 58) rfl)) rfl), (gt_in (tch1 (List.mem_of_getElem? (i := 1) rfl)) rfl), ⟨by decide, by decide⟩, rfl, by decide, (fun h => Bool.noConfusion h), by decide⟩
set_option maxRecDepth 20000 in
theorem pyX10_text : PY MX10_text := ⟨(gt_in (tch2 (List.mem_of_getElem? (i := 102) rfl)) rfl), (gt_in (tch1 (List.mem_of_getElem? (i := 1) rfl)) rfl), ⟨by decide, by decide⟩, rfl, by decide, (fun h => Bool.noConfusion h), by decide⟩
set_option maxRecDepth 20000 in
theorem pyX10_undo : PY MX10_undo := ⟨(gt_in (tch4 (List.mem_of_getElem? (i := 95) rfl)) rfl), (gt_in (tch1 (List.mem_of_getElem? (i := 1) rfl)) rfl), ⟨by decide, by decide⟩, rfl, by decide, (fun h => Bool.noConfusion h), by decide⟩
set_option maxRecDepth 20000 in
theorem pyX10_want : PY MX10_want := ⟨(gt_in (tch3 (List.mem_of_getElem? (i := 189) rfl)) rfl), (gt_in (tch1 (List.mem_of_getElem? (i := 1) rfl)) rfl), ⟨by decide, by decide⟩, rfl, by decide, (fun h => Bool.noConfusion h), by decide⟩
set_option maxRecDepth 20000 in
theorem pyX10_where : PY MX10_where := ⟨(gt_in (tch3 (List.mem_of_getElem? (i := 176) rfl)) rfl), (gt_in (tch1 (List.mem_of_getElem? (i := 1) rfl)) rfl), ⟨by decide, by decide⟩, rfl, by decide, (fun h => Bool.noConfusion h), by decide⟩
set_option maxRecDepth 20000 in
theorem pyX11_aMove : PY MX11_aMove := ⟨(gt_in (tch5 (List.mem_of_getElem? (i := 75) rfl)) rfl), (gt_in (tch1 (List.mem_of_getElem? (i := 12) rfl)) rfl), ⟨by decide, by decide⟩, rfl, by decide, (fun h => Bool.noConfusion h), by decide⟩
set_option maxRecDepth 20000 in
theorem pyX11_aTurn : PY MX11_aTurn := ⟨(gt_in (tch5 (List.mem_of_getElem? (i := 71) rfl)) rfl), (gt_in (tch1 (List.mem_of_getElem? (i := 12) rfl)) rfl), ⟨by decide, by decide⟩, rfl, by decide, (fun h => Bool.noConfusion h), by decide⟩
set_option maxRecDepth 20000 in
theorem pyX11_alike : PY MX11_alike := ⟨(gt_in (tch5 (List.mem_of_getElem? (i := 223) rfl)) rfl), (gt_in (tch1 (List.mem_of_getElem? (i := 12) rfl)) rfl), ⟨by decide, by decide⟩, rfl, by decide, (fun h => Bool.noConfusion h), by decide⟩
set_option maxRecDepth 20000 in
theorem pyX11_at : PY MX11_at := ⟨(gt_in (tch5 (List.mem_of_getElem? (i := 137) rfl)) rfl), (gt_in (tch1 (List.mem_of_getElem? (i := 12) rfl)) rfl), ⟨by decide, by decide⟩, rfl, by decide, (fun h => Bool.noConfusion h), by decide⟩
set_option maxRecDepth 20000 in
theorem pyX11_back : PY MX11_back := ⟨(gt_in (tch5 (List.mem_of_getElem? (i := 157) rfl)) rfl), (gt_in (tch1 (List.mem_of_getElem? (i := 12) rfl)) rfl), ⟨by decide, by decide⟩, rfl, by decide, (fun h => Bool.noConfusion h), by decide⟩
set_option maxRecDepth 20000 in
theorem pyX11_bad : PY MX11_bad := ⟨(gt_in (tch5 (List.mem_of_getElem? (i := 55) rfl)) rfl), (gt_in (tch1 (List.mem_of_getElem? (i := 12) rfl)) rfl), ⟨by decide, by decide⟩, rfl, by decide, (fun h => Bool.noConfusion h), by decide⟩
set_option maxRecDepth 20000 in
theorem pyX11_beats : PY MX11_beats := ⟨(gt_in (tch5 (List.mem_of_getElem? (i := 239) rfl)) rfl), (gt_in (tch1 (List.mem_of_getElem? (i := 12) rfl)) rfl), ⟨by decide, by decide⟩, rfl, by decide, (fun h => Bool.noConfusion h), by decide⟩
set_option maxRecDepth 20000 in
theorem pyX11_begins : PY MX11_begins := ⟨(gt_in (tch4 (List.mem_of_getElem? (i := 124) rfl)) rfl), (gt_in (tch1 (List.mem_of_getElem? (i := 12) rfl)) rfl), ⟨by decide, by decide⟩, rfl, by decide, (fun h => Bool.noConfusion h), by decide⟩
set_option maxRecDepth 20000 in
theorem pyX11_colour : PY MX11_colour := ⟨(gt_in (tch4 (List.mem_of_getElem? (i := 230) rfl)) rfl), (gt_in (tch1 (List.mem_of_getElem? (i := 12) rfl)) rfl), ⟨by decide, by decide⟩, rfl, by decide, (fun h => Bool.noConfusion h), by decide⟩
set_option maxRecDepth 20000 in
theorem pyX11_comes : PY MX11_comes := ⟨(gt_in (tch5 (List.mem_of_getElem? (i := 185) rfl)) rfl), (gt_in (tch1 (List.mem_of_getElem? (i := 12) rfl)) rfl), ⟨by decide, by decide⟩, rfl, by decide, (fun h => Bool.noConfusion h), by decide⟩
set_option maxRecDepth 20000 in
theorem pyX11_comesAgain : PY MX11_comesAgain := ⟨(gt_in (tch5 (List.mem_of_getElem? (i := 235) rfl)) rfl), (gt_in (tch1 (List.mem_of_getElem? (i := 12) rfl)) rfl), ⟨by decide, by decide⟩, rfl, by decide, (fun h => Bool.noConfusion h), by decide⟩
set_option maxRecDepth 20000 in
theorem pyX11_cut : PY MX11_cut := ⟨(gt_in (tch5 (List.mem_of_getElem? (i := 203) rfl)) rfl), (gt_in (tch1 (List.mem_of_getElem? (i := 12) rfl)) rfl), ⟨by decide, by decide⟩, rfl, by decide, (fun h => Bool.noConfusion h), by decide⟩
set_option maxRecDepth 20000 in
theorem pyX11_doCross : PY MX11_doCross := ⟨(gt_in (tch6 (List.mem_of_getElem? (i := 3) rfl)) rfl), (gt_in (tch1 (List.mem_of_getElem? (i := 12) rfl)) rfl), ⟨by decide, by decide⟩, rfl, by decide, (fun h => Bool.noConfusion h), by decide⟩
set_option maxRecDepth 20000 in
theorem pyX11_draw : PY MX11_draw := ⟨(gt_in (tch5 (List.mem_of_getElem? (i := 103) rfl)) rfl), (gt_in (tch1 (List.mem_of_getElem? (i := 12) rfl)) rfl), ⟨by decide, by decide⟩, rfl, by decide, (fun h => Bool.noConfusion h), by decide⟩
set_option maxRecDepth 20000 in
theorem pyX11_dropped : PY MX11_dropped := ⟨(gt_in (tch5 (List.mem_of_getElem? (i := 215) rfl)) rfl), (gt_in (tch1 (List.mem_of_getElem? (i := 12) rfl)) rfl), ⟨by decide, by decide⟩, rfl, by decide, (fun h => Bool.noConfusion h), by decide⟩
set_option maxRecDepth 20000 in
theorem pyX11_end : PY MX11_end := ⟨(gt_in (tch5 (List.mem_of_getElem? (i := 6) rfl)) rfl), (gt_in (tch1 (List.mem_of_getElem? (i := 12) rfl)) rfl), ⟨by decide, by decide⟩, rfl, by decide, (fun h => Bool.noConfusion h), by decide⟩
set_option maxRecDepth 20000 in
theorem pyX11_farOf : PY MX11_farOf := ⟨(gt_in (tch5 (List.mem_of_getElem? (i := 199) rfl)) rfl), (gt_in (tch1 (List.mem_of_getElem? (i := 12) rfl)) rfl), ⟨by decide, by decide⟩, rfl, by decide, (fun h => Bool.noConfusion h), by decide⟩
set_option maxRecDepth 20000 in
theorem pyX11_fault : PY MX11_fault := ⟨(gt_in (tch5 (List.mem_of_getElem? (i := 79) rfl)) rfl), (gt_in (tch1 (List.mem_of_getElem? (i := 12) rfl)) rfl), ⟨by decide, by decide⟩, rfl, by decide, (fun h => Bool.noConfusion h), by decide⟩
set_option maxRecDepth 20000 in
theorem pyX11_feed : PY MX11_feed := ⟨(gt_in (tch5 (List.mem_of_getElem? (i := 2) rfl)) rfl), (gt_in (tch1 (List.mem_of_getElem? (i := 12) rfl)) rfl), ⟨by decide, by decide⟩, rfl, by decide, (fun h => Bool.noConfusion h), by decide⟩
set_option maxRecDepth 20000 in
theorem pyX11_fewest : PY MX11_fewest := ⟨(gt_in (tch5 (List.mem_of_getElem? (i := 177) rfl)) rfl), (gt_in (tch1 (List.mem_of_getElem? (i := 12) rfl)) rfl), ⟨by decide, by decide⟩, rfl, by decide, (fun h => Bool.noConfusion h), by decide⟩
set_option maxRecDepth 20000 in
theorem pyX11_goesOver : PY MX11_goesOver := ⟨(gt_in (tch5 (List.mem_of_getElem? (i := 121) rfl)) rfl), (gt_in (tch1 (List.mem_of_getElem? (i := 12) rfl)) rfl), ⟨by decide, by decide⟩, rfl, by decide, (fun h => Bool.noConfusion h), by decide⟩
set_option maxRecDepth 20000 in
theorem pyX11_image : PY MX11_image := ⟨(gt_in (tch6 (List.mem_of_getElem? (i := 38) rfl)) rfl), (gt_in (tch1 (List.mem_of_getElem? (i := 12) rfl)) rfl), ⟨by decide, by decide⟩, rfl, by decide, (fun h => Bool.noConfusion h), by decide⟩
set_option maxRecDepth 20000 in
theorem pyX11_init : PY MX11_init := ⟨(gt_in (tch4 (List.mem_of_getElem? (i := 119) rfl)) rfl), (gt_in (tch1 (List.mem_of_getElem? (i := 12) rfl)) rfl), ⟨by decide, by decide⟩, rfl, by decide, (fun _ => rfl), by decide⟩
set_option maxRecDepth 20000 in
theorem pyX11_is : PY MX11_is := ⟨(gt_in (tch5 (List.mem_of_getElem? (i := 33) rfl)) rfl), (gt_in (tch1 (List.mem_of_getElem? (i := 12) rfl)) rfl), ⟨by decide, by decide⟩, rfl, by decide, (fun h => Bool.noConfusion h), by decide⟩
set_option maxRecDepth 20000 in
theorem pyX11_isAsNow : PY MX11_isAsNow := ⟨(gt_in (tch5 (List.mem_of_getElem? (i := 165) rfl)) rfl), (gt_in (tch1 (List.mem_of_getElem? (i := 12) rfl)) rfl), ⟨by decide, by decide⟩, rfl, by decide, (fun h => Bool.noConfusion h), by decide⟩
set_option maxRecDepth 20000 in
theorem pyX11_isDigit : PY MX11_isDigit := ⟨(gt_in (tch5 (List.mem_of_getElem? (i := 43) rfl)) rfl), (gt_in (tch1 (List.mem_of_getElem? (i := 12) rfl)) rfl), ⟨by decide, by decide⟩, rfl, by decide, (fun h => Bool.noConfusion h), by decide⟩
set_option maxRecDepth 20000 in
theorem pyX11_isFree : PY MX11_isFree := ⟨(gt_in (tch6 (List.mem_of_getElem? (i := 22) rfl)) rfl), (gt_in (tch1 (List.mem_of_getElem? (i := 12) rfl)) rfl), ⟨by decide, by decide⟩, rfl, by decide, (fun h => Bool.noConfusion h), by decide⟩
set_option maxRecDepth 20000 in
theorem pyX11_isIn : PY MX11_isIn := ⟨(gt_in (tch4 (List.mem_of_getElem? (i := 226) rfl)) rfl), (gt_in (tch1 (List.mem_of_getElem? (i := 12) rfl)) rfl), ⟨by decide, by decide⟩, rfl, by decide, (fun h => Bool.noConfusion h), by decide⟩
set_option maxRecDepth 20000 in
theorem pyX11_isLeast : PY MX11_isLeast := ⟨(gt_in (tch6 (List.mem_of_getElem? (i := 34) rfl)) rfl), (gt_in (tch1 (List.mem_of_getElem? (i := 12) rfl)) rfl), ⟨by decide, by decide⟩, rfl, by decide, (fun h => Bool.noConfusion h), by decide⟩
set_option maxRecDepth 20000 in
theorem pyX11_isLetter : PY MX11_isLetter := ⟨(gt_in (tch5 (List.mem_of_getElem? (i := 24) rfl)) rfl), (gt_in (tch1 (List.mem_of_getElem? (i := 12) rfl)) rfl), ⟨by decide, by decide⟩, rfl, by decide, (fun h => Bool.noConfusion h), by decide⟩
set_option maxRecDepth 20000 in
theorem pyX11_isSlot : PY MX11_isSlot := ⟨(gt_in (tch4 (List.mem_of_getElem? (i := 234) rfl)) rfl), (gt_in (tch1 (List.mem_of_getElem? (i := 12) rfl)) rfl), ⟨by decide, by decide⟩, rfl, by decide, (fun h => Bool.noConfusion h), by decide⟩
set_option maxRecDepth 20000 in
theorem pyX11_isSong : PY MX11_isSong := ⟨(gt_in (tch5 (List.mem_of_getElem? (i := 13) rfl)) rfl), (gt_in (tch1 (List.mem_of_getElem? (i := 12) rfl)) rfl), ⟨by decide, by decide⟩, rfl, by decide, (fun h => Bool.noConfusion h), by decide⟩
set_option maxRecDepth 20000 in
theorem pyX11_isWanted : PY MX11_isWanted := ⟨(gt_in (tch5 (List.mem_of_getElem? (i := 211) rfl)) rfl), (gt_in (tch1 (List.mem_of_getElem? (i := 12) rfl)) rfl), ⟨by decide, by decide⟩, rfl, by decide, (fun h => Bool.noConfusion h), by decide⟩
set_option maxRecDepth 20000 in
theorem pyX11_isWantedBehind : PY MX11_isWantedBehind := ⟨(gt_in (tch5 (List.mem_of_getElem? (i := 219) rfl)) rfl), (gt_in (tch1 (List.mem_of_getElem? (i := 12) rfl)) rfl), ⟨by decide, by decide⟩, rfl, by decide, (fun h => Bool.noConfusion h), by decide⟩
set_option maxRecDepth 20000 in
theorem pyX11_isWithin : PY MX11_isWithin := ⟨(gt_in (tch6 (List.mem_of_getElem? (i := 6) rfl)) rfl), (gt_in (tch1 (List.mem_of_getElem? (i := 12) rfl)) rfl), ⟨by decide, by decide⟩, rfl, by decide, (fun h => Bool.noConfusion h), by decide⟩
set_option maxRecDepth 20000 in
theorem pyX11_keeps : PY MX11_keeps := ⟨(gt_in (tch5 (List.mem_of_getElem? (i := 87) rfl)) rfl), (gt_in (tch1 (List.mem_of_getElem? (i := 12) rfl)) rfl), ⟨by decide, by decide⟩, rfl, by decide, (fun h => Bool.noConfusion h), by decide⟩
set_option maxRecDepth 20000 in
theorem pyX11_lay : PY MX11_lay := ⟨(gt_in (tch6 (List.mem_of_getElem? (i := 14) rfl)) rfl), (gt_in (tch1 (List.mem_of_getElem? (i := 12) rfl)) rfl), ⟨by decide, by decide⟩, rfl, by decide, (fun h => Bool.noConfusion h), by decide⟩
set_option maxRecDepth 20000 in
theorem pyX11_laysFar : PY MX11_laysFar := ⟨(gt_in (tch5 (List.mem_of_getElem? (i := 181) rfl)) rfl), (gt_in (tch1 (List.mem_of_getElem? (i := 12) rfl)) rfl), ⟨by decide, by decide⟩, rfl, by decide, (fun h => Bool.noConfusion h), by decide⟩
set_option maxRecDepth 20000 in
theorem pyX11_liftedOf : PY MX11_liftedOf := ⟨(gt_in (tch5 (List.mem_of_getElem? (i := 195) rfl)) rfl), (gt_in (tch1 (List.mem_of_getElem? (i := 12) rfl)) rfl), ⟨by decide, by decide⟩, rfl, by decide, (fun h => Bool.noConfusion h), by decide⟩
set_option maxRecDepth 20000 in
theorem pyX11_lifts : PY MX11_lifts := ⟨(gt_in (tch5 (List.mem_of_getElem? (i := 117) rfl)) rfl), (gt_in (tch1 (List.mem_of_getElem? (i := 12) rfl)) rfl), ⟨by decide, by decide⟩, rfl, by decide, (fun h => Bool.noConfusion h), by decide⟩
set_option maxRecDepth 20000 in
theorem pyX11_look : PY MX11_look := ⟨(gt_in (tch6 (List.mem_of_getElem? (i := 42) rfl)) rfl), (gt_in (tch1 (List.mem_of_getElem? (i := 12) rfl)) rfl), ⟨by decide, by decide⟩, rfl, by decide, (fun h => Bool.noConfusion h), by decide⟩
set_option maxRecDepth 20000 in
theorem pyX11_loops : PY MX11_loops := ⟨(gt_in (tch6 (List.mem_of_getElem? (i := 26) rfl)) rfl), (gt_in (tch1 (List.mem_of_getElem? (i := 12) rfl)) rfl), ⟨by decide, by decide⟩, rfl, by decide, (fun h => Bool.noConfusion h), by decide⟩
set_option maxRecDepth 20000 in
theorem pyX11_moves : PY MX11_moves := ⟨(gt_in (tch5 (List.mem_of_getElem? (i := 109) rfl)) rfl), (gt_in (tch1 (List.mem_of_getElem? (i := 12) rfl)) rfl), ⟨by decide, by decide⟩, rfl, by decide, (fun h => Bool.noConfusion h), by decide⟩
set_option maxRecDepth 20000 in
theorem pyX11_name : PY MX11_name := ⟨(gt_in (tch6 (List.mem_of_getElem? (i := 10) rfl)) rfl), (gt_in (tch1 (List.mem_of_getElem? (i := 12) rfl)) rfl), ⟨by decide, by decide⟩, rfl, by decide, (fun h => Bool.noConfusion h), by decide⟩
set_option maxRecDepth 20000 in
theorem pyX11_need : PY MX11_need := ⟨(gt_in (tch5 (List.mem_of_getElem? (i := 63) rfl)) rfl), (gt_in (tch1 (List.mem_of_getElem? (i := 12) rfl)) rfl), ⟨by decide, by decide⟩, rfl, by decide, (fun h => Bool.noConfusion h), by decide⟩
set_option maxRecDepth 20000 in
theorem pyX11_next0 : PY MX11_next0 := ⟨(gt_in (tch5 (List.mem_of_getElem? (i := 17) rfl)) rfl), (gt_in (tch1 (List.mem_of_getElem? (i := 12) rfl)) rfl), ⟨by decide, by decide⟩, rfl, by decide, (fun h => Bool.noConfusion h), by decide⟩
set_option maxRecDepth 20000 in
theorem pyX11_number : PY MX11_number := ⟨(gt_in (tch5 (List.mem_of_getElem? (i := 59) rfl)) rfl), (gt_in (tch1 (List.mem_of_getElem? (i := 12) rfl)) rfl), ⟨by decide, by decide⟩, rfl, by decide, (fun h => Bool.noConfusion h), by decide⟩
set_option maxRecDepth 20000 in
theorem pyX11_of : PY MX11_of := ⟨(gt_in (tch5 (List.mem_of_getElem? (i := 141) rfl)) rfl), (gt_in (tch1 (List.mem_of_getElem? (i := 12) rfl)) rfl), ⟨by decide, by decide⟩, rfl, by decide, (fun h => Bool.noConfusion h), by decide⟩
set_option maxRecDepth 20000 in
theorem pyX11_ofMove : PY MX11_ofMove := ⟨(gt_in (tch5 (List.mem_of_getElem? (i := 99) rfl)) rfl), (gt_in (tch1 (List.mem_of_getElem? (i := 12) rfl)) rfl), ⟨by decide, by decide⟩, rfl, by decide, (fun h => Bool.noConfusion h), by decide⟩
set_option maxRecDepth 20000 in
theorem pyX11_outside : PY MX11_outside := ⟨(gt_in (tch5 (List.mem_of_getElem? (i := 153) rfl)) rfl), (gt_in (tch1 (List.mem_of_getElem? (i := 12) rfl)) rfl), ⟨by decide, by decide⟩, rfl, by decide, (fun h => Bool.noConfusion h), by decide⟩
set_option maxRecDepth 20000 in
theorem pyX11_over : PY MX11_over := ⟨(gt_in (tch5 (List.mem_of_getElem? (i := 149) rfl)) rfl), (gt_in (tch1 (List.mem_of_getElem? (i := 12) rfl)) rfl), ⟨by decide, by decide⟩, rfl, by decide, (fun h => Bool.noConfusion h), by decide⟩
set_option maxRecDepth 20000 in
theorem pyX11_period : PY MX11_period := ⟨(gt_in (tch5 (List.mem_of_getElem? (i := 231) rfl)) rfl), (gt_in (tch1 (List.mem_of_getElem? (i := 12) rfl)) rfl), ⟨by decide, by decide⟩, rfl, by decide, (fun h => Bool.noConfusion h), by decide⟩
set_option maxRecDepth 20000 in
theorem pyX11_placeOf : PY MX11_placeOf := ⟨(gt_in (tch5 (List.mem_of_getElem? (i := 189) rfl)) rfl), (gt_in (tch1 (List.mem_of_getElem? (i := 12) rfl)) rfl), ⟨by decide, by decide⟩, rfl, by decide, (fun h => Bool.noConfusion h), by decide⟩
set_option maxRecDepth 20000 in
theorem pyX11_pulled : PY MX11_pulled := ⟨(gt_in (tch6 (List.mem_of_getElem? (i := 18) rfl)) rfl), (gt_in (tch1 (List.mem_of_getElem? (i := 12) rfl)) rfl), ⟨by decide, by decide⟩, rfl, by decide, (fun h => Bool.noConfusion h), by decide⟩
set_option maxRecDepth 20000 in
theorem pyX11_puts : PY MX11_puts := ⟨(gt_in (tch5 (List.mem_of_getElem? (i := 67) rfl)) rfl), (gt_in (tch1 (List.mem_of_getElem? (i := 12) rfl)) rfl), ⟨by decide, by decide⟩, rfl, by decide, (fun h => Bool.noConfusion h), by decide⟩
set_option maxRecDepth 20000 in
theorem pyX11_ring : PY MX11_ring := ⟨(gt_in (tch6 (List.mem_of_getElem? (i := 30) rfl)) rfl), (gt_in (tch1 (List.mem_of_getElem? (i := 12) rfl)) rfl), ⟨by decide, by decide⟩, rfl, by decide, (fun h => Bool.noConfusion h), by decide⟩
set_option maxRecDepth 20000 in
theorem pyX11_see : PY MX11_see := ⟨(gt_in (tch5 (List.mem_of_getElem? (i := 21) rfl)) rfl), (gt_in (tch1 (List.mem_of_getElem? (i := 12) rfl)) rfl), ⟨by decide, by decide⟩, rfl, by decide, (fun h => Bool.noConfusion h), by decide⟩
set_option maxRecDepth 20000 in
theorem pyX11_sing : PY MX11_sing := ⟨(gt_in (tch5 (List.mem_of_getElem? (i := 83) rfl)) rfl), (gt_in (tch1 (List.mem_of_getElem? (i := 12) rfl)) rfl), ⟨by decide, by decide⟩, rfl, by decide, (fun h => Bool.noConfusion h), by decide⟩
set_option maxRecDepth 20000 in
theorem pyX11_sings : PY MX11_sings := ⟨(gt_in (tch5 (List.mem_of_getElem? (i := 161) rfl)) rfl), (gt_in (tch1 (List.mem_of_getElem? (i := 12) rfl)) rfl), ⟨by decide, by decide⟩, rfl, by decide, (fun h => Bool.noConfusion h), by decide⟩
set_option maxRecDepth 20000 in
theorem pyX11_singsAlone : PY MX11_singsAlone := ⟨(gt_in (tch5 (List.mem_of_getElem? (i := 227) rfl)) rfl), (gt_in (tch1 (List.mem_of_getElem? (i := 12) rfl)) rfl), ⟨by decide, by decide⟩, rfl, by decide, (fun h => Bool.noConfusion h), by decide⟩
set_option maxRecDepth 20000 in
theorem pyX11_singsTruly : PY MX11_singsTruly := ⟨(gt_in (tch5 (List.mem_of_getElem? (i := 91) rfl)) rfl), (gt_in (tch1 (List.mem_of_getElem? (i := 12) rfl)) rfl), ⟨by decide, by decide⟩, rfl, by decide, (fun h => Bool.noConfusion h), by decide⟩
set_option maxRecDepth 20000 in
theorem pyX11_sitsAtFirst : PY MX11_sitsAtFirst := ⟨(gt_in (tch5 (List.mem_of_getElem? (i := 207) rfl)) rfl), (gt_in (tch1 (List.mem_of_getElem? (i := 12) rfl)) rfl), ⟨by decide, by decide⟩, rfl, by decide, (fun h => Bool.noConfusion h), by decide⟩
set_option maxRecDepth 20000 in
theorem pyX11_sitsNow : PY MX11_sitsNow := ⟨(gt_in (tch5 (List.mem_of_getElem? (i := 95) rfl)) rfl), (gt_in (tch1 (List.mem_of_getElem? (i := 12) rfl)) rfl), ⟨by decide, by decide⟩, rfl, by decide, (fun h => Bool.noConfusion h), by decide⟩
set_option maxRecDepth 20000 in
theorem pyX11_slip : PY MX11_slip := ⟨(gt_in (tch4 (List.mem_of_getElem? (i := 238) rfl)) rfl), (gt_in (tch1 (List.mem_of_getElem? (i := 12) rfl)) rfl), ⟨by decide, by decide⟩, rfl, by decide, (fun h => Bool.noConfusion h), by decide⟩
set_option maxRecDepth 20000 in
theorem pyX11_slotOf : PY MX11_slotOf := ⟨(gt_in (tch5 (List.mem_of_getElem? (i := 145) rfl)) rfl), (gt_in (tch1 (List.mem_of_getElem? (i := 12) rfl)) rfl), ⟨by decide, by decide⟩, rfl, by decide, (fun h => Bool.noConfusion h), by decide⟩
set_option maxRecDepth 20000 in
theorem pyX11_someSteps : PY MX11_someSteps := ⟨(gt_in (tch5 (List.mem_of_getElem? (i := 47) rfl)) rfl), (gt_in (tch1 (List.mem_of_getElem? (i := 12) rfl)) rfl), ⟨by decide, by decide⟩, rfl, by decide, (fun h => Bool.noConfusion h), by decide⟩
set_option maxRecDepth 20000 in
theorem pyX11_someTimes : PY MX11_someTimes := ⟨(gt_in (tch5 (List.mem_of_getElem? (i := 51) rfl)) rfl), (gt_in (tch1 (List.mem_of_getElem? (i := 12) rfl)) rfl), ⟨by decide, by decide⟩, rfl, by decide, (fun h => Bool.noConfusion h), by decide⟩
set_option maxRecDepth 20000 in
theorem pyX11_state : PY MX11_state := ⟨(gt_in (tch4 (List.mem_of_getElem? (i := 219) rfl)) rfl), (gt_in (tch1 (List.mem_of_getElem? (i := 12) rfl)) rfl), ⟨by decide, by decide⟩, rfl, by decide, (fun h => Bool.noConfusion h), by decide⟩
set_option maxRecDepth 20000 in
theorem pyX11_stool : PY MX11_stool := ⟨(gt_in (tch4 (List.mem_of_getElem? (i := 223) rfl)) rfl), (gt_in (tch1 (List.mem_of_getElem? (i := 12) rfl)) rfl), ⟨by decide, by decide⟩, rfl, by decide, (fun h => Bool.noConfusion h), by decide⟩
set_option maxRecDepth 20000 in
theorem pyX11_swaps : PY MX11_swaps := ⟨(gt_in (tch5 (List.mem_of_getElem? (i := 125) rfl)) rfl), (gt_in (tch1 (List.mem_of_getElem? (i := 12) rfl)) rfl), ⟨by decide, by decide⟩, rfl, by decide, (fun h => Bool.noConfusion h), by decide⟩
set_option maxRecDepth 20000 in
theorem pyX11_text : PY MX11_text := ⟨(gt_in (tch5 (List.mem_of_getElem? (i := 10) rfl)) rfl), (gt_in (tch1 (List.mem_of_getElem? (i := 12) rfl)) rfl), ⟨by decide, by decide⟩, rfl, by decide, (fun h => Bool.noConfusion h), by decide⟩
set_option maxRecDepth 20000 in
theorem pyX11_turns : PY MX11_turns := ⟨(gt_in (tch5 (List.mem_of_getElem? (i := 113) rfl)) rfl), (gt_in (tch1 (List.mem_of_getElem? (i := 12) rfl)) rfl), ⟨by decide, by decide⟩, rfl, by decide, (fun h => Bool.noConfusion h), by decide⟩
set_option maxRecDepth 20000 in
theorem pyX11_undo : PY MX11_undo := ⟨(gt_in (tch5 (List.mem_of_getElem? (i := 133) rfl)) rfl), (gt_in (tch1 (List.mem_of_getElem? (i := 12) rfl)) rfl), ⟨by decide, by decide⟩, rfl, by decide, (fun h => Bool.noConfusion h), by decide⟩
set_option maxRecDepth 20000 in
theorem pyX11_want : PY MX11_want := ⟨(gt_in (tch5 (List.mem_of_getElem? (i := 173) rfl)) rfl), (gt_in (tch1 (List.mem_of_getElem? (i := 12) rfl)) rfl), ⟨by decide, by decide⟩, rfl, by decide, (fun h => Bool.noConfusion h), by decide⟩
set_option maxRecDepth 20000 in
theorem pyX11_where : PY MX11_where := ⟨(gt_in (tch5 (List.mem_of_getElem? (i := 169) rfl)) rfl), (gt_in (tch1 (List.mem_of_getElem? (i := 12) rfl)) rfl), ⟨by decide, by decide⟩, rfl, by decide, (fun h => Bool.noConfusion h), by decide⟩
set_option maxRecDepth 20000 in
theorem pyX11_word : PY MX11_word := ⟨(gt_in (tch5 (List.mem_of_getElem? (i := 28) rfl)) rfl), (gt_in (tch1 (List.mem_of_getElem? (i := 12) rfl)) rfl), ⟨by decide, by decide⟩, rfl, by decide, (fun h => Bool.noConfusion h), by decide⟩
set_option maxRecDepth 20000 in
theorem pyX11_writes : PY MX11_writes := ⟨(gt_in (tch5 (List.mem_of_getElem? (i := 129) rfl)) rfl), (gt_in (tch1 (List.mem_of_getElem? (i := 12) rfl)) rfl), ⟨by decide, by decide⟩, rfl, by decide, (fun h => Bool.noConfusion h), by decide⟩
set_option maxRecDepth 20000 in
theorem pyJ6_bitCount_0f7a4 : PY MJ6_bitCount_0f7a4 := ⟨(gt_in (tch3 (List.mem_of_getElem? (i := 163) rfl)) rfl), (gt_in (tch1 (List.mem_of_getElem? (i := 20) rfl)) rfl), ⟨by decide, by decide⟩, rfl, by decide, (fun h => Bool.noConfusion h), by decide⟩
set_option maxRecDepth 20000 in
theorem pyJ7_fill_53178 : PY MJ7_fill_53178 := ⟨(gt_in (tch1 (List.mem_of_getElem? (i := 180) rfl)) rfl), (gt_in (tch1 (List.mem_of_getElem? (i := 8) rfl)) rfl), ⟨by decide, by decide⟩, rfl, by decide, (fun h => Bool.noConfusion h), by decide⟩
def PM (e : (Nat × Nat) × (Nat × Nat × Nat × Mth)) : Prop := match e.2.1 with
  | 0 => PY e.2.2.2.2 ∧ Cond.methodLink (clsN e.1.1) e.1.2 e.2.2.2.2.2.2.1 ∈ gt ∧ Cond.static e.2.2.2.2.2.2.1 ∈ gt ∧ (parseMethodDescriptor e.2.2.2.2.2.2.1.desc).map (fun d => d.parameters.length) = some e.2.2.1
  | 1 => PY e.2.2.2.2 ∧ Cond.methodLink (clsN e.1.1) e.1.2 e.2.2.2.2.2.2.1 ∈ gt ∧ Cond.instanceMethod e.2.2.2.2.2.2.1 ∈ gt ∧ Cond.selects e.2.2.2.2.2.2.1.cls e.2.2.2.2.2.2.1 e.2.2.2.2.2.2.1 ∈ gt ∧ (∃ c q, e.2.2.2.1 = 10 + c ∧ vwCl[c]? = some q ∧ q.1 = e.2.2.2.2.2.2.1.cls) ∧ (parseMethodDescriptor e.2.2.2.2.2.2.1.desc).map (fun d => d.parameters.length) = some e.2.2.1
  | 2 => PY e.2.2.2.2 ∧ Cond.methodLink (clsN e.1.1) e.1.2 e.2.2.2.2.2.2.1 ∈ gt ∧ Cond.instanceMethod e.2.2.2.2.2.2.1 ∈ gt ∧ e.2.2.2.2.2.2.1.name = "<init>" ∧ e.2.2.2.2.2.2.2.2.2 = none ∧ (parseMethodDescriptor e.2.2.2.2.2.2.1.desc).map (fun d => d.parameters.length) = some e.2.2.1
  | 3 => PY e.2.2.2.2 ∧ Cond.methodLinkNest (clsN e.1.1) e.1.2 e.2.2.2.2.2.2.1 "RoundStool" ∈ tables_1 ∧ Cond.instanceMethod e.2.2.2.2.2.2.1 ∈ gt ∧ e.2.2.2.2.2.2.1.name = "<init>" ∧ e.2.2.2.2.2.2.2.2.2 = none ∧ (parseMethodDescriptor e.2.2.2.2.2.2.1.desc).map (fun d => d.parameters.length) = some e.2.2.1
  | 10 => Cond.methodLink (clsN e.1.1) e.1.2 objectInit ∈ gt
  | 11 => Cond.methodLink (clsN e.1.1) e.1.2 Lib.Math.max.name ∈ gt
  | 12 => Cond.methodLink (clsN e.1.1) e.1.2 Lib.Math.min.name ∈ gt
  | 13 => Cond.methodLink (clsN e.1.1) e.1.2 arraycopyName ∈ gt
  | 14 => Cond.methodLink (clsN e.1.1) e.1.2 yJ0_length_8abf5 ∈ gt
  | 15 => Cond.methodLink (clsN e.1.1) e.1.2 yJ0_charAt_5068e ∈ gt
  | _ => True
set_option maxRecDepth 20000 in
theorem pm_0 : PM ((0, 3), (10, 0, 0, MX6_get)) := (gt_in (tch2 (List.mem_of_getElem? (i := 12) rfl)) rfl)
set_option maxRecDepth 20000 in
theorem pm_1 : PM ((0, 18), (0, 2, 0, MJ7_fill_53178)) := ⟨pyJ7_fill_53178, (gt_in (tch4 (List.mem_of_getElem? (i := 3) rfl)) rfl), (gt_in (tch1 (List.mem_of_getElem? (i := 179) rfl)) rfl), by decide +kernel⟩
set_option maxRecDepth 20000 in
theorem pm_2 : PM ((0, 33), (0, 1, 0, MX4_isTurn)) := ⟨pyX4_isTurn, (gt_in (tch4 (List.mem_of_getElem? (i := 4) rfl)) rfl), (gt_in (tch3 (List.mem_of_getElem? (i := 58) rfl)) rfl), by decide +kernel⟩
set_option maxRecDepth 20000 in
theorem pm_3 : PM ((0, 39), (1, 3, 10, MX0_earliest)) := ⟨pyX0_earliest, (gt_in (tch4 (List.mem_of_getElem? (i := 5) rfl)) rfl), (gt_in (tch4 (List.mem_of_getElem? (i := 7) rfl)) rfl), (gt_sel (List.mem_of_getElem? (i := 23) rfl) rfl), ⟨0, _, rfl, rfl, rfl⟩, by decide +kernel⟩
set_option maxRecDepth 20000 in
theorem pm_4 : PM ((0, 43), (11, 2, 0, MX6_get)) := (gt_in (tch4 (List.mem_of_getElem? (i := 17) rfl)) rfl)
set_option maxRecDepth 20000 in
theorem pm_5 : PM ((0, 49), (0, 2, 0, MX4_cross)) := ⟨pyX4_cross, (gt_in (tch4 (List.mem_of_getElem? (i := 9) rfl)) rfl), (gt_in (tch4 (List.mem_of_getElem? (i := 10) rfl)) rfl), by decide +kernel⟩
set_option maxRecDepth 20000 in
theorem pm_6 : PM ((1, 3), (10, 0, 0, MX6_get)) := (gt_in (tch1 (List.mem_of_getElem? (i := 143) rfl)) rfl)
set_option maxRecDepth 20000 in
theorem pm_7 : PM ((1, 9), (0, 1, 0, MX6_home)) := ⟨pyX6_home, (gt_in (tch1 (List.mem_of_getElem? (i := 144) rfl)) rfl), (gt_in (tch1 (List.mem_of_getElem? (i := 145) rfl)) rfl), by decide +kernel⟩
set_option maxRecDepth 20000 in
theorem pm_8 : PM ((1, 38), (0, 2, 0, MJ7_fill_53178)) := ⟨pyJ7_fill_53178, (gt_in (tch2 (List.mem_of_getElem? (i := 67) rfl)) rfl), (gt_in (tch1 (List.mem_of_getElem? (i := 179) rfl)) rfl), by decide +kernel⟩
set_option maxRecDepth 20000 in
theorem pm_9 : PM ((1, 44), (13, 5, 0, MX6_get)) := (gt_in (tch3 (List.mem_of_getElem? (i := 43) rfl)) rfl)
set_option maxRecDepth 20000 in
theorem pm_10 : PM ((1, 60), (1, 3, 11, MX1_make)) := ⟨pyX1_make, (gt_in (tch4 (List.mem_of_getElem? (i := 78) rfl)) rfl), (gt_in (tch3 (List.mem_of_getElem? (i := 70) rfl)) rfl), (gt_in (tch3 (List.mem_of_getElem? (i := 71) rfl)) rfl), ⟨1, _, rfl, rfl, rfl⟩, by decide +kernel⟩
set_option maxRecDepth 20000 in
theorem pm_11 : PM ((1, 64), (0, 1, 0, MX4_isTurn)) := ⟨pyX4_isTurn, (gt_in (tch3 (List.mem_of_getElem? (i := 73) rfl)) rfl), (gt_in (tch3 (List.mem_of_getElem? (i := 58) rfl)) rfl), by decide +kernel⟩
set_option maxRecDepth 20000 in
theorem pm_12 : PM ((1, 70), (0, 3, 0, MX4_findsColour)) := ⟨pyX4_findsColour, (gt_in (tch3 (List.mem_of_getElem? (i := 74) rfl)) rfl), (gt_in (tch3 (List.mem_of_getElem? (i := 75) rfl)) rfl), by decide +kernel⟩
set_option maxRecDepth 20000 in
theorem pm_13 : PM ((1, 74), (1, 1, 11, MX1_countOver)) := ⟨pyX1_countOver, (gt_in (tch3 (List.mem_of_getElem? (i := 82) rfl)) rfl), (gt_in (tch3 (List.mem_of_getElem? (i := 84) rfl)) rfl), (gt_sel (List.mem_of_getElem? (i := 19) rfl) rfl), ⟨1, _, rfl, rfl, rfl⟩, by decide +kernel⟩
set_option maxRecDepth 20000 in
theorem pm_14 : PM ((1, 78), (0, 1, 0, MX4_from)) := ⟨pyX4_from, (gt_in (tch3 (List.mem_of_getElem? (i := 86) rfl)) rfl), (gt_in (tch3 (List.mem_of_getElem? (i := 52) rfl)) rfl), by decide +kernel⟩
set_option maxRecDepth 20000 in
theorem pm_15 : PM ((1, 82), (0, 2, 0, MX6_get)) := ⟨pyX6_get, (gt_in (tch3 (List.mem_of_getElem? (i := 90) rfl)) rfl), (gt_in (tch3 (List.mem_of_getElem? (i := 55) rfl)) rfl), by decide +kernel⟩
set_option maxRecDepth 20000 in
theorem pm_16 : PM ((1, 86), (0, 4, 0, MX4_madeOn)) := ⟨pyX4_madeOn, (gt_in (tch3 (List.mem_of_getElem? (i := 96) rfl)) rfl), (gt_in (tch3 (List.mem_of_getElem? (i := 97) rfl)) rfl), by decide +kernel⟩
set_option maxRecDepth 20000 in
theorem pm_17 : PM ((1, 90), (0, 1, 0, MX4_to)) := ⟨pyX4_to, (gt_in (tch3 (List.mem_of_getElem? (i := 87) rfl)) rfl), (gt_in (tch3 (List.mem_of_getElem? (i := 88) rfl)) rfl), by decide +kernel⟩
set_option maxRecDepth 20000 in
theorem pm_18 : PM ((1, 93), (0, 1, 0, MX4_kind)) := ⟨pyX4_kind, (gt_in (tch3 (List.mem_of_getElem? (i := 91) rfl)) rfl), (gt_in (tch3 (List.mem_of_getElem? (i := 61) rfl)) rfl), by decide +kernel⟩
set_option maxRecDepth 20000 in
theorem pm_19 : PM ((1, 96), (12, 2, 0, MX6_get)) := (gt_in (tch3 (List.mem_of_getElem? (i := 92) rfl)) rfl)
set_option maxRecDepth 20000 in
theorem pm_20 : PM ((1, 102), (11, 2, 0, MX6_get)) := (gt_in (tch3 (List.mem_of_getElem? (i := 93) rfl)) rfl)
set_option maxRecDepth 20000 in
theorem pm_21 : PM ((1, 105), (1, 3, 11, MX1_isCovered)) := ⟨pyX1_isCovered, (gt_in (tch4 (List.mem_of_getElem? (i := 51) rfl)) rfl), (gt_in (tch4 (List.mem_of_getElem? (i := 53) rfl)) rfl), (gt_sel (List.mem_of_getElem? (i := 26) rfl) rfl), ⟨1, _, rfl, rfl, rfl⟩, by decide +kernel⟩
set_option maxRecDepth 20000 in
theorem pm_22 : PM ((1, 109), (1, 2, 11, MX1_timesOver)) := ⟨pyX1_timesOver, (gt_in (tch4 (List.mem_of_getElem? (i := 55) rfl)) rfl), (gt_in (tch3 (List.mem_of_getElem? (i := 134) rfl)) rfl), (gt_in (tch3 (List.mem_of_getElem? (i := 135) rfl)) rfl), ⟨1, _, rfl, rfl, rfl⟩, by decide +kernel⟩
set_option maxRecDepth 20000 in
theorem pm_23 : PM ((2, 3), (10, 0, 0, MX6_get)) := (gt_in (tch1 (List.mem_of_getElem? (i := 222) rfl)) rfl)
set_option maxRecDepth 20000 in
theorem pm_24 : PM ((2, 24), (3, 0, 0, MX1_init)) := ⟨pyX1_init, (tch1 (List.mem_of_getElem? (i := 225) rfl)), (gt_in (tch1 (List.mem_of_getElem? (i := 141) rfl)) rfl), rfl, rfl, by decide +kernel⟩
set_option maxRecDepth 20000 in
theorem pm_25 : PM ((2, 25), (1, 1, 11, MX1_copy)) := ⟨pyX1_copy, (gt_in (tch3 (List.mem_of_getElem? (i := 39) rfl)) rfl), (gt_in (tch3 (List.mem_of_getElem? (i := 40) rfl)) rfl), (gt_in (tch3 (List.mem_of_getElem? (i := 41) rfl)) rfl), ⟨1, _, rfl, rfl, rfl⟩, by decide +kernel⟩
set_option maxRecDepth 20000 in
theorem pm_26 : PM ((2, 29), (12, 2, 0, MX6_get)) := (gt_in (tch3 (List.mem_of_getElem? (i := 44) rfl)) rfl)
set_option maxRecDepth 20000 in
theorem pm_27 : PM ((3, 3), (10, 0, 0, MX6_get)) := (gt_in (tch2 (List.mem_of_getElem? (i := 2) rfl)) rfl)
set_option maxRecDepth 20000 in
theorem pm_28 : PM ((3, 15), (0, 3, 0, MX3_isSameColours)) := ⟨pyX3_isSameColours, (gt_in (tch3 (List.mem_of_getElem? (i := 198) rfl)) rfl), (gt_in (tch3 (List.mem_of_getElem? (i := 199) rfl)) rfl), by decide +kernel⟩
set_option maxRecDepth 20000 in
theorem pm_29 : PM ((3, 19), (1, 3, 13, MX3_longestCommon)) := ⟨pyX3_longestCommon, (gt_in (tch3 (List.mem_of_getElem? (i := 205) rfl)) rfl), (gt_in (tch3 (List.mem_of_getElem? (i := 207) rfl)) rfl), (gt_sel (List.mem_of_getElem? (i := 21) rfl) rfl), ⟨3, _, rfl, rfl, rfl⟩, by decide +kernel⟩
set_option maxRecDepth 20000 in
theorem pm_30 : PM ((3, 23), (0, 3, 0, MX6_lifted)) := ⟨pyX6_lifted, (gt_in (tch3 (List.mem_of_getElem? (i := 214) rfl)) rfl), (gt_in (tch3 (List.mem_of_getElem? (i := 106) rfl)) rfl), by decide +kernel⟩
set_option maxRecDepth 20000 in
theorem pm_31 : PM ((3, 29), (1, 3, 13, MX3_needed)) := ⟨pyX3_needed, (gt_in (tch3 (List.mem_of_getElem? (i := 215) rfl)) rfl), (gt_in (tch3 (List.mem_of_getElem? (i := 195) rfl)) rfl), (gt_in (tch3 (List.mem_of_getElem? (i := 196) rfl)) rfl), ⟨3, _, rfl, rfl, rfl⟩, by decide +kernel⟩
set_option maxRecDepth 20000 in
theorem pm_32 : PM ((3, 34), (0, 4, 0, MX4_packed)) := ⟨pyX4_packed, (gt_in (tch3 (List.mem_of_getElem? (i := 216) rfl)) rfl), (gt_in (tch2 (List.mem_of_getElem? (i := 234) rfl)) rfl), by decide +kernel⟩
set_option maxRecDepth 20000 in
theorem pm_33 : PM ((3, 38), (0, 3, 0, MX3_countOf)) := ⟨pyX3_countOf, (gt_in (tch3 (List.mem_of_getElem? (i := 201) rfl)) rfl), (gt_in (tch3 (List.mem_of_getElem? (i := 202) rfl)) rfl), by decide +kernel⟩
set_option maxRecDepth 20000 in
theorem pm_34 : PM ((3, 42), (0, 2, 0, MX6_get)) := ⟨pyX6_get, (gt_in (tch3 (List.mem_of_getElem? (i := 204) rfl)) rfl), (gt_in (tch3 (List.mem_of_getElem? (i := 55) rfl)) rfl), by decide +kernel⟩
set_option maxRecDepth 20000 in
theorem pm_35 : PM ((3, 46), (11, 2, 0, MX6_get)) := (gt_in (tch3 (List.mem_of_getElem? (i := 209) rfl)) rfl)
set_option maxRecDepth 20000 in
theorem pm_36 : PM ((4, 11), (0, 1, 0, MX4_from)) := ⟨pyX4_from, (gt_in (tch3 (List.mem_of_getElem? (i := 80) rfl)) rfl), (gt_in (tch3 (List.mem_of_getElem? (i := 52) rfl)) rfl), by decide +kernel⟩
set_option maxRecDepth 20000 in
theorem pm_37 : PM ((4, 15), (0, 1, 0, MX4_kind)) := ⟨pyX4_kind, (gt_in (tch3 (List.mem_of_getElem? (i := 60) rfl)) rfl), (gt_in (tch3 (List.mem_of_getElem? (i := 61) rfl)) rfl), by decide +kernel⟩
set_option maxRecDepth 20000 in
theorem pm_38 : PM ((4, 18), (0, 4, 0, MX4_packed)) := ⟨pyX4_packed, (gt_in (tch3 (List.mem_of_getElem? (i := 184) rfl)) rfl), (gt_in (tch2 (List.mem_of_getElem? (i := 234) rfl)) rfl), by decide +kernel⟩
set_option maxRecDepth 20000 in
theorem pm_39 : PM ((4, 22), (0, 1, 0, MX4_to)) := ⟨pyX4_to, (gt_in (tch3 (List.mem_of_getElem? (i := 104) rfl)) rfl), (gt_in (tch3 (List.mem_of_getElem? (i := 88) rfl)) rfl), by decide +kernel⟩
set_option maxRecDepth 20000 in
theorem pm_40 : PM ((4, 25), (0, 1, 0, MX4_asked)) := ⟨pyX4_asked, (gt_in (tch3 (List.mem_of_getElem? (i := 77) rfl)) rfl), (gt_in (tch3 (List.mem_of_getElem? (i := 78) rfl)) rfl), by decide +kernel⟩
set_option maxRecDepth 20000 in
theorem pm_41 : PM ((4, 28), (0, 2, 0, MX6_get)) := ⟨pyX6_get, (gt_in (tch3 (List.mem_of_getElem? (i := 81) rfl)) rfl), (gt_in (tch3 (List.mem_of_getElem? (i := 55) rfl)) rfl), by decide +kernel⟩
set_option maxRecDepth 20000 in
theorem pm_42 : PM ((4, 34), (0, 1, 0, MX4_isTurn)) := ⟨pyX4_isTurn, (gt_in (tch3 (List.mem_of_getElem? (i := 99) rfl)) rfl), (gt_in (tch3 (List.mem_of_getElem? (i := 58) rfl)) rfl), by decide +kernel⟩
set_option maxRecDepth 20000 in
theorem pm_43 : PM ((4, 38), (0, 3, 0, MX6_turned)) := ⟨pyX6_turned, (gt_in (tch3 (List.mem_of_getElem? (i := 100) rfl)) rfl), (gt_in (tch3 (List.mem_of_getElem? (i := 101) rfl)) rfl), by decide +kernel⟩
set_option maxRecDepth 20000 in
theorem pm_44 : PM ((4, 42), (0, 3, 0, MX4_findsColour)) := ⟨pyX4_findsColour, (gt_in (tch3 (List.mem_of_getElem? (i := 103) rfl)) rfl), (gt_in (tch3 (List.mem_of_getElem? (i := 75) rfl)) rfl), by decide +kernel⟩
set_option maxRecDepth 20000 in
theorem pm_45 : PM ((4, 46), (0, 3, 0, MX6_lifted)) := ⟨pyX6_lifted, (gt_in (tch3 (List.mem_of_getElem? (i := 105) rfl)) rfl), (gt_in (tch3 (List.mem_of_getElem? (i := 106) rfl)) rfl), by decide +kernel⟩
set_option maxRecDepth 20000 in
theorem pm_46 : PM ((4, 49), (0, 3, 0, MX6_swapped)) := ⟨pyX6_swapped, (gt_in (tch3 (List.mem_of_getElem? (i := 109) rfl)) rfl), (gt_in (tch3 (List.mem_of_getElem? (i := 110) rfl)) rfl), by decide +kernel⟩
set_option maxRecDepth 20000 in
theorem pm_47 : PM ((4, 52), (0, 3, 0, MX4_isBetween)) := ⟨pyX4_isBetween, (gt_in (tch4 (List.mem_of_getElem? (i := 12) rfl)) rfl), (gt_in (tch4 (List.mem_of_getElem? (i := 13) rfl)) rfl), by decide +kernel⟩
set_option maxRecDepth 20000 in
theorem pm_48 : PM ((4, 56), (12, 2, 0, MX6_get)) := (gt_in (tch4 (List.mem_of_getElem? (i := 15) rfl)) rfl)
set_option maxRecDepth 20000 in
theorem pm_49 : PM ((4, 62), (11, 2, 0, MX6_get)) := (gt_in (tch4 (List.mem_of_getElem? (i := 16) rfl)) rfl)
set_option maxRecDepth 20000 in
theorem pm_50 : PM ((5, 3), (10, 0, 0, MX6_get)) := (gt_in (tch1 (List.mem_of_getElem? (i := 34) rfl)) rfl)
set_option maxRecDepth 20000 in
theorem pm_51 : PM ((5, 20), (3, 0, 0, MX9_init)) := ⟨pyX9_init, (tch1 (List.mem_of_getElem? (i := 37) rfl)), (gt_in (tch1 (List.mem_of_getElem? (i := 38) rfl)) rfl), rfl, rfl, by decide +kernel⟩
set_option maxRecDepth 20000 in
theorem pm_52 : PM ((5, 27), (3, 0, 0, MX7_init)) := ⟨pyX7_init, (tch1 (List.mem_of_getElem? (i := 69) rfl)), (gt_in (tch1 (List.mem_of_getElem? (i := 70) rfl)) rfl), rfl, rfl, by decide +kernel⟩
set_option maxRecDepth 20000 in
theorem pm_53 : PM ((5, 58), (1, 0, 17, MX9_findTokens)) := ⟨pyX9_findTokens, (gt_in (tch2 (List.mem_of_getElem? (i := 114) rfl)) rfl), (gt_in (tch2 (List.mem_of_getElem? (i := 115) rfl)) rfl), (gt_in (tch2 (List.mem_of_getElem? (i := 116) rfl)) rfl), ⟨7, _, rfl, rfl, rfl⟩, by decide +kernel⟩
set_option maxRecDepth 20000 in
theorem pm_54 : PM ((5, 67), (1, 0, 14, MX5_take)) := ⟨pyX5_take, (gt_in (tch2 (List.mem_of_getElem? (i := 205) rfl)) rfl), (gt_in (tch2 (List.mem_of_getElem? (i := 207) rfl)) rfl), (gt_sel (List.mem_of_getElem? (i := 7) rfl) rfl), ⟨4, _, rfl, rfl, rfl⟩, by decide +kernel⟩
set_option maxRecDepth 20000 in
theorem pm_55 : PM ((5, 70), (1, 0, 14, MX5_readEnd)) := ⟨pyX5_readEnd, (gt_in (tch2 (List.mem_of_getElem? (i := 209) rfl)) rfl), (gt_in (tch2 (List.mem_of_getElem? (i := 211) rfl)) rfl), (gt_sel (List.mem_of_getElem? (i := 8) rfl) rfl), ⟨4, _, rfl, rfl, rfl⟩, by decide +kernel⟩
set_option maxRecDepth 20000 in
theorem pm_56 : PM ((5, 74), (1, 0, 14, MX5_readLift)) := ⟨pyX5_readLift, (gt_in (tch2 (List.mem_of_getElem? (i := 217) rfl)) rfl), (gt_in (tch2 (List.mem_of_getElem? (i := 219) rfl)) rfl), (gt_sel (List.mem_of_getElem? (i := 10) rfl) rfl), ⟨4, _, rfl, rfl, rfl⟩, by decide +kernel⟩
set_option maxRecDepth 20000 in
theorem pm_57 : PM ((5, 77), (1, 0, 14, MX5_readSwap)) := ⟨pyX5_readSwap, (gt_in (tch3 (List.mem_of_getElem? (i := 4) rfl)) rfl), (gt_in (tch3 (List.mem_of_getElem? (i := 6) rfl)) rfl), (gt_sel (List.mem_of_getElem? (i := 15) rfl) rfl), ⟨4, _, rfl, rfl, rfl⟩, by decide +kernel⟩
set_option maxRecDepth 20000 in
theorem pm_58 : PM ((5, 80), (1, 0, 14, MX5_readTurn)) := ⟨pyX5_readTurn, (gt_in (tch3 (List.mem_of_getElem? (i := 8) rfl)) rfl), (gt_in (tch3 (List.mem_of_getElem? (i := 10) rfl)) rfl), (gt_sel (List.mem_of_getElem? (i := 16) rfl) rfl), ⟨4, _, rfl, rfl, rfl⟩, by decide +kernel⟩
set_option maxRecDepth 20000 in
theorem pm_59 : PM ((5, 83), (1, 0, 14, MX5_readTimes)) := ⟨pyX5_readTimes, (gt_in (tch3 (List.mem_of_getElem? (i := 12) rfl)) rfl), (gt_in (tch3 (List.mem_of_getElem? (i := 14) rfl)) rfl), (gt_sel (List.mem_of_getElem? (i := 17) rfl) rfl), ⟨4, _, rfl, rfl, rfl⟩, by decide +kernel⟩
set_option maxRecDepth 20000 in
theorem pm_60 : PM ((5, 86), (1, 0, 14, MX5_readClosing)) := ⟨pyX5_readClosing, (gt_in (tch3 (List.mem_of_getElem? (i := 16) rfl)) rfl), (gt_in (tch3 (List.mem_of_getElem? (i := 18) rfl)) rfl), (gt_sel (List.mem_of_getElem? (i := 18) rfl) rfl), ⟨4, _, rfl, rfl, rfl⟩, by decide +kernel⟩
set_option maxRecDepth 20000 in
theorem pm_61 : PM ((5, 89), (1, 1, 14, MX5_fail)) := ⟨pyX5_fail, (gt_in (tch2 (List.mem_of_getElem? (i := 213) rfl)) rfl), (gt_in (tch2 (List.mem_of_getElem? (i := 215) rfl)) rfl), (gt_sel (List.mem_of_getElem? (i := 9) rfl) rfl), ⟨4, _, rfl, rfl, rfl⟩, by decide +kernel⟩
set_option maxRecDepth 20000 in
theorem pm_62 : PM ((5, 102), (1, 1, 14, MX5_readToken)) := ⟨pyX5_readToken, (gt_in (tch2 (List.mem_of_getElem? (i := 225) rfl)) rfl), (gt_in (tch2 (List.mem_of_getElem? (i := 227) rfl)) rfl), (gt_sel (List.mem_of_getElem? (i := 12) rfl) rfl), ⟨4, _, rfl, rfl, rfl⟩, by decide +kernel⟩
set_option maxRecDepth 20000 in
theorem pm_63 : PM ((5, 105), (1, 2, 14, MX5_readNumber)) := ⟨pyX5_readNumber, (gt_in (tch2 (List.mem_of_getElem? (i := 221) rfl)) rfl), (gt_in (tch2 (List.mem_of_getElem? (i := 223) rfl)) rfl), (gt_sel (List.mem_of_getElem? (i := 11) rfl) rfl), ⟨4, _, rfl, rfl, rfl⟩, by decide +kernel⟩
set_option maxRecDepth 20000 in
theorem pm_64 : PM ((5, 111), (1, 3, 14, MX5_readAsked)) := ⟨pyX5_readAsked, (gt_in (tch2 (List.mem_of_getElem? (i := 229) rfl)) rfl), (gt_in (tch2 (List.mem_of_getElem? (i := 231) rfl)) rfl), (gt_sel (List.mem_of_getElem? (i := 13) rfl) rfl), ⟨4, _, rfl, rfl, rfl⟩, by decide +kernel⟩
set_option maxRecDepth 20000 in
theorem pm_65 : PM ((5, 115), (0, 4, 0, MX4_packed)) := ⟨pyX4_packed, (gt_in (tch2 (List.mem_of_getElem? (i := 233) rfl)) rfl), (gt_in (tch2 (List.mem_of_getElem? (i := 234) rfl)) rfl), by decide +kernel⟩
set_option maxRecDepth 20000 in
theorem pm_66 : PM ((5, 119), (1, 1, 14, MX5_append)) := ⟨pyX5_append, (gt_in (tch2 (List.mem_of_getElem? (i := 236) rfl)) rfl), (gt_in (tch2 (List.mem_of_getElem? (i := 238) rfl)) rfl), (gt_sel (List.mem_of_getElem? (i := 14) rfl) rfl), ⟨4, _, rfl, rfl, rfl⟩, by decide +kernel⟩
set_option maxRecDepth 20000 in
theorem pm_67 : PM ((5, 126), (1, 1, 15, MX7_add)) := ⟨pyX7_add, (gt_in (tch3 (List.mem_of_getElem? (i := 0) rfl)) rfl), (gt_in (tch3 (List.mem_of_getElem? (i := 1) rfl)) rfl), (gt_in (tch3 (List.mem_of_getElem? (i := 2) rfl)) rfl), ⟨5, _, rfl, rfl, rfl⟩, by decide +kernel⟩
set_option maxRecDepth 20000 in
theorem pm_68 : PM ((6, 13), (0, 1, 0, MX6_lowest)) := ⟨pyX6_lowest, (gt_in (tch1 (List.mem_of_getElem? (i := 148) rfl)) rfl), (gt_in (tch1 (List.mem_of_getElem? (i := 149) rfl)) rfl), by decide +kernel⟩
set_option maxRecDepth 20000 in
theorem pm_69 : PM ((6, 21), (0, 2, 0, MX6_get)) := ⟨pyX6_get, (gt_in (tch3 (List.mem_of_getElem? (i := 108) rfl)) rfl), (gt_in (tch3 (List.mem_of_getElem? (i := 55) rfl)) rfl), by decide +kernel⟩
set_option maxRecDepth 20000 in
theorem pm_70 : PM ((6, 25), (0, 3, 0, MX6_with)) := ⟨pyX6_with, (gt_in (tch3 (List.mem_of_getElem? (i := 112) rfl)) rfl), (gt_in (tch2 (List.mem_of_getElem? (i := 80) rfl)) rfl), by decide +kernel⟩
set_option maxRecDepth 20000 in
theorem pm_71 : PM ((7, 3), (10, 0, 0, MX6_get)) := (gt_in (tch1 (List.mem_of_getElem? (i := 72) rfl)) rfl)
set_option maxRecDepth 20000 in
theorem pm_72 : PM ((7, 19), (13, 5, 0, MX6_get)) := (gt_in (tch3 (List.mem_of_getElem? (i := 24) rfl)) rfl)
set_option maxRecDepth 20000 in
theorem pm_73 : PM ((7, 25), (0, 1, 0, MX4_isTurn)) := ⟨pyX4_isTurn, (gt_in (tch3 (List.mem_of_getElem? (i := 157) rfl)) rfl), (gt_in (tch3 (List.mem_of_getElem? (i := 58) rfl)) rfl), by decide +kernel⟩
set_option maxRecDepth 20000 in
theorem pm_74 : PM ((7, 31), (0, 1, 0, MX4_from)) := ⟨pyX4_from, (gt_in (tch3 (List.mem_of_getElem? (i := 158) rfl)) rfl), (gt_in (tch3 (List.mem_of_getElem? (i := 52) rfl)) rfl), by decide +kernel⟩
set_option maxRecDepth 20000 in
theorem pm_75 : PM ((7, 35), (0, 2, 0, MX6_get)) := ⟨pyX6_get, (gt_in (tch3 (List.mem_of_getElem? (i := 159) rfl)) rfl), (gt_in (tch3 (List.mem_of_getElem? (i := 55) rfl)) rfl), by decide +kernel⟩
set_option maxRecDepth 20000 in
theorem pm_76 : PM ((7, 41), (0, 4, 0, MX4_madeOn)) := ⟨pyX4_madeOn, (gt_in (tch3 (List.mem_of_getElem? (i := 160) rfl)) rfl), (gt_in (tch3 (List.mem_of_getElem? (i := 97) rfl)) rfl), by decide +kernel⟩
set_option maxRecDepth 20000 in
theorem pm_77 : PM ((7, 45), (0, 2, 0, MX4_mirrored)) := ⟨pyX4_mirrored, (gt_in (tch3 (List.mem_of_getElem? (i := 181) rfl)) rfl), (gt_in (tch3 (List.mem_of_getElem? (i := 182) rfl)) rfl), by decide +kernel⟩
set_option maxRecDepth 20000 in
theorem pm_78 : PM ((7, 49), (1, 4, 15, MX7_sungFrom)) := ⟨pyX7_sungFrom, (gt_in (tch3 (List.mem_of_getElem? (i := 153) rfl)) rfl), (gt_in (tch3 (List.mem_of_getElem? (i := 154) rfl)) rfl), (gt_in (tch3 (List.mem_of_getElem? (i := 155) rfl)) rfl), ⟨5, _, rfl, rfl, rfl⟩, by decide +kernel⟩
set_option maxRecDepth 20000 in
theorem pm_79 : PM ((7, 53), (0, 1, 0, MJ6_bitCount_0f7a4)) := ⟨pyJ6_bitCount_0f7a4, (gt_in (tch3 (List.mem_of_getElem? (i := 161) rfl)) rfl), (gt_in (tch3 (List.mem_of_getElem? (i := 162) rfl)) rfl), by decide +kernel⟩
set_option maxRecDepth 20000 in
theorem pm_80 : PM ((8, 3), (10, 0, 0, MX6_get)) := (gt_in (tch1 (List.mem_of_getElem? (i := 135) rfl)) rfl)
set_option maxRecDepth 20000 in
theorem pm_81 : PM ((8, 37), (3, 0, 0, MX1_init)) := ⟨pyX1_init, (tch1 (List.mem_of_getElem? (i := 140) rfl)), (gt_in (tch1 (List.mem_of_getElem? (i := 141) rfl)) rfl), rfl, rfl, by decide +kernel⟩
set_option maxRecDepth 20000 in
theorem pm_82 : PM ((8, 48), (0, 2, 0, MJ7_fill_53178)) := ⟨pyJ7_fill_53178, (gt_in (tch1 (List.mem_of_getElem? (i := 178) rfl)) rfl), (gt_in (tch1 (List.mem_of_getElem? (i := 179) rfl)) rfl), by decide +kernel⟩
set_option maxRecDepth 20000 in
theorem pm_83 : PM ((8, 54), (3, 0, 0, MX7_init)) := ⟨pyX7_init, (tch1 (List.mem_of_getElem? (i := 181) rfl)), (gt_in (tch1 (List.mem_of_getElem? (i := 70) rfl)) rfl), rfl, rfl, by decide +kernel⟩
set_option maxRecDepth 20000 in
theorem pm_84 : PM ((8, 58), (1, 1, 11, MX1_startAnew)) := ⟨pyX1_startAnew, (gt_in (tch2 (List.mem_of_getElem? (i := 63) rfl)) rfl), (gt_in (tch2 (List.mem_of_getElem? (i := 64) rfl)) rfl), (gt_in (tch2 (List.mem_of_getElem? (i := 65) rfl)) rfl), ⟨1, _, rfl, rfl, rfl⟩, by decide +kernel⟩
set_option maxRecDepth 20000 in
theorem pm_85 : PM ((8, 62), (13, 5, 0, MX6_get)) := (gt_in (tch4 (List.mem_of_getElem? (i := 108) rfl)) rfl)
set_option maxRecDepth 20000 in
theorem pm_86 : PM ((8, 68), (1, 1, 15, MX7_copy)) := ⟨pyX7_copy, (gt_in (tch4 (List.mem_of_getElem? (i := 109) rfl)) rfl), (gt_in (tch3 (List.mem_of_getElem? (i := 21) rfl)) rfl), (gt_in (tch3 (List.mem_of_getElem? (i := 22) rfl)) rfl), ⟨5, _, rfl, rfl, rfl⟩, by decide +kernel⟩
set_option maxRecDepth 20000 in
theorem pm_87 : PM ((8, 72), (1, 1, 11, MX1_copy)) := ⟨pyX1_copy, (gt_in (tch4 (List.mem_of_getElem? (i := 110) rfl)) rfl), (gt_in (tch3 (List.mem_of_getElem? (i := 40) rfl)) rfl), (gt_in (tch3 (List.mem_of_getElem? (i := 41) rfl)) rfl), ⟨1, _, rfl, rfl, rfl⟩, by decide +kernel⟩
set_option maxRecDepth 20000 in
theorem pm_88 : PM ((8, 75), (0, 2, 0, MX6_get)) := ⟨pyX6_get, (gt_in (tch3 (List.mem_of_getElem? (i := 54) rfl)) rfl), (gt_in (tch3 (List.mem_of_getElem? (i := 55) rfl)) rfl), by decide +kernel⟩
set_option maxRecDepth 20000 in
theorem pm_89 : PM ((8, 81), (0, 3, 0, MX6_with)) := ⟨pyX6_with, (gt_in (tch3 (List.mem_of_getElem? (i := 171) rfl)) rfl), (gt_in (tch2 (List.mem_of_getElem? (i := 80) rfl)) rfl), by decide +kernel⟩
set_option maxRecDepth 20000 in
theorem pm_90 : PM ((8, 91), (0, 1, 0, MX4_from)) := ⟨pyX4_from, (gt_in (tch3 (List.mem_of_getElem? (i := 51) rfl)) rfl), (gt_in (tch3 (List.mem_of_getElem? (i := 52) rfl)) rfl), by decide +kernel⟩
set_option maxRecDepth 20000 in
theorem pm_91 : PM ((8, 97), (0, 1, 0, MX4_isTurn)) := ⟨pyX4_isTurn, (gt_in (tch3 (List.mem_of_getElem? (i := 57) rfl)) rfl), (gt_in (tch3 (List.mem_of_getElem? (i := 58) rfl)) rfl), by decide +kernel⟩
set_option maxRecDepth 20000 in
theorem pm_92 : PM ((8, 101), (1, 1, 11, MX1_draw)) := ⟨pyX1_draw, (gt_in (tch3 (List.mem_of_getElem? (i := 63) rfl)) rfl), (gt_in (tch3 (List.mem_of_getElem? (i := 64) rfl)) rfl), (gt_in (tch3 (List.mem_of_getElem? (i := 65) rfl)) rfl), ⟨1, _, rfl, rfl, rfl⟩, by decide +kernel⟩
set_option maxRecDepth 20000 in
theorem pm_93 : PM ((8, 104), (1, 3, 11, MX1_make)) := ⟨pyX1_make, (gt_in (tch3 (List.mem_of_getElem? (i := 69) rfl)) rfl), (gt_in (tch3 (List.mem_of_getElem? (i := 70) rfl)) rfl), (gt_in (tch3 (List.mem_of_getElem? (i := 71) rfl)) rfl), ⟨1, _, rfl, rfl, rfl⟩, by decide +kernel⟩
set_option maxRecDepth 20000 in
theorem pm_94 : PM ((8, 108), (1, 1, 16, MX8_addRow)) := ⟨pyX8_addRow, (gt_in (tch3 (List.mem_of_getElem? (i := 113) rfl)) rfl), (gt_in (tch3 (List.mem_of_getElem? (i := 115) rfl)) rfl), (gt_sel (List.mem_of_getElem? (i := 20) rfl) rfl), ⟨6, _, rfl, rfl, rfl⟩, by decide +kernel⟩
set_option maxRecDepth 20000 in
theorem pm_95 : PM ((8, 114), (1, 2, 16, MX8_rowPart)) := ⟨pyX8_rowPart, (gt_in (tch4 (List.mem_of_getElem? (i := 91) rfl)) rfl), (gt_in (tch3 (List.mem_of_getElem? (i := 142) rfl)) rfl), (gt_in (tch3 (List.mem_of_getElem? (i := 143) rfl)) rfl), ⟨6, _, rfl, rfl, rfl⟩, by decide +kernel⟩
set_option maxRecDepth 20000 in
theorem pm_96 : PM ((8, 118), (1, 1, 16, MX8_layRows)) := ⟨pyX8_layRows, (gt_in (tch4 (List.mem_of_getElem? (i := 30) rfl)) rfl), (gt_in (tch4 (List.mem_of_getElem? (i := 32) rfl)) rfl), (gt_sel (List.mem_of_getElem? (i := 24) rfl) rfl), ⟨6, _, rfl, rfl, rfl⟩, by decide +kernel⟩
set_option maxRecDepth 20000 in
theorem pm_97 : PM ((8, 122), (1, 1, 16, MX8_countUnlike)) := ⟨pyX8_countUnlike, (gt_in (tch4 (List.mem_of_getElem? (i := 39) rfl)) rfl), (gt_in (tch4 (List.mem_of_getElem? (i := 41) rfl)) rfl), (gt_sel (List.mem_of_getElem? (i := 25) rfl) rfl), ⟨6, _, rfl, rfl, rfl⟩, by decide +kernel⟩
set_option maxRecDepth 20000 in
theorem pm_98 : PM ((8, 126), (0, 1, 0, MX6_home)) := ⟨pyX6_home, (gt_in (tch4 (List.mem_of_getElem? (i := 34) rfl)) rfl), (gt_in (tch1 (List.mem_of_getElem? (i := 145) rfl)) rfl), by decide +kernel⟩
set_option maxRecDepth 20000 in
theorem pm_99 : PM ((8, 130), (0, 1, 0, MX4_withoutAsking)) := ⟨pyX4_withoutAsking, (gt_in (tch4 (List.mem_of_getElem? (i := 35) rfl)) rfl), (gt_in (tch4 (List.mem_of_getElem? (i := 36) rfl)) rfl), by decide +kernel⟩
set_option maxRecDepth 20000 in
theorem pm_100 : PM ((8, 133), (0, 4, 0, MX4_madeOn)) := ⟨pyX4_madeOn, (gt_in (tch4 (List.mem_of_getElem? (i := 38) rfl)) rfl), (gt_in (tch3 (List.mem_of_getElem? (i := 97) rfl)) rfl), by decide +kernel⟩
set_option maxRecDepth 20000 in
theorem pm_101 : PM ((9, 3), (10, 0, 0, MX6_get)) := (gt_in (tch1 (List.mem_of_getElem? (i := 40) rfl)) rfl)
set_option maxRecDepth 20000 in
theorem pm_102 : PM ((9, 32), (1, 1, 17, MX9_endOfRun)) := ⟨pyX9_endOfRun, (gt_in (tch2 (List.mem_of_getElem? (i := 118) rfl)) rfl), (gt_in (tch2 (List.mem_of_getElem? (i := 120) rfl)) rfl), (gt_sel (List.mem_of_getElem? (i := 1) rfl) rfl), ⟨7, _, rfl, rfl, rfl⟩, by decide +kernel⟩
set_option maxRecDepth 20000 in
theorem pm_103 : PM ((9, 36), (0, 1, 0, MX9_isBlank)) := ⟨pyX9_isBlank, (gt_in (tch2 (List.mem_of_getElem? (i := 128) rfl)) rfl), (gt_in (tch2 (List.mem_of_getElem? (i := 129) rfl)) rfl), by decide +kernel⟩
set_option maxRecDepth 20000 in
theorem pm_104 : PM ((9, 40), (1, 2, 17, MX9_kindOfRun)) := ⟨pyX9_kindOfRun, (gt_in (tch2 (List.mem_of_getElem? (i := 131) rfl)) rfl), (gt_in (tch2 (List.mem_of_getElem? (i := 133) rfl)) rfl), (gt_sel (List.mem_of_getElem? (i := 2) rfl) rfl), ⟨7, _, rfl, rfl, rfl⟩, by decide +kernel⟩
set_option maxRecDepth 20000 in
theorem pm_105 : PM ((9, 44), (1, 2, 17, MX9_numberOfRun)) := ⟨pyX9_numberOfRun, (gt_in (tch2 (List.mem_of_getElem? (i := 197) rfl)) rfl), (gt_in (tch2 (List.mem_of_getElem? (i := 199) rfl)) rfl), (gt_sel (List.mem_of_getElem? (i := 5) rfl) rfl), ⟨7, _, rfl, rfl, rfl⟩, by decide +kernel⟩
set_option maxRecDepth 20000 in
theorem pm_106 : PM ((9, 47), (1, 3, 17, MX9_addToken)) := ⟨pyX9_addToken, (gt_in (tch2 (List.mem_of_getElem? (i := 201) rfl)) rfl), (gt_in (tch2 (List.mem_of_getElem? (i := 203) rfl)) rfl), (gt_sel (List.mem_of_getElem? (i := 6) rfl) rfl), ⟨7, _, rfl, rfl, rfl⟩, by decide +kernel⟩
set_option maxRecDepth 20000 in
theorem pm_107 : PM ((9, 51), (0, 1, 0, MX9_isLetter)) := ⟨pyX9_isLetter, (gt_in (tch2 (List.mem_of_getElem? (i := 122) rfl)) rfl), (gt_in (tch2 (List.mem_of_getElem? (i := 123) rfl)) rfl), by decide +kernel⟩
set_option maxRecDepth 20000 in
theorem pm_108 : PM ((9, 54), (0, 1, 0, MX9_isDigit)) := ⟨pyX9_isDigit, (gt_in (tch2 (List.mem_of_getElem? (i := 125) rfl)) rfl), (gt_in (tch2 (List.mem_of_getElem? (i := 126) rfl)) rfl), by decide +kernel⟩
set_option maxRecDepth 20000 in
theorem pm_109 : PM ((9, 57), (1, 2, 17, MX9_kindOfWord)) := ⟨pyX9_kindOfWord, (gt_in (tch2 (List.mem_of_getElem? (i := 135) rfl)) rfl), (gt_in (tch2 (List.mem_of_getElem? (i := 137) rfl)) rfl), (gt_sel (List.mem_of_getElem? (i := 3) rfl) rfl), ⟨7, _, rfl, rfl, rfl⟩, by decide +kernel⟩
set_option maxRecDepth 20000 in
theorem pm_110 : PM ((9, 62), (1, 3, 17, MX9_isWord)) := ⟨pyX9_isWord, (gt_in (tch2 (List.mem_of_getElem? (i := 140) rfl)) rfl), (gt_in (tch2 (List.mem_of_getElem? (i := 142) rfl)) rfl), (gt_sel (List.mem_of_getElem? (i := 4) rfl) rfl), ⟨7, _, rfl, rfl, rfl⟩, by decide +kernel⟩
set_option maxRecDepth 20000 in
theorem pm_111 : PM ((9, 76), (14, 0, 0, MX6_get)) := (gt_in (tch2 (List.mem_of_getElem? (i := 144) rfl)) rfl)
set_option maxRecDepth 20000 in
theorem pm_112 : PM ((9, 81), (15, 1, 0, MX6_get)) := (gt_in (tch2 (List.mem_of_getElem? (i := 154) rfl)) rfl)
set_option maxRecDepth 20000 in
theorem pm_113 : PM ((10, 1), (10, 0, 0, MX6_get)) := (gt_in (tch1 (List.mem_of_getElem? (i := 26) rfl)) rfl)
set_option maxRecDepth 20000 in
theorem pm_114 : PM ((10, 9), (3, 0, 0, MX5_init)) := ⟨pyX5_init, (tch1 (List.mem_of_getElem? (i := 31) rfl)), (gt_in (tch1 (List.mem_of_getElem? (i := 32) rfl)) rfl), rfl, rfl, by decide +kernel⟩
set_option maxRecDepth 20000 in
theorem pm_115 : PM ((10, 18), (2, 0, 0, MX8_init)) := ⟨pyX8_init, (gt_in (tch1 (List.mem_of_getElem? (i := 132) rfl)) rfl), (gt_in (tch1 (List.mem_of_getElem? (i := 133) rfl)) rfl), rfl, rfl, by decide +kernel⟩
set_option maxRecDepth 20000 in
theorem pm_116 : PM ((10, 25), (2, 0, 0, MX2_init)) := ⟨pyX2_init, (gt_in (tch1 (List.mem_of_getElem? (i := 219) rfl)) rfl), (gt_in (tch1 (List.mem_of_getElem? (i := 220) rfl)) rfl), rfl, rfl, by decide +kernel⟩
set_option maxRecDepth 20000 in
theorem pm_117 : PM ((10, 32), (3, 0, 0, MX3_init)) := ⟨pyX3_init, (tch1 (List.mem_of_getElem? (i := 239) rfl)), (gt_in (tch2 (List.mem_of_getElem? (i := 0) rfl)) rfl), rfl, rfl, by decide +kernel⟩
set_option maxRecDepth 20000 in
theorem pm_118 : PM ((10, 39), (3, 0, 0, MX0_init)) := ⟨pyX0_init, (tch2 (List.mem_of_getElem? (i := 9) rfl)), (gt_in (tch2 (List.mem_of_getElem? (i := 10) rfl)) rfl), rfl, rfl, by decide +kernel⟩
set_option maxRecDepth 20000 in
theorem pm_119 : PM ((10, 46), (3, 0, 0, MX1_init)) := ⟨pyX1_init, (tch2 (List.mem_of_getElem? (i := 21) rfl)), (gt_in (tch1 (List.mem_of_getElem? (i := 141) rfl)) rfl), rfl, rfl, by decide +kernel⟩
set_option maxRecDepth 20000 in
theorem pm_120 : PM ((10, 64), (1, 0, 12, MX2_forget)) := ⟨pyX2_forget, (gt_in (tch2 (List.mem_of_getElem? (i := 51) rfl)) rfl), (gt_in (tch2 (List.mem_of_getElem? (i := 52) rfl)) rfl), (gt_in (tch2 (List.mem_of_getElem? (i := 53) rfl)) rfl), ⟨2, _, rfl, rfl, rfl⟩, by decide +kernel⟩
set_option maxRecDepth 20000 in
theorem pm_121 : PM ((10, 67), (1, 1, 16, MX8_startAnew)) := ⟨pyX8_startAnew, (gt_in (tch2 (List.mem_of_getElem? (i := 59) rfl)) rfl), (gt_in (tch2 (List.mem_of_getElem? (i := 60) rfl)) rfl), (gt_in (tch2 (List.mem_of_getElem? (i := 61) rfl)) rfl), ⟨6, _, rfl, rfl, rfl⟩, by decide +kernel⟩
set_option maxRecDepth 20000 in
theorem pm_122 : PM ((10, 71), (1, 1, 18, MX10_isSlot)) := ⟨pyX10_isSlot, (gt_in (tch2 (List.mem_of_getElem? (i := 72) rfl)) rfl), (gt_in (tch2 (List.mem_of_getElem? (i := 74) rfl)) rfl), (gt_sel (List.mem_of_getElem? (i := 0) rfl) rfl), ⟨8, _, rfl, rfl, rfl⟩, by decide +kernel⟩
set_option maxRecDepth 20000 in
theorem pm_123 : PM ((10, 75), (0, 1, 0, MX10_isColour)) := ⟨pyX10_isColour, (gt_in (tch2 (List.mem_of_getElem? (i := 76) rfl)) rfl), (gt_in (tch2 (List.mem_of_getElem? (i := 77) rfl)) rfl), by decide +kernel⟩
set_option maxRecDepth 20000 in
theorem pm_124 : PM ((10, 82), (0, 3, 0, MX6_with)) := ⟨pyX6_with, (gt_in (tch2 (List.mem_of_getElem? (i := 79) rfl)) rfl), (gt_in (tch2 (List.mem_of_getElem? (i := 80) rfl)) rfl), by decide +kernel⟩
set_option maxRecDepth 20000 in
theorem pm_125 : PM ((10, 100), (1, 1, 17, MX9_add)) := ⟨pyX9_add, (gt_in (tch2 (List.mem_of_getElem? (i := 91) rfl)) rfl), (gt_in (tch2 (List.mem_of_getElem? (i := 92) rfl)) rfl), (gt_in (tch2 (List.mem_of_getElem? (i := 93) rfl)) rfl), ⟨7, _, rfl, rfl, rfl⟩, by decide +kernel⟩
set_option maxRecDepth 20000 in
theorem pm_126 : PM ((10, 103), (1, 0, 14, MX5_forgetFault)) := ⟨pyX5_forgetFault, (gt_in (tch2 (List.mem_of_getElem? (i := 103) rfl)) rfl), (gt_in (tch2 (List.mem_of_getElem? (i := 104) rfl)) rfl), (gt_in (tch2 (List.mem_of_getElem? (i := 105) rfl)) rfl), ⟨4, _, rfl, rfl, rfl⟩, by decide +kernel⟩
set_option maxRecDepth 20000 in
theorem pm_127 : PM ((10, 106), (0, 1, 0, MX10_isSong)) := ⟨pyX10_isSong, (gt_in (tch2 (List.mem_of_getElem? (i := 107) rfl)) rfl), (gt_in (tch2 (List.mem_of_getElem? (i := 108) rfl)) rfl), by decide +kernel⟩
set_option maxRecDepth 20000 in
theorem pm_128 : PM ((10, 112), (1, 1, 14, MX5_read)) := ⟨pyX5_read, (gt_in (tch2 (List.mem_of_getElem? (i := 110) rfl)) rfl), (gt_in (tch2 (List.mem_of_getElem? (i := 111) rfl)) rfl), (gt_in (tch2 (List.mem_of_getElem? (i := 112) rfl)) rfl), ⟨4, _, rfl, rfl, rfl⟩, by decide +kernel⟩
set_option maxRecDepth 20000 in
theorem pm_129 : PM ((10, 123), (1, 1, 15, MX7_copy)) := ⟨pyX7_copy, (gt_in (tch3 (List.mem_of_getElem? (i := 20) rfl)) rfl), (gt_in (tch3 (List.mem_of_getElem? (i := 21) rfl)) rfl), (gt_in (tch3 (List.mem_of_getElem? (i := 22) rfl)) rfl), ⟨5, _, rfl, rfl, rfl⟩, by decide +kernel⟩
set_option maxRecDepth 20000 in
theorem pm_130 : PM ((10, 138), (1, 1, 12, MX2_remember)) := ⟨pyX2_remember, (gt_in (tch3 (List.mem_of_getElem? (i := 35) rfl)) rfl), (gt_in (tch3 (List.mem_of_getElem? (i := 36) rfl)) rfl), (gt_in (tch3 (List.mem_of_getElem? (i := 37) rfl)) rfl), ⟨2, _, rfl, rfl, rfl⟩, by decide +kernel⟩
set_option maxRecDepth 20000 in
theorem pm_131 : PM ((10, 142), (1, 1, 16, MX8_singOnce)) := ⟨pyX8_singOnce, (gt_in (tch3 (List.mem_of_getElem? (i := 47) rfl)) rfl), (gt_in (tch3 (List.mem_of_getElem? (i := 48) rfl)) rfl), (gt_in (tch3 (List.mem_of_getElem? (i := 49) rfl)) rfl), ⟨6, _, rfl, rfl, rfl⟩, by decide +kernel⟩
set_option maxRecDepth 20000 in
theorem pm_132 : PM ((10, 149), (0, 2, 0, MX6_get)) := ⟨pyX6_get, (gt_in (tch3 (List.mem_of_getElem? (i := 121) rfl)) rfl), (gt_in (tch3 (List.mem_of_getElem? (i := 55) rfl)) rfl), by decide +kernel⟩
set_option maxRecDepth 20000 in
theorem pm_133 : PM ((10, 153), (0, 3, 0, MX6_slotWith)) := ⟨pyX6_slotWith, (gt_in (tch3 (List.mem_of_getElem? (i := 126) rfl)) rfl), (gt_in (tch3 (List.mem_of_getElem? (i := 127) rfl)) rfl), by decide +kernel⟩
set_option maxRecDepth 20000 in
theorem pm_134 : PM ((10, 161), (1, 2, 11, MX1_timesOver)) := ⟨pyX1_timesOver, (gt_in (tch3 (List.mem_of_getElem? (i := 133) rfl)) rfl), (gt_in (tch3 (List.mem_of_getElem? (i := 134) rfl)) rfl), (gt_in (tch3 (List.mem_of_getElem? (i := 135) rfl)) rfl), ⟨1, _, rfl, rfl, rfl⟩, by decide +kernel⟩
set_option maxRecDepth 20000 in
theorem pm_135 : PM ((10, 168), (1, 2, 16, MX8_rowPart)) := ⟨pyX8_rowPart, (gt_in (tch3 (List.mem_of_getElem? (i := 141) rfl)) rfl), (gt_in (tch3 (List.mem_of_getElem? (i := 142) rfl)) rfl), (gt_in (tch3 (List.mem_of_getElem? (i := 143) rfl)) rfl), ⟨6, _, rfl, rfl, rfl⟩, by decide +kernel⟩
set_option maxRecDepth 20000 in
theorem pm_136 : PM ((10, 171), (1, 3, 15, MX7_singingsBack)) := ⟨pyX7_singingsBack, (gt_in (tch3 (List.mem_of_getElem? (i := 149) rfl)) rfl), (gt_in (tch3 (List.mem_of_getElem? (i := 150) rfl)) rfl), (gt_in (tch3 (List.mem_of_getElem? (i := 151) rfl)) rfl), ⟨5, _, rfl, rfl, rfl⟩, by decide +kernel⟩
set_option maxRecDepth 20000 in
theorem pm_137 : PM ((10, 175), (1, 1, 16, MX8_seen)) := ⟨pyX8_seen, (gt_in (tch3 (List.mem_of_getElem? (i := 167) rfl)) rfl), (gt_in (tch3 (List.mem_of_getElem? (i := 168) rfl)) rfl), (gt_in (tch3 (List.mem_of_getElem? (i := 169) rfl)) rfl), ⟨6, _, rfl, rfl, rfl⟩, by decide +kernel⟩
set_option maxRecDepth 20000 in
theorem pm_138 : PM ((10, 181), (1, 3, 15, MX7_mirroredFrom)) := ⟨pyX7_mirroredFrom, (gt_in (tch3 (List.mem_of_getElem? (i := 177) rfl)) rfl), (gt_in (tch3 (List.mem_of_getElem? (i := 178) rfl)) rfl), (gt_in (tch3 (List.mem_of_getElem? (i := 179) rfl)) rfl), ⟨5, _, rfl, rfl, rfl⟩, by decide +kernel⟩
set_option maxRecDepth 20000 in
theorem pm_139 : PM ((10, 185), (1, 4, 15, MX7_sungFrom)) := ⟨pyX7_sungFrom, (gt_in (tch3 (List.mem_of_getElem? (i := 185) rfl)) rfl), (gt_in (tch3 (List.mem_of_getElem? (i := 154) rfl)) rfl), (gt_in (tch3 (List.mem_of_getElem? (i := 155) rfl)) rfl), ⟨5, _, rfl, rfl, rfl⟩, by decide +kernel⟩
set_option maxRecDepth 20000 in
theorem pm_140 : PM ((10, 192), (1, 3, 13, MX3_needed)) := ⟨pyX3_needed, (gt_in (tch3 (List.mem_of_getElem? (i := 194) rfl)) rfl), (gt_in (tch3 (List.mem_of_getElem? (i := 195) rfl)) rfl), (gt_in (tch3 (List.mem_of_getElem? (i := 196) rfl)) rfl), ⟨3, _, rfl, rfl, rfl⟩, by decide +kernel⟩
set_option maxRecDepth 20000 in
theorem pm_141 : PM ((10, 195), (1, 4, 13, MX3_firstOf)) := ⟨pyX3_firstOf, (gt_in (tch3 (List.mem_of_getElem? (i := 210) rfl)) rfl), (gt_in (tch3 (List.mem_of_getElem? (i := 211) rfl)) rfl), (gt_in (tch3 (List.mem_of_getElem? (i := 212) rfl)) rfl), ⟨3, _, rfl, rfl, rfl⟩, by decide +kernel⟩
set_option maxRecDepth 20000 in
theorem pm_142 : PM ((10, 199), (0, 1, 0, MX4_from)) := ⟨pyX4_from, (gt_in (tch3 (List.mem_of_getElem? (i := 217) rfl)) rfl), (gt_in (tch3 (List.mem_of_getElem? (i := 52) rfl)) rfl), by decide +kernel⟩
set_option maxRecDepth 20000 in
theorem pm_143 : PM ((10, 205), (0, 1, 0, MX4_to)) := ⟨pyX4_to, (gt_in (tch3 (List.mem_of_getElem? (i := 218) rfl)) rfl), (gt_in (tch3 (List.mem_of_getElem? (i := 88) rfl)) rfl), by decide +kernel⟩
set_option maxRecDepth 20000 in
theorem pm_144 : PM ((10, 208), (0, 4, 0, MX10_oneOfThree)) := ⟨pyX10_oneOfThree, (gt_in (tch3 (List.mem_of_getElem? (i := 223) rfl)) rfl), (gt_in (tch3 (List.mem_of_getElem? (i := 224) rfl)) rfl), by decide +kernel⟩
set_option maxRecDepth 20000 in
theorem pm_145 : PM ((10, 212), (0, 1, 0, MX6_home)) := ⟨pyX6_home, (gt_in (tch3 (List.mem_of_getElem? (i := 230) rfl)) rfl), (gt_in (tch1 (List.mem_of_getElem? (i := 145) rfl)) rfl), by decide +kernel⟩
set_option maxRecDepth 20000 in
theorem pm_146 : PM ((10, 216), (1, 4, 18, MX10_fitsWithout)) := ⟨pyX10_fitsWithout, (gt_in (tch3 (List.mem_of_getElem? (i := 231) rfl)) rfl), (gt_in (tch3 (List.mem_of_getElem? (i := 233) rfl)) rfl), (gt_sel (List.mem_of_getElem? (i := 22) rfl) rfl), ⟨8, _, rfl, rfl, rfl⟩, by decide +kernel⟩
set_option maxRecDepth 20000 in
theorem pm_147 : PM ((10, 220), (1, 2, 10, MX0_needed)) := ⟨pyX0_needed, (gt_in (tch3 (List.mem_of_getElem? (i := 239) rfl)) rfl), (gt_in (tch4 (List.mem_of_getElem? (i := 0) rfl)) rfl), (gt_in (tch4 (List.mem_of_getElem? (i := 1) rfl)) rfl), ⟨0, _, rfl, rfl, rfl⟩, by decide +kernel⟩
set_option maxRecDepth 20000 in
theorem pm_148 : PM ((10, 226), (1, 1, 16, MX8_strandsToDye)) := ⟨pyX8_strandsToDye, (gt_in (tch4 (List.mem_of_getElem? (i := 26) rfl)) rfl), (gt_in (tch4 (List.mem_of_getElem? (i := 27) rfl)) rfl), (gt_in (tch4 (List.mem_of_getElem? (i := 28) rfl)) rfl), ⟨6, _, rfl, rfl, rfl⟩, by decide +kernel⟩
set_option maxRecDepth 20000 in
theorem pm_149 : PM ((10, 229), (1, 2, 11, MX1_leastFree)) := ⟨pyX1_leastFree, (gt_in (tch4 (List.mem_of_getElem? (i := 47) rfl)) rfl), (gt_in (tch4 (List.mem_of_getElem? (i := 48) rfl)) rfl), (gt_in (tch4 (List.mem_of_getElem? (i := 49) rfl)) rfl), ⟨1, _, rfl, rfl, rfl⟩, by decide +kernel⟩
set_option maxRecDepth 20000 in
theorem pm_150 : PM ((10, 232), (1, 0, 18, MX10_countRings)) := ⟨pyX10_countRings, (gt_in (tch4 (List.mem_of_getElem? (i := 60) rfl)) rfl), (gt_in (tch4 (List.mem_of_getElem? (i := 62) rfl)) rfl), (gt_sel (List.mem_of_getElem? (i := 27) rfl) rfl), ⟨8, _, rfl, rfl, rfl⟩, by decide +kernel⟩
set_option maxRecDepth 20000 in
theorem pm_151 : PM ((10, 236), (1, 1, 18, MX10_ringOf)) := ⟨pyX10_ringOf, (gt_in (tch4 (List.mem_of_getElem? (i := 64) rfl)) rfl), (gt_in (tch4 (List.mem_of_getElem? (i := 66) rfl)) rfl), (gt_sel (List.mem_of_getElem? (i := 28) rfl) rfl), ⟨8, _, rfl, rfl, rfl⟩, by decide +kernel⟩
set_option maxRecDepth 20000 in
theorem pm_152 : PM ((10, 239), (0, 1, 0, MJ6_bitCount_0f7a4)) := ⟨pyJ6_bitCount_0f7a4, (gt_in (tch4 (List.mem_of_getElem? (i := 68) rfl)) rfl), (gt_in (tch3 (List.mem_of_getElem? (i := 162) rfl)) rfl), by decide +kernel⟩
set_option maxRecDepth 20000 in
theorem pm_153 : PM ((10, 244), (1, 1, 11, MX1_startAnew)) := ⟨pyX1_startAnew, (gt_in (tch4 (List.mem_of_getElem? (i := 73) rfl)) rfl), (gt_in (tch2 (List.mem_of_getElem? (i := 64) rfl)) rfl), (gt_in (tch2 (List.mem_of_getElem? (i := 65) rfl)) rfl), ⟨1, _, rfl, rfl, rfl⟩, by decide +kernel⟩
set_option maxRecDepth 20000 in
theorem pm_154 : PM ((10, 245), (1, 3, 11, MX1_singInThought)) := ⟨pyX1_singInThought, (gt_in (tch4 (List.mem_of_getElem? (i := 74) rfl)) rfl), (gt_in (tch4 (List.mem_of_getElem? (i := 75) rfl)) rfl), (gt_in (tch4 (List.mem_of_getElem? (i := 76) rfl)) rfl), ⟨1, _, rfl, rfl, rfl⟩, by decide +kernel⟩
set_option maxRecDepth 20000 in
theorem pm_155 : PM ((10, 249), (1, 1, 11, MX1_isOverLike)) := ⟨pyX1_isOverLike, (gt_in (tch4 (List.mem_of_getElem? (i := 79) rfl)) rfl), (gt_in (tch4 (List.mem_of_getElem? (i := 80) rfl)) rfl), (gt_in (tch4 (List.mem_of_getElem? (i := 81) rfl)) rfl), ⟨1, _, rfl, rfl, rfl⟩, by decide +kernel⟩
set_option maxRecDepth 20000 in
theorem pm_156 : PM ((10, 253), (1, 2, 16, MX8_rowsComeAgain)) := ⟨pyX8_rowsComeAgain, (gt_in (tch4 (List.mem_of_getElem? (i := 87) rfl)) rfl), (gt_in (tch4 (List.mem_of_getElem? (i := 88) rfl)) rfl), (gt_in (tch4 (List.mem_of_getElem? (i := 89) rfl)) rfl), ⟨6, _, rfl, rfl, rfl⟩, by decide +kernel⟩
set_option maxRecDepth 20000 in
theorem pm_157 : PM ((10, 257), (1, 1, 12, MX2_goBack)) := ⟨pyX2_goBack, (gt_in (tch4 (List.mem_of_getElem? (i := 96) rfl)) rfl), (gt_in (tch4 (List.mem_of_getElem? (i := 97) rfl)) rfl), (gt_in (tch4 (List.mem_of_getElem? (i := 98) rfl)) rfl), ⟨2, _, rfl, rfl, rfl⟩, by decide +kernel⟩
set_option maxRecDepth 20000 in
theorem pm_158 : PM ((10, 260), (1, 1, 16, MX8_copy)) := ⟨pyX8_copy, (gt_in (tch4 (List.mem_of_getElem? (i := 104) rfl)) rfl), (gt_in (tch4 (List.mem_of_getElem? (i := 105) rfl)) rfl), (gt_in (tch4 (List.mem_of_getElem? (i := 106) rfl)) rfl), ⟨6, _, rfl, rfl, rfl⟩, by decide +kernel⟩
set_option maxRecDepth 20000 in
theorem pm_159 : PM ((11, 1), (10, 0, 0, MX6_get)) := (gt_in (tch4 (List.mem_of_getElem? (i := 120) rfl)) rfl)
set_option maxRecDepth 20000 in
theorem pm_160 : PM ((11, 65), (1, 1, 19, MX11_begins)) := ⟨pyX11_begins, (gt_in (tch4 (List.mem_of_getElem? (i := 121) rfl)) rfl), (gt_in (tch4 (List.mem_of_getElem? (i := 123) rfl)) rfl), (gt_sel (List.mem_of_getElem? (i := 29) rfl) rfl), ⟨9, _, rfl, rfl, rfl⟩, by decide +kernel⟩
set_option maxRecDepth 20000 in
theorem pm_161 : PM ((11, 72), (0, 3, 0, MX11_isIn)) := ⟨pyX11_isIn, (gt_in (tch4 (List.mem_of_getElem? (i := 224) rfl)) rfl), (gt_in (tch4 (List.mem_of_getElem? (i := 225) rfl)) rfl), by decide +kernel⟩
set_option maxRecDepth 20000 in
theorem pm_162 : PM ((11, 78), (1, 1, 19, MX11_isSlot)) := ⟨pyX11_isSlot, (gt_in (tch4 (List.mem_of_getElem? (i := 231) rfl)) rfl), (gt_in (tch4 (List.mem_of_getElem? (i := 233) rfl)) rfl), (gt_sel (List.mem_of_getElem? (i := 30) rfl) rfl), ⟨9, _, rfl, rfl, rfl⟩, by decide +kernel⟩
set_option maxRecDepth 20000 in
theorem pm_163 : PM ((11, 91), (14, 0, 0, MX6_get)) := (gt_in (tch5 (List.mem_of_getElem? (i := 34) rfl)) rfl)
set_option maxRecDepth 20000 in
theorem pm_164 : PM ((11, 97), (15, 1, 0, MX6_get)) := (gt_in (tch5 (List.mem_of_getElem? (i := 35) rfl)) rfl)
set_option maxRecDepth 20000 in
theorem pm_165 : PM ((11, 103), (1, 1, 19, MX11_is)) := ⟨pyX11_is, (gt_in (tch5 (List.mem_of_getElem? (i := 30) rfl)) rfl), (gt_in (tch5 (List.mem_of_getElem? (i := 32) rfl)) rfl), (gt_sel (List.mem_of_getElem? (i := 34) rfl) rfl), ⟨9, _, rfl, rfl, rfl⟩, by decide +kernel⟩
set_option maxRecDepth 20000 in
theorem pm_166 : PM ((11, 117), (1, 1, 19, MX11_see)) := ⟨pyX11_see, (gt_in (tch5 (List.mem_of_getElem? (i := 18) rfl)) rfl), (gt_in (tch5 (List.mem_of_getElem? (i := 20) rfl)) rfl), (gt_sel (List.mem_of_getElem? (i := 32) rfl) rfl), ⟨9, _, rfl, rfl, rfl⟩, by decide +kernel⟩
set_option maxRecDepth 20000 in
theorem pm_167 : PM ((11, 124), (0, 1, 0, MX11_isLetter)) := ⟨pyX11_isLetter, (gt_in (tch5 (List.mem_of_getElem? (i := 22) rfl)) rfl), (gt_in (tch5 (List.mem_of_getElem? (i := 23) rfl)) rfl), by decide +kernel⟩
set_option maxRecDepth 20000 in
theorem pm_168 : PM ((11, 127), (1, 0, 19, MX11_word)) := ⟨pyX11_word, (gt_in (tch5 (List.mem_of_getElem? (i := 25) rfl)) rfl), (gt_in (tch5 (List.mem_of_getElem? (i := 27) rfl)) rfl), (gt_sel (List.mem_of_getElem? (i := 33) rfl) rfl), ⟨9, _, rfl, rfl, rfl⟩, by decide +kernel⟩
set_option maxRecDepth 20000 in
theorem pm_169 : PM ((11, 130), (0, 1, 0, MX11_isDigit)) := ⟨pyX11_isDigit, (gt_in (tch5 (List.mem_of_getElem? (i := 41) rfl)) rfl), (gt_in (tch5 (List.mem_of_getElem? (i := 42) rfl)) rfl), by decide +kernel⟩
set_option maxRecDepth 20000 in
theorem pm_170 : PM ((11, 142), (1, 1, 19, MX11_bad)) := ⟨pyX11_bad, (gt_in (tch5 (List.mem_of_getElem? (i := 52) rfl)) rfl), (gt_in (tch5 (List.mem_of_getElem? (i := 54) rfl)) rfl), (gt_sel (List.mem_of_getElem? (i := 37) rfl) rfl), ⟨9, _, rfl, rfl, rfl⟩, by decide +kernel⟩
set_option maxRecDepth 20000 in
theorem pm_171 : PM ((11, 145), (1, 0, 19, MX11_next0)) := ⟨pyX11_next0, (gt_in (tch5 (List.mem_of_getElem? (i := 14) rfl)) rfl), (gt_in (tch5 (List.mem_of_getElem? (i := 16) rfl)) rfl), (gt_sel (List.mem_of_getElem? (i := 31) rfl) rfl), ⟨9, _, rfl, rfl, rfl⟩, by decide +kernel⟩
set_option maxRecDepth 20000 in
theorem pm_172 : PM ((11, 151), (1, 2, 19, MX11_number)) := ⟨pyX11_number, (gt_in (tch5 (List.mem_of_getElem? (i := 56) rfl)) rfl), (gt_in (tch5 (List.mem_of_getElem? (i := 58) rfl)) rfl), (gt_sel (List.mem_of_getElem? (i := 38) rfl) rfl), ⟨9, _, rfl, rfl, rfl⟩, by decide +kernel⟩
set_option maxRecDepth 20000 in
theorem pm_173 : PM ((11, 155), (1, 1, 19, MX11_need)) := ⟨pyX11_need, (gt_in (tch5 (List.mem_of_getElem? (i := 60) rfl)) rfl), (gt_in (tch5 (List.mem_of_getElem? (i := 62) rfl)) rfl), (gt_sel (List.mem_of_getElem? (i := 39) rfl) rfl), ⟨9, _, rfl, rfl, rfl⟩, by decide +kernel⟩
set_option maxRecDepth 20000 in
theorem pm_174 : PM ((11, 158), (1, 4, 19, MX11_puts)) := ⟨pyX11_puts, (gt_in (tch5 (List.mem_of_getElem? (i := 64) rfl)) rfl), (gt_in (tch5 (List.mem_of_getElem? (i := 66) rfl)) rfl), (gt_sel (List.mem_of_getElem? (i := 40) rfl) rfl), ⟨9, _, rfl, rfl, rfl⟩, by decide +kernel⟩
set_option maxRecDepth 20000 in
theorem pm_175 : PM ((11, 162), (1, 1, 19, MX11_someSteps)) := ⟨pyX11_someSteps, (gt_in (tch5 (List.mem_of_getElem? (i := 44) rfl)) rfl), (gt_in (tch5 (List.mem_of_getElem? (i := 46) rfl)) rfl), (gt_sel (List.mem_of_getElem? (i := 35) rfl) rfl), ⟨9, _, rfl, rfl, rfl⟩, by decide +kernel⟩
set_option maxRecDepth 20000 in
theorem pm_176 : PM ((11, 165), (1, 1, 19, MX11_someTimes)) := ⟨pyX11_someTimes, (gt_in (tch5 (List.mem_of_getElem? (i := 48) rfl)) rfl), (gt_in (tch5 (List.mem_of_getElem? (i := 50) rfl)) rfl), (gt_sel (List.mem_of_getElem? (i := 36) rfl) rfl), ⟨9, _, rfl, rfl, rfl⟩, by decide +kernel⟩
set_option maxRecDepth 20000 in
theorem pm_177 : PM ((11, 168), (1, 0, 19, MX11_aTurn)) := ⟨pyX11_aTurn, (gt_in (tch5 (List.mem_of_getElem? (i := 68) rfl)) rfl), (gt_in (tch5 (List.mem_of_getElem? (i := 70) rfl)) rfl), (gt_sel (List.mem_of_getElem? (i := 41) rfl) rfl), ⟨9, _, rfl, rfl, rfl⟩, by decide +kernel⟩
set_option maxRecDepth 20000 in
theorem pm_178 : PM ((11, 172), (1, 1, 19, MX11_aMove)) := ⟨pyX11_aMove, (gt_in (tch5 (List.mem_of_getElem? (i := 72) rfl)) rfl), (gt_in (tch5 (List.mem_of_getElem? (i := 74) rfl)) rfl), (gt_sel (List.mem_of_getElem? (i := 42) rfl) rfl), ⟨9, _, rfl, rfl, rfl⟩, by decide +kernel⟩
set_option maxRecDepth 20000 in
theorem pm_179 : PM ((11, 178), (0, 1, 0, MX11_isSong)) := ⟨pyX11_isSong, (gt_in (tch5 (List.mem_of_getElem? (i := 11) rfl)) rfl), (gt_in (tch5 (List.mem_of_getElem? (i := 12) rfl)) rfl), by decide +kernel⟩
set_option maxRecDepth 20000 in
theorem pm_180 : PM ((11, 181), (1, 3, 19, MX11_goesOver)) := ⟨pyX11_goesOver, (gt_in (tch5 (List.mem_of_getElem? (i := 118) rfl)) rfl), (gt_in (tch5 (List.mem_of_getElem? (i := 120) rfl)) rfl), (gt_sel (List.mem_of_getElem? (i := 51) rfl) rfl), ⟨9, _, rfl, rfl, rfl⟩, by decide +kernel⟩
set_option maxRecDepth 20000 in
theorem pm_181 : PM ((11, 185), (1, 3, 19, MX11_ofMove)) := ⟨pyX11_ofMove, (gt_in (tch5 (List.mem_of_getElem? (i := 96) rfl)) rfl), (gt_in (tch5 (List.mem_of_getElem? (i := 98) rfl)) rfl), (gt_sel (List.mem_of_getElem? (i := 46) rfl) rfl), ⟨9, _, rfl, rfl, rfl⟩, by decide +kernel⟩
set_option maxRecDepth 20000 in
theorem pm_182 : PM ((11, 189), (1, 1, 19, MX11_turns)) := ⟨pyX11_turns, (gt_in (tch5 (List.mem_of_getElem? (i := 110) rfl)) rfl), (gt_in (tch5 (List.mem_of_getElem? (i := 112) rfl)) rfl), (gt_sel (List.mem_of_getElem? (i := 49) rfl) rfl), ⟨9, _, rfl, rfl, rfl⟩, by decide +kernel⟩
set_option maxRecDepth 20000 in
theorem pm_183 : PM ((11, 192), (1, 3, 19, MX11_lifts)) := ⟨pyX11_lifts, (gt_in (tch5 (List.mem_of_getElem? (i := 114) rfl)) rfl), (gt_in (tch5 (List.mem_of_getElem? (i := 116) rfl)) rfl), (gt_sel (List.mem_of_getElem? (i := 50) rfl) rfl), ⟨9, _, rfl, rfl, rfl⟩, by decide +kernel⟩
set_option maxRecDepth 20000 in
theorem pm_184 : PM ((11, 195), (1, 3, 19, MX11_swaps)) := ⟨pyX11_swaps, (gt_in (tch5 (List.mem_of_getElem? (i := 122) rfl)) rfl), (gt_in (tch5 (List.mem_of_getElem? (i := 124) rfl)) rfl), (gt_sel (List.mem_of_getElem? (i := 52) rfl) rfl), ⟨9, _, rfl, rfl, rfl⟩, by decide +kernel⟩
set_option maxRecDepth 20000 in
theorem pm_185 : PM ((11, 198), (1, 6, 19, MX11_moves)) := ⟨pyX11_moves, (gt_in (tch5 (List.mem_of_getElem? (i := 106) rfl)) rfl), (gt_in (tch5 (List.mem_of_getElem? (i := 108) rfl)) rfl), (gt_sel (List.mem_of_getElem? (i := 48) rfl) rfl), ⟨9, _, rfl, rfl, rfl⟩, by decide +kernel⟩
set_option maxRecDepth 20000 in
theorem pm_186 : PM ((11, 202), (1, 0, 19, MX11_sitsNow)) := ⟨pyX11_sitsNow, (gt_in (tch5 (List.mem_of_getElem? (i := 92) rfl)) rfl), (gt_in (tch5 (List.mem_of_getElem? (i := 94) rfl)) rfl), (gt_sel (List.mem_of_getElem? (i := 45) rfl) rfl), ⟨9, _, rfl, rfl, rfl⟩, by decide +kernel⟩
set_option maxRecDepth 20000 in
theorem pm_187 : PM ((11, 205), (1, 1, 19, MX11_draw)) := ⟨pyX11_draw, (gt_in (tch5 (List.mem_of_getElem? (i := 100) rfl)) rfl), (gt_in (tch5 (List.mem_of_getElem? (i := 102) rfl)) rfl), (gt_sel (List.mem_of_getElem? (i := 47) rfl) rfl), ⟨9, _, rfl, rfl, rfl⟩, by decide +kernel⟩
set_option maxRecDepth 20000 in
theorem pm_188 : PM ((11, 208), (1, 1, 19, MX11_writes)) := ⟨pyX11_writes, (gt_in (tch5 (List.mem_of_getElem? (i := 126) rfl)) rfl), (gt_in (tch5 (List.mem_of_getElem? (i := 128) rfl)) rfl), (gt_sel (List.mem_of_getElem? (i := 53) rfl) rfl), ⟨9, _, rfl, rfl, rfl⟩, by decide +kernel⟩
set_option maxRecDepth 20000 in
theorem pm_189 : PM ((11, 211), (1, 0, 19, MX11_keeps)) := ⟨pyX11_keeps, (gt_in (tch5 (List.mem_of_getElem? (i := 84) rfl)) rfl), (gt_in (tch5 (List.mem_of_getElem? (i := 86) rfl)) rfl), (gt_sel (List.mem_of_getElem? (i := 43) rfl) rfl), ⟨9, _, rfl, rfl, rfl⟩, by decide +kernel⟩
set_option maxRecDepth 20000 in
theorem pm_190 : PM ((11, 214), (1, 1, 19, MX11_singsTruly)) := ⟨pyX11_singsTruly, (gt_in (tch5 (List.mem_of_getElem? (i := 88) rfl)) rfl), (gt_in (tch5 (List.mem_of_getElem? (i := 90) rfl)) rfl), (gt_sel (List.mem_of_getElem? (i := 44) rfl) rfl), ⟨9, _, rfl, rfl, rfl⟩, by decide +kernel⟩
set_option maxRecDepth 20000 in
theorem pm_191 : PM ((11, 217), (1, 1, 19, MX11_slotOf)) := ⟨pyX11_slotOf, (gt_in (tch5 (List.mem_of_getElem? (i := 142) rfl)) rfl), (gt_in (tch5 (List.mem_of_getElem? (i := 144) rfl)) rfl), (gt_sel (List.mem_of_getElem? (i := 54) rfl) rfl), ⟨9, _, rfl, rfl, rfl⟩, by decide +kernel⟩
set_option maxRecDepth 20000 in
theorem pm_192 : PM ((11, 220), (1, 3, 19, MX11_sings)) := ⟨pyX11_sings, (gt_in (tch5 (List.mem_of_getElem? (i := 158) rfl)) rfl), (gt_in (tch5 (List.mem_of_getElem? (i := 160) rfl)) rfl), (gt_sel (List.mem_of_getElem? (i := 55) rfl) rfl), ⟨9, _, rfl, rfl, rfl⟩, by decide +kernel⟩
set_option maxRecDepth 20000 in
theorem pm_193 : PM ((11, 224), (1, 1, 19, MX11_isAsNow)) := ⟨pyX11_isAsNow, (gt_in (tch5 (List.mem_of_getElem? (i := 162) rfl)) rfl), (gt_in (tch5 (List.mem_of_getElem? (i := 164) rfl)) rfl), (gt_sel (List.mem_of_getElem? (i := 56) rfl) rfl), ⟨9, _, rfl, rfl, rfl⟩, by decide +kernel⟩
set_option maxRecDepth 20000 in
theorem pm_194 : PM ((11, 229), (1, 1, 19, MX11_placeOf)) := ⟨pyX11_placeOf, (gt_in (tch5 (List.mem_of_getElem? (i := 186) rfl)) rfl), (gt_in (tch5 (List.mem_of_getElem? (i := 188) rfl)) rfl), (gt_sel (List.mem_of_getElem? (i := 59) rfl) rfl), ⟨9, _, rfl, rfl, rfl⟩, by decide +kernel⟩
set_option maxRecDepth 20000 in
theorem pm_195 : PM ((11, 235), (1, 2, 19, MX11_comes)) := ⟨pyX11_comes, (gt_in (tch5 (List.mem_of_getElem? (i := 182) rfl)) rfl), (gt_in (tch5 (List.mem_of_getElem? (i := 184) rfl)) rfl), (gt_sel (List.mem_of_getElem? (i := 58) rfl) rfl), ⟨9, _, rfl, rfl, rfl⟩, by decide +kernel⟩
set_option maxRecDepth 20000 in
theorem pm_196 : PM ((11, 239), (1, 3, 19, MX11_liftedOf)) := ⟨pyX11_liftedOf, (gt_in (tch5 (List.mem_of_getElem? (i := 192) rfl)) rfl), (gt_in (tch5 (List.mem_of_getElem? (i := 194) rfl)) rfl), (gt_sel (List.mem_of_getElem? (i := 60) rfl) rfl), ⟨9, _, rfl, rfl, rfl⟩, by decide +kernel⟩
set_option maxRecDepth 20000 in
theorem pm_197 : PM ((11, 242), (1, 0, 19, MX11_laysFar)) := ⟨pyX11_laysFar, (gt_in (tch5 (List.mem_of_getElem? (i := 178) rfl)) rfl), (gt_in (tch5 (List.mem_of_getElem? (i := 180) rfl)) rfl), (gt_sel (List.mem_of_getElem? (i := 57) rfl) rfl), ⟨9, _, rfl, rfl, rfl⟩, by decide +kernel⟩
set_option maxRecDepth 20000 in
theorem pm_198 : PM ((11, 245), (1, 1, 19, MX11_farOf)) := ⟨pyX11_farOf, (gt_in (tch5 (List.mem_of_getElem? (i := 196) rfl)) rfl), (gt_in (tch5 (List.mem_of_getElem? (i := 198) rfl)) rfl), (gt_sel (List.mem_of_getElem? (i := 61) rfl) rfl), ⟨9, _, rfl, rfl, rfl⟩, by decide +kernel⟩
set_option maxRecDepth 20000 in
theorem pm_199 : PM ((11, 248), (1, 0, 19, MX11_sitsAtFirst)) := ⟨pyX11_sitsAtFirst, (gt_in (tch5 (List.mem_of_getElem? (i := 204) rfl)) rfl), (gt_in (tch5 (List.mem_of_getElem? (i := 206) rfl)) rfl), (gt_sel (List.mem_of_getElem? (i := 62) rfl) rfl), ⟨9, _, rfl, rfl, rfl⟩, by decide +kernel⟩
set_option maxRecDepth 20000 in
theorem pm_200 : PM ((11, 251), (1, 0, 19, MX11_isWanted)) := ⟨pyX11_isWanted, (gt_in (tch5 (List.mem_of_getElem? (i := 208) rfl)) rfl), (gt_in (tch5 (List.mem_of_getElem? (i := 210) rfl)) rfl), (gt_sel (List.mem_of_getElem? (i := 63) rfl) rfl), ⟨9, _, rfl, rfl, rfl⟩, by decide +kernel⟩
set_option maxRecDepth 20000 in
theorem pm_201 : PM ((11, 254), (1, 4, 19, MX11_isWantedBehind)) := ⟨pyX11_isWantedBehind, (gt_in (tch5 (List.mem_of_getElem? (i := 216) rfl)) rfl), (gt_in (tch5 (List.mem_of_getElem? (i := 218) rfl)) rfl), (gt_sel (List.mem_of_getElem? (i := 64) rfl) rfl), ⟨9, _, rfl, rfl, rfl⟩, by decide +kernel⟩
set_option maxRecDepth 20000 in
theorem pm_202 : PM ((11, 258), (1, 1, 19, MX11_singsAlone)) := ⟨pyX11_singsAlone, (gt_in (tch5 (List.mem_of_getElem? (i := 224) rfl)) rfl), (gt_in (tch5 (List.mem_of_getElem? (i := 226) rfl)) rfl), (gt_sel (List.mem_of_getElem? (i := 65) rfl) rfl), ⟨9, _, rfl, rfl, rfl⟩, by decide +kernel⟩
set_option maxRecDepth 20000 in
theorem pm_203 : PM ((11, 261), (1, 2, 19, MX11_comesAgain)) := ⟨pyX11_comesAgain, (gt_in (tch5 (List.mem_of_getElem? (i := 232) rfl)) rfl), (gt_in (tch5 (List.mem_of_getElem? (i := 234) rfl)) rfl), (gt_sel (List.mem_of_getElem? (i := 66) rfl) rfl), ⟨9, _, rfl, rfl, rfl⟩, by decide +kernel⟩
set_option maxRecDepth 20000 in
theorem pm_204 : PM ((11, 264), (0, 3, 0, MX11_isWithin)) := ⟨pyX11_isWithin, (gt_in (tch6 (List.mem_of_getElem? (i := 4) rfl)) rfl), (gt_in (tch6 (List.mem_of_getElem? (i := 5) rfl)) rfl), by decide +kernel⟩
set_option maxRecDepth 20000 in
theorem pm_205 : PM ((11, 267), (1, 3, 19, MX11_doCross)) := ⟨pyX11_doCross, (gt_in (tch6 (List.mem_of_getElem? (i := 0) rfl)) rfl), (gt_in (tch6 (List.mem_of_getElem? (i := 2) rfl)) rfl), (gt_sel (List.mem_of_getElem? (i := 67) rfl) rfl), ⟨9, _, rfl, rfl, rfl⟩, by decide +kernel⟩
set_option maxRecDepth 20000 in
theorem pm_206 : PM ((11, 270), (1, 2, 19, MX11_isFree)) := ⟨pyX11_isFree, (gt_in (tch6 (List.mem_of_getElem? (i := 19) rfl)) rfl), (gt_in (tch6 (List.mem_of_getElem? (i := 21) rfl)) rfl), (gt_sel (List.mem_of_getElem? (i := 68) rfl) rfl), ⟨9, _, rfl, rfl, rfl⟩, by decide +kernel⟩
set_option maxRecDepth 20000 in
theorem pm_207 : PM ((11, 273), (1, 1, 19, MX11_ring)) := ⟨pyX11_ring, (gt_in (tch6 (List.mem_of_getElem? (i := 27) rfl)) rfl), (gt_in (tch6 (List.mem_of_getElem? (i := 29) rfl)) rfl), (gt_sel (List.mem_of_getElem? (i := 69) rfl) rfl), ⟨9, _, rfl, rfl, rfl⟩, by decide +kernel⟩
set_option maxRecDepth 20000 in
theorem pm_208 : PM ((11, 276), (1, 1, 19, MX11_isLeast)) := ⟨pyX11_isLeast, (gt_in (tch6 (List.mem_of_getElem? (i := 31) rfl)) rfl), (gt_in (tch6 (List.mem_of_getElem? (i := 33) rfl)) rfl), (gt_sel (List.mem_of_getElem? (i := 70) rfl) rfl), ⟨9, _, rfl, rfl, rfl⟩, by decide +kernel⟩
set_option maxRecDepth 20000 in
theorem pm_209 : PM ((12, 9), (2, 0, 0, MX10_init)) := ⟨pyX10_init, (gt_in (tch1 (List.mem_of_getElem? (i := 23) rfl)) rfl), (gt_in (tch1 (List.mem_of_getElem? (i := 24) rfl)) rfl), rfl, rfl, by decide +kernel⟩
set_option maxRecDepth 20000 in
theorem pm_210 : PM ((12, 12), (2, 0, 0, MX11_init)) := ⟨pyX11_init, (gt_in (tch4 (List.mem_of_getElem? (i := 117) rfl)) rfl), (gt_in (tch4 (List.mem_of_getElem? (i := 118) rfl)) rfl), rfl, rfl, by decide +kernel⟩
set_option maxRecDepth 20000 in
theorem pm_211 : PM ((12, 13), (1, 1, 18, MX10_state)) := ⟨pyX10_state, (gt_in (tch2 (List.mem_of_getElem? (i := 47) rfl)) rfl), (gt_in (tch2 (List.mem_of_getElem? (i := 48) rfl)) rfl), (gt_in (tch2 (List.mem_of_getElem? (i := 49) rfl)) rfl), ⟨8, _, rfl, rfl, rfl⟩, by decide +kernel⟩
set_option maxRecDepth 20000 in
theorem pm_212 : PM ((12, 17), (1, 1, 19, MX11_state)) := ⟨pyX11_state, (gt_in (tch4 (List.mem_of_getElem? (i := 216) rfl)) rfl), (gt_in (tch4 (List.mem_of_getElem? (i := 217) rfl)) rfl), (gt_in (tch4 (List.mem_of_getElem? (i := 218) rfl)) rfl), ⟨9, _, rfl, rfl, rfl⟩, by decide +kernel⟩
set_option maxRecDepth 20000 in
theorem pm_213 : PM ((12, 18), (1, 1, 18, MX10_stool)) := ⟨pyX10_stool, (gt_in (tch2 (List.mem_of_getElem? (i := 55) rfl)) rfl), (gt_in (tch2 (List.mem_of_getElem? (i := 56) rfl)) rfl), (gt_in (tch2 (List.mem_of_getElem? (i := 57) rfl)) rfl), ⟨8, _, rfl, rfl, rfl⟩, by decide +kernel⟩
set_option maxRecDepth 20000 in
theorem pm_214 : PM ((12, 22), (1, 1, 19, MX11_stool)) := ⟨pyX11_stool, (gt_in (tch4 (List.mem_of_getElem? (i := 220) rfl)) rfl), (gt_in (tch4 (List.mem_of_getElem? (i := 221) rfl)) rfl), (gt_in (tch4 (List.mem_of_getElem? (i := 222) rfl)) rfl), ⟨9, _, rfl, rfl, rfl⟩, by decide +kernel⟩
set_option maxRecDepth 20000 in
theorem pm_215 : PM ((12, 23), (1, 2, 18, MX10_colour)) := ⟨pyX10_colour, (gt_in (tch2 (List.mem_of_getElem? (i := 68) rfl)) rfl), (gt_in (tch2 (List.mem_of_getElem? (i := 69) rfl)) rfl), (gt_in (tch2 (List.mem_of_getElem? (i := 70) rfl)) rfl), ⟨8, _, rfl, rfl, rfl⟩, by decide +kernel⟩
set_option maxRecDepth 20000 in
theorem pm_216 : PM ((12, 27), (1, 2, 19, MX11_colour)) := ⟨pyX11_colour, (gt_in (tch4 (List.mem_of_getElem? (i := 227) rfl)) rfl), (gt_in (tch4 (List.mem_of_getElem? (i := 228) rfl)) rfl), (gt_in (tch4 (List.mem_of_getElem? (i := 229) rfl)) rfl), ⟨9, _, rfl, rfl, rfl⟩, by decide +kernel⟩
set_option maxRecDepth 20000 in
theorem pm_217 : PM ((12, 28), (1, 1, 18, MX10_slip)) := ⟨pyX10_slip, (gt_in (tch2 (List.mem_of_getElem? (i := 83) rfl)) rfl), (gt_in (tch2 (List.mem_of_getElem? (i := 84) rfl)) rfl), (gt_in (tch2 (List.mem_of_getElem? (i := 85) rfl)) rfl), ⟨8, _, rfl, rfl, rfl⟩, by decide +kernel⟩
set_option maxRecDepth 20000 in
theorem pm_218 : PM ((12, 31), (1, 1, 19, MX11_slip)) := ⟨pyX11_slip, (gt_in (tch4 (List.mem_of_getElem? (i := 235) rfl)) rfl), (gt_in (tch4 (List.mem_of_getElem? (i := 236) rfl)) rfl), (gt_in (tch4 (List.mem_of_getElem? (i := 237) rfl)) rfl), ⟨9, _, rfl, rfl, rfl⟩, by decide +kernel⟩
set_option maxRecDepth 20000 in
theorem pm_219 : PM ((12, 32), (1, 5, 18, MX10_feed)) := ⟨pyX10_feed, (gt_in (tch2 (List.mem_of_getElem? (i := 87) rfl)) rfl), (gt_in (tch2 (List.mem_of_getElem? (i := 88) rfl)) rfl), (gt_in (tch2 (List.mem_of_getElem? (i := 89) rfl)) rfl), ⟨8, _, rfl, rfl, rfl⟩, by decide +kernel⟩
set_option maxRecDepth 20000 in
theorem pm_220 : PM ((12, 36), (1, 5, 19, MX11_feed)) := ⟨pyX11_feed, (gt_in (tch4 (List.mem_of_getElem? (i := 239) rfl)) rfl), (gt_in (tch5 (List.mem_of_getElem? (i := 0) rfl)) rfl), (gt_in (tch5 (List.mem_of_getElem? (i := 1) rfl)) rfl), ⟨9, _, rfl, rfl, rfl⟩, by decide +kernel⟩
set_option maxRecDepth 20000 in
theorem pm_221 : PM ((12, 37), (1, 1, 18, MX10_end)) := ⟨pyX10_end, (gt_in (tch2 (List.mem_of_getElem? (i := 95) rfl)) rfl), (gt_in (tch2 (List.mem_of_getElem? (i := 96) rfl)) rfl), (gt_in (tch2 (List.mem_of_getElem? (i := 97) rfl)) rfl), ⟨8, _, rfl, rfl, rfl⟩, by decide +kernel⟩
set_option maxRecDepth 20000 in
theorem pm_222 : PM ((12, 40), (1, 1, 19, MX11_end)) := ⟨pyX11_end, (gt_in (tch5 (List.mem_of_getElem? (i := 3) rfl)) rfl), (gt_in (tch5 (List.mem_of_getElem? (i := 4) rfl)) rfl), (gt_in (tch5 (List.mem_of_getElem? (i := 5) rfl)) rfl), ⟨9, _, rfl, rfl, rfl⟩, by decide +kernel⟩
set_option maxRecDepth 20000 in
theorem pm_223 : PM ((12, 41), (1, 1, 18, MX10_text)) := ⟨pyX10_text, (gt_in (tch2 (List.mem_of_getElem? (i := 99) rfl)) rfl), (gt_in (tch2 (List.mem_of_getElem? (i := 100) rfl)) rfl), (gt_in (tch2 (List.mem_of_getElem? (i := 101) rfl)) rfl), ⟨8, _, rfl, rfl, rfl⟩, by decide +kernel⟩
set_option maxRecDepth 20000 in
theorem pm_224 : PM ((12, 44), (1, 1, 19, MX11_text)) := ⟨pyX11_text, (gt_in (tch5 (List.mem_of_getElem? (i := 7) rfl)) rfl), (gt_in (tch5 (List.mem_of_getElem? (i := 8) rfl)) rfl), (gt_in (tch5 (List.mem_of_getElem? (i := 9) rfl)) rfl), ⟨9, _, rfl, rfl, rfl⟩, by decide +kernel⟩
set_option maxRecDepth 20000 in
theorem pm_225 : PM ((12, 45), (1, 1, 18, MX10_fault)) := ⟨pyX10_fault, (gt_in (tch3 (List.mem_of_getElem? (i := 27) rfl)) rfl), (gt_in (tch3 (List.mem_of_getElem? (i := 28) rfl)) rfl), (gt_in (tch3 (List.mem_of_getElem? (i := 29) rfl)) rfl), ⟨8, _, rfl, rfl, rfl⟩, by decide +kernel⟩
set_option maxRecDepth 20000 in
theorem pm_226 : PM ((12, 48), (1, 1, 19, MX11_fault)) := ⟨pyX11_fault, (gt_in (tch5 (List.mem_of_getElem? (i := 76) rfl)) rfl), (gt_in (tch5 (List.mem_of_getElem? (i := 77) rfl)) rfl), (gt_in (tch5 (List.mem_of_getElem? (i := 78) rfl)) rfl), ⟨9, _, rfl, rfl, rfl⟩, by decide +kernel⟩
set_option maxRecDepth 20000 in
theorem pm_227 : PM ((12, 49), (1, 2, 18, MX10_sing)) := ⟨pyX10_sing, (gt_in (tch3 (List.mem_of_getElem? (i := 31) rfl)) rfl), (gt_in (tch3 (List.mem_of_getElem? (i := 32) rfl)) rfl), (gt_in (tch3 (List.mem_of_getElem? (i := 33) rfl)) rfl), ⟨8, _, rfl, rfl, rfl⟩, by decide +kernel⟩
set_option maxRecDepth 20000 in
theorem pm_228 : PM ((12, 53), (1, 2, 19, MX11_sing)) := ⟨pyX11_sing, (gt_in (tch5 (List.mem_of_getElem? (i := 80) rfl)) rfl), (gt_in (tch5 (List.mem_of_getElem? (i := 81) rfl)) rfl), (gt_in (tch5 (List.mem_of_getElem? (i := 82) rfl)) rfl), ⟨9, _, rfl, rfl, rfl⟩, by decide +kernel⟩
set_option maxRecDepth 20000 in
theorem pm_229 : PM ((12, 54), (1, 2, 18, MX10_at)) := ⟨pyX10_at, (gt_in (tch3 (List.mem_of_getElem? (i := 117) rfl)) rfl), (gt_in (tch3 (List.mem_of_getElem? (i := 118) rfl)) rfl), (gt_in (tch3 (List.mem_of_getElem? (i := 119) rfl)) rfl), ⟨8, _, rfl, rfl, rfl⟩, by decide +kernel⟩
set_option maxRecDepth 20000 in
theorem pm_230 : PM ((12, 57), (1, 2, 19, MX11_at)) := ⟨pyX11_at, (gt_in (tch5 (List.mem_of_getElem? (i := 134) rfl)) rfl), (gt_in (tch5 (List.mem_of_getElem? (i := 135) rfl)) rfl), (gt_in (tch5 (List.mem_of_getElem? (i := 136) rfl)) rfl), ⟨9, _, rfl, rfl, rfl⟩, by decide +kernel⟩
set_option maxRecDepth 20000 in
theorem pm_231 : PM ((12, 58), (1, 2, 18, MX10_of)) := ⟨pyX10_of, (gt_in (tch3 (List.mem_of_getElem? (i := 122) rfl)) rfl), (gt_in (tch3 (List.mem_of_getElem? (i := 123) rfl)) rfl), (gt_in (tch3 (List.mem_of_getElem? (i := 124) rfl)) rfl), ⟨8, _, rfl, rfl, rfl⟩, by decide +kernel⟩
set_option maxRecDepth 20000 in
theorem pm_232 : PM ((12, 61), (1, 2, 19, MX11_of)) := ⟨pyX11_of, (gt_in (tch5 (List.mem_of_getElem? (i := 138) rfl)) rfl), (gt_in (tch5 (List.mem_of_getElem? (i := 139) rfl)) rfl), (gt_in (tch5 (List.mem_of_getElem? (i := 140) rfl)) rfl), ⟨9, _, rfl, rfl, rfl⟩, by decide +kernel⟩
set_option maxRecDepth 20000 in
theorem pm_233 : PM ((12, 62), (1, 2, 18, MX10_over)) := ⟨pyX10_over, (gt_in (tch3 (List.mem_of_getElem? (i := 129) rfl)) rfl), (gt_in (tch3 (List.mem_of_getElem? (i := 130) rfl)) rfl), (gt_in (tch3 (List.mem_of_getElem? (i := 131) rfl)) rfl), ⟨8, _, rfl, rfl, rfl⟩, by decide +kernel⟩
set_option maxRecDepth 20000 in
theorem pm_234 : PM ((12, 65), (1, 2, 19, MX11_over)) := ⟨pyX11_over, (gt_in (tch5 (List.mem_of_getElem? (i := 146) rfl)) rfl), (gt_in (tch5 (List.mem_of_getElem? (i := 147) rfl)) rfl), (gt_in (tch5 (List.mem_of_getElem? (i := 148) rfl)) rfl), ⟨9, _, rfl, rfl, rfl⟩, by decide +kernel⟩
set_option maxRecDepth 20000 in
theorem pm_235 : PM ((12, 66), (1, 2, 18, MX10_outside)) := ⟨pyX10_outside, (gt_in (tch3 (List.mem_of_getElem? (i := 137) rfl)) rfl), (gt_in (tch3 (List.mem_of_getElem? (i := 138) rfl)) rfl), (gt_in (tch3 (List.mem_of_getElem? (i := 139) rfl)) rfl), ⟨8, _, rfl, rfl, rfl⟩, by decide +kernel⟩
set_option maxRecDepth 20000 in
theorem pm_236 : PM ((12, 69), (1, 2, 19, MX11_outside)) := ⟨pyX11_outside, (gt_in (tch5 (List.mem_of_getElem? (i := 150) rfl)) rfl), (gt_in (tch5 (List.mem_of_getElem? (i := 151) rfl)) rfl), (gt_in (tch5 (List.mem_of_getElem? (i := 152) rfl)) rfl), ⟨9, _, rfl, rfl, rfl⟩, by decide +kernel⟩
set_option maxRecDepth 20000 in
theorem pm_237 : PM ((12, 70), (1, 2, 18, MX10_back)) := ⟨pyX10_back, (gt_in (tch3 (List.mem_of_getElem? (i := 145) rfl)) rfl), (gt_in (tch3 (List.mem_of_getElem? (i := 146) rfl)) rfl), (gt_in (tch3 (List.mem_of_getElem? (i := 147) rfl)) rfl), ⟨8, _, rfl, rfl, rfl⟩, by decide +kernel⟩
set_option maxRecDepth 20000 in
theorem pm_238 : PM ((12, 73), (1, 2, 19, MX11_back)) := ⟨pyX11_back, (gt_in (tch5 (List.mem_of_getElem? (i := 154) rfl)) rfl), (gt_in (tch5 (List.mem_of_getElem? (i := 155) rfl)) rfl), (gt_in (tch5 (List.mem_of_getElem? (i := 156) rfl)) rfl), ⟨9, _, rfl, rfl, rfl⟩, by decide +kernel⟩
set_option maxRecDepth 20000 in
theorem pm_239 : PM ((12, 74), (1, 4, 18, MX10_where)) := ⟨pyX10_where, (gt_in (tch3 (List.mem_of_getElem? (i := 173) rfl)) rfl), (gt_in (tch3 (List.mem_of_getElem? (i := 174) rfl)) rfl), (gt_in (tch3 (List.mem_of_getElem? (i := 175) rfl)) rfl), ⟨8, _, rfl, rfl, rfl⟩, by decide +kernel⟩
set_option maxRecDepth 20000 in
theorem pm_240 : PM ((12, 78), (1, 4, 19, MX11_where)) := ⟨pyX11_where, (gt_in (tch5 (List.mem_of_getElem? (i := 166) rfl)) rfl), (gt_in (tch5 (List.mem_of_getElem? (i := 167) rfl)) rfl), (gt_in (tch5 (List.mem_of_getElem? (i := 168) rfl)) rfl), ⟨9, _, rfl, rfl, rfl⟩, by decide +kernel⟩
set_option maxRecDepth 20000 in
theorem pm_241 : PM ((12, 79), (1, 2, 18, MX10_want)) := ⟨pyX10_want, (gt_in (tch3 (List.mem_of_getElem? (i := 186) rfl)) rfl), (gt_in (tch3 (List.mem_of_getElem? (i := 187) rfl)) rfl), (gt_in (tch3 (List.mem_of_getElem? (i := 188) rfl)) rfl), ⟨8, _, rfl, rfl, rfl⟩, by decide +kernel⟩
set_option maxRecDepth 20000 in
theorem pm_242 : PM ((12, 82), (1, 2, 19, MX11_want)) := ⟨pyX11_want, (gt_in (tch5 (List.mem_of_getElem? (i := 170) rfl)) rfl), (gt_in (tch5 (List.mem_of_getElem? (i := 171) rfl)) rfl), (gt_in (tch5 (List.mem_of_getElem? (i := 172) rfl)) rfl), ⟨9, _, rfl, rfl, rfl⟩, by decide +kernel⟩
set_option maxRecDepth 20000 in
theorem pm_243 : PM ((12, 83), (1, 1, 18, MX10_fewest)) := ⟨pyX10_fewest, (gt_in (tch3 (List.mem_of_getElem? (i := 190) rfl)) rfl), (gt_in (tch3 (List.mem_of_getElem? (i := 191) rfl)) rfl), (gt_in (tch3 (List.mem_of_getElem? (i := 192) rfl)) rfl), ⟨8, _, rfl, rfl, rfl⟩, by decide +kernel⟩
set_option maxRecDepth 20000 in
theorem pm_244 : PM ((12, 86), (1, 1, 19, MX11_fewest)) := ⟨pyX11_fewest, (gt_in (tch5 (List.mem_of_getElem? (i := 174) rfl)) rfl), (gt_in (tch5 (List.mem_of_getElem? (i := 175) rfl)) rfl), (gt_in (tch5 (List.mem_of_getElem? (i := 176) rfl)) rfl), ⟨9, _, rfl, rfl, rfl⟩, by decide +kernel⟩
set_option maxRecDepth 20000 in
theorem pm_245 : PM ((12, 87), (1, 1, 18, MX10_cut)) := ⟨pyX10_cut, (gt_in (tch3 (List.mem_of_getElem? (i := 219) rfl)) rfl), (gt_in (tch3 (List.mem_of_getElem? (i := 220) rfl)) rfl), (gt_in (tch3 (List.mem_of_getElem? (i := 221) rfl)) rfl), ⟨8, _, rfl, rfl, rfl⟩, by decide +kernel⟩
set_option maxRecDepth 20000 in
theorem pm_246 : PM ((12, 90), (1, 1, 19, MX11_cut)) := ⟨pyX11_cut, (gt_in (tch5 (List.mem_of_getElem? (i := 200) rfl)) rfl), (gt_in (tch5 (List.mem_of_getElem? (i := 201) rfl)) rfl), (gt_in (tch5 (List.mem_of_getElem? (i := 202) rfl)) rfl), ⟨9, _, rfl, rfl, rfl⟩, by decide +kernel⟩
set_option maxRecDepth 20000 in
theorem pm_247 : PM ((12, 91), (1, 3, 18, MX10_dropped)) := ⟨pyX10_dropped, (gt_in (tch3 (List.mem_of_getElem? (i := 226) rfl)) rfl), (gt_in (tch3 (List.mem_of_getElem? (i := 227) rfl)) rfl), (gt_in (tch3 (List.mem_of_getElem? (i := 228) rfl)) rfl), ⟨8, _, rfl, rfl, rfl⟩, by decide +kernel⟩
set_option maxRecDepth 20000 in
theorem pm_248 : PM ((12, 95), (1, 3, 19, MX11_dropped)) := ⟨pyX11_dropped, (gt_in (tch5 (List.mem_of_getElem? (i := 212) rfl)) rfl), (gt_in (tch5 (List.mem_of_getElem? (i := 213) rfl)) rfl), (gt_in (tch5 (List.mem_of_getElem? (i := 214) rfl)) rfl), ⟨9, _, rfl, rfl, rfl⟩, by decide +kernel⟩
set_option maxRecDepth 20000 in
theorem pm_249 : PM ((12, 96), (1, 2, 18, MX10_beats)) := ⟨pyX10_beats, (gt_in (tch3 (List.mem_of_getElem? (i := 235) rfl)) rfl), (gt_in (tch3 (List.mem_of_getElem? (i := 236) rfl)) rfl), (gt_in (tch3 (List.mem_of_getElem? (i := 237) rfl)) rfl), ⟨8, _, rfl, rfl, rfl⟩, by decide +kernel⟩
set_option maxRecDepth 20000 in
theorem pm_250 : PM ((12, 99), (1, 2, 19, MX11_beats)) := ⟨pyX11_beats, (gt_in (tch5 (List.mem_of_getElem? (i := 236) rfl)) rfl), (gt_in (tch5 (List.mem_of_getElem? (i := 237) rfl)) rfl), (gt_in (tch5 (List.mem_of_getElem? (i := 238) rfl)) rfl), ⟨9, _, rfl, rfl, rfl⟩, by decide +kernel⟩
set_option maxRecDepth 20000 in
theorem pm_251 : PM ((12, 100), (1, 2, 18, MX10_name)) := ⟨pyX10_name, (gt_in (tch4 (List.mem_of_getElem? (i := 18) rfl)) rfl), (gt_in (tch4 (List.mem_of_getElem? (i := 19) rfl)) rfl), (gt_in (tch4 (List.mem_of_getElem? (i := 20) rfl)) rfl), ⟨8, _, rfl, rfl, rfl⟩, by decide +kernel⟩
set_option maxRecDepth 20000 in
theorem pm_252 : PM ((12, 103), (1, 2, 19, MX11_name)) := ⟨pyX11_name, (gt_in (tch6 (List.mem_of_getElem? (i := 7) rfl)) rfl), (gt_in (tch6 (List.mem_of_getElem? (i := 8) rfl)) rfl), (gt_in (tch6 (List.mem_of_getElem? (i := 9) rfl)) rfl), ⟨9, _, rfl, rfl, rfl⟩, by decide +kernel⟩
set_option maxRecDepth 20000 in
theorem pm_253 : PM ((12, 104), (1, 1, 18, MX10_lay)) := ⟨pyX10_lay, (gt_in (tch4 (List.mem_of_getElem? (i := 22) rfl)) rfl), (gt_in (tch4 (List.mem_of_getElem? (i := 23) rfl)) rfl), (gt_in (tch4 (List.mem_of_getElem? (i := 24) rfl)) rfl), ⟨8, _, rfl, rfl, rfl⟩, by decide +kernel⟩
set_option maxRecDepth 20000 in
theorem pm_254 : PM ((12, 107), (1, 1, 19, MX11_lay)) := ⟨pyX11_lay, (gt_in (tch6 (List.mem_of_getElem? (i := 11) rfl)) rfl), (gt_in (tch6 (List.mem_of_getElem? (i := 12) rfl)) rfl), (gt_in (tch6 (List.mem_of_getElem? (i := 13) rfl)) rfl), ⟨9, _, rfl, rfl, rfl⟩, by decide +kernel⟩
set_option maxRecDepth 20000 in
theorem pm_255 : PM ((12, 108), (1, 1, 18, MX10_pulled)) := ⟨pyX10_pulled, (gt_in (tch4 (List.mem_of_getElem? (i := 43) rfl)) rfl), (gt_in (tch4 (List.mem_of_getElem? (i := 44) rfl)) rfl), (gt_in (tch4 (List.mem_of_getElem? (i := 45) rfl)) rfl), ⟨8, _, rfl, rfl, rfl⟩, by decide +kernel⟩
set_option maxRecDepth 20000 in
theorem pm_256 : PM ((12, 111), (1, 1, 19, MX11_pulled)) := ⟨pyX11_pulled, (gt_in (tch6 (List.mem_of_getElem? (i := 15) rfl)) rfl), (gt_in (tch6 (List.mem_of_getElem? (i := 16) rfl)) rfl), (gt_in (tch6 (List.mem_of_getElem? (i := 17) rfl)) rfl), ⟨9, _, rfl, rfl, rfl⟩, by decide +kernel⟩
set_option maxRecDepth 20000 in
theorem pm_257 : PM ((12, 112), (1, 1, 18, MX10_loops)) := ⟨pyX10_loops, (gt_in (tch4 (List.mem_of_getElem? (i := 56) rfl)) rfl), (gt_in (tch4 (List.mem_of_getElem? (i := 57) rfl)) rfl), (gt_in (tch4 (List.mem_of_getElem? (i := 58) rfl)) rfl), ⟨8, _, rfl, rfl, rfl⟩, by decide +kernel⟩
set_option maxRecDepth 20000 in
theorem pm_258 : PM ((12, 115), (1, 1, 19, MX11_loops)) := ⟨pyX11_loops, (gt_in (tch6 (List.mem_of_getElem? (i := 23) rfl)) rfl), (gt_in (tch6 (List.mem_of_getElem? (i := 24) rfl)) rfl), (gt_in (tch6 (List.mem_of_getElem? (i := 25) rfl)) rfl), ⟨9, _, rfl, rfl, rfl⟩, by decide +kernel⟩
set_option maxRecDepth 20000 in
theorem pm_259 : PM ((12, 116), (1, 2, 18, MX10_alike)) := ⟨pyX10_alike, (gt_in (tch4 (List.mem_of_getElem? (i := 69) rfl)) rfl), (gt_in (tch4 (List.mem_of_getElem? (i := 70) rfl)) rfl), (gt_in (tch4 (List.mem_of_getElem? (i := 71) rfl)) rfl), ⟨8, _, rfl, rfl, rfl⟩, by decide +kernel⟩
set_option maxRecDepth 20000 in
theorem pm_260 : PM ((12, 119), (1, 2, 19, MX11_alike)) := ⟨pyX11_alike, (gt_in (tch5 (List.mem_of_getElem? (i := 220) rfl)) rfl), (gt_in (tch5 (List.mem_of_getElem? (i := 221) rfl)) rfl), (gt_in (tch5 (List.mem_of_getElem? (i := 222) rfl)) rfl), ⟨9, _, rfl, rfl, rfl⟩, by decide +kernel⟩
set_option maxRecDepth 20000 in
theorem pm_261 : PM ((12, 120), (1, 1, 18, MX10_period)) := ⟨pyX10_period, (gt_in (tch4 (List.mem_of_getElem? (i := 83) rfl)) rfl), (gt_in (tch4 (List.mem_of_getElem? (i := 84) rfl)) rfl), (gt_in (tch4 (List.mem_of_getElem? (i := 85) rfl)) rfl), ⟨8, _, rfl, rfl, rfl⟩, by decide +kernel⟩
set_option maxRecDepth 20000 in
theorem pm_262 : PM ((12, 123), (1, 1, 19, MX11_period)) := ⟨pyX11_period, (gt_in (tch5 (List.mem_of_getElem? (i := 228) rfl)) rfl), (gt_in (tch5 (List.mem_of_getElem? (i := 229) rfl)) rfl), (gt_in (tch5 (List.mem_of_getElem? (i := 230) rfl)) rfl), ⟨9, _, rfl, rfl, rfl⟩, by decide +kernel⟩
set_option maxRecDepth 20000 in
theorem pm_263 : PM ((12, 124), (1, 0, 18, MX10_undo)) := ⟨pyX10_undo, (gt_in (tch4 (List.mem_of_getElem? (i := 92) rfl)) rfl), (gt_in (tch4 (List.mem_of_getElem? (i := 93) rfl)) rfl), (gt_in (tch4 (List.mem_of_getElem? (i := 94) rfl)) rfl), ⟨8, _, rfl, rfl, rfl⟩, by decide +kernel⟩
set_option maxRecDepth 20000 in
theorem pm_264 : PM ((12, 128), (1, 0, 19, MX11_undo)) := ⟨pyX11_undo, (gt_in (tch5 (List.mem_of_getElem? (i := 130) rfl)) rfl), (gt_in (tch5 (List.mem_of_getElem? (i := 131) rfl)) rfl), (gt_in (tch5 (List.mem_of_getElem? (i := 132) rfl)) rfl), ⟨9, _, rfl, rfl, rfl⟩, by decide +kernel⟩
set_option maxRecDepth 20000 in
theorem pm_265 : PM ((12, 129), (1, 1, 18, MX10_image)) := ⟨pyX10_image, (gt_in (tch4 (List.mem_of_getElem? (i := 100) rfl)) rfl), (gt_in (tch4 (List.mem_of_getElem? (i := 101) rfl)) rfl), (gt_in (tch4 (List.mem_of_getElem? (i := 102) rfl)) rfl), ⟨8, _, rfl, rfl, rfl⟩, by decide +kernel⟩
set_option maxRecDepth 20000 in
theorem pm_266 : PM ((12, 133), (1, 1, 19, MX11_image)) := ⟨pyX11_image, (gt_in (tch6 (List.mem_of_getElem? (i := 35) rfl)) rfl), (gt_in (tch6 (List.mem_of_getElem? (i := 36) rfl)) rfl), (gt_in (tch6 (List.mem_of_getElem? (i := 37) rfl)) rfl), ⟨9, _, rfl, rfl, rfl⟩, by decide +kernel⟩
set_option maxRecDepth 20000 in
theorem pm_267 : PM ((12, 134), (1, 1, 18, MX10_look)) := ⟨pyX10_look, (gt_in (tch4 (List.mem_of_getElem? (i := 111) rfl)) rfl), (gt_in (tch4 (List.mem_of_getElem? (i := 112) rfl)) rfl), (gt_in (tch4 (List.mem_of_getElem? (i := 113) rfl)) rfl), ⟨8, _, rfl, rfl, rfl⟩, by decide +kernel⟩
set_option maxRecDepth 20000 in
theorem pm_268 : PM ((12, 137), (1, 1, 19, MX11_look)) := ⟨pyX11_look, (gt_in (tch6 (List.mem_of_getElem? (i := 39) rfl)) rfl), (gt_in (tch6 (List.mem_of_getElem? (i := 40) rfl)) rfl), (gt_in (tch6 (List.mem_of_getElem? (i := 41) rfl)) rfl), ⟨9, _, rfl, rfl, rfl⟩, by decide +kernel⟩
set_option maxRecDepth 20000 in
theorem mlW : ∀ e ∈ mlT, PM e := (List.forall_mem_cons.mpr ⟨pm_0, (List.forall_mem_cons.mpr ⟨pm_1, (List.forall_mem_cons.mpr ⟨pm_2, (List.forall_mem_cons.mpr ⟨pm_3, (List.forall_mem_cons.mpr ⟨pm_4, (List.forall_mem_cons.mpr ⟨pm_5, (List.forall_mem_cons.mpr ⟨pm_6, (List.forall_mem_cons.mpr ⟨pm_7, (List.forall_mem_cons.mpr ⟨pm_8, (List.forall_mem_cons.mpr ⟨pm_9, (List.forall_mem_cons.mpr ⟨pm_10, (List.forall_mem_cons.mpr ⟨pm_11, (List.forall_mem_cons.mpr ⟨pm_12, (List.forall_mem_cons.mpr ⟨pm_13, (List.forall_mem_cons.mpr ⟨pm_14, (List.forall_mem_cons.mpr ⟨pm_15, (List.forall_mem_cons.mpr ⟨pm_16, (List.forall_mem_cons.mpr ⟨pm_17, (List.forall_mem_cons.mpr ⟨pm_18, (List.forall_mem_cons.mpr ⟨pm_19, (List.forall_mem_cons.mpr ⟨pm_20, (List.forall_mem_cons.mpr ⟨pm_21, (List.forall_mem_cons.mpr ⟨pm_22, (List.forall_mem_cons.mpr ⟨pm_23, (List.forall_mem_cons.mpr ⟨pm_24, (List.forall_mem_cons.mpr ⟨pm_25, (List.forall_mem_cons.mpr ⟨pm_26, (List.forall_mem_cons.mpr ⟨pm_27, (List.forall_mem_cons.mpr ⟨pm_28, (List.forall_mem_cons.mpr ⟨pm_29, (List.forall_mem_cons.mpr ⟨pm_30, (List.forall_mem_cons.mpr ⟨pm_31, (List.forall_mem_cons.mpr ⟨pm_32, (List.forall_mem_cons.mpr ⟨pm_33, (List.forall_mem_cons.mpr ⟨pm_34, (List.forall_mem_cons.mpr ⟨pm_35, (List.forall_mem_cons.mpr ⟨pm_36, (List.forall_mem_cons.mpr ⟨pm_37, (List.forall_mem_cons.mpr ⟨pm_38, (List.forall_mem_cons.mpr ⟨pm_39, (List.forall_mem_cons.mpr ⟨pm_40, (List.forall_mem_cons.mpr ⟨pm_41, (List.forall_mem_cons.mpr ⟨pm_42, (List.forall_mem_cons.mpr ⟨pm_43, (List.forall_mem_cons.mpr ⟨pm_44, (List.forall_mem_cons.mpr ⟨pm_45, (List.forall_mem_cons.mpr ⟨pm_46, (List.forall_mem_cons.mpr ⟨pm_47, (List.forall_mem_cons.mpr ⟨pm_48, (List.forall_mem_cons.mpr ⟨pm_49, (List.forall_mem_cons.mpr ⟨pm_50, (List.forall_mem_cons.mpr ⟨pm_51, (List.forall_mem_cons.mpr ⟨pm_52, (List.forall_mem_cons.mpr ⟨pm_53, (List.forall_mem_cons.mpr ⟨pm_54, (List.forall_mem_cons.mpr ⟨pm_55, (List.forall_mem_cons.mpr ⟨pm_56, (List.forall_mem_cons.mpr ⟨pm_57, (List.forall_mem_cons.mpr ⟨pm_58, (List.forall_mem_cons.mpr ⟨pm_59, (List.forall_mem_cons.mpr ⟨pm_60, (List.forall_mem_cons.mpr ⟨pm_61, (List.forall_mem_cons.mpr ⟨pm_62, (List.forall_mem_cons.mpr ⟨pm_63, (List.forall_mem_cons.mpr ⟨pm_64, (List.forall_mem_cons.mpr ⟨pm_65, (List.forall_mem_cons.mpr ⟨pm_66, (List.forall_mem_cons.mpr ⟨pm_67, (List.forall_mem_cons.mpr ⟨pm_68, (List.forall_mem_cons.mpr ⟨pm_69, (List.forall_mem_cons.mpr ⟨pm_70, (List.forall_mem_cons.mpr ⟨pm_71, (List.forall_mem_cons.mpr ⟨pm_72, (List.forall_mem_cons.mpr ⟨pm_73, (List.forall_mem_cons.mpr ⟨pm_74, (List.forall_mem_cons.mpr ⟨pm_75, (List.forall_mem_cons.mpr ⟨pm_76, (List.forall_mem_cons.mpr ⟨pm_77, (List.forall_mem_cons.mpr ⟨pm_78, (List.forall_mem_cons.mpr ⟨pm_79, (List.forall_mem_cons.mpr ⟨pm_80, (List.forall_mem_cons.mpr ⟨pm_81, (List.forall_mem_cons.mpr ⟨pm_82, (List.forall_mem_cons.mpr ⟨pm_83, (List.forall_mem_cons.mpr ⟨pm_84, (List.forall_mem_cons.mpr ⟨pm_85, (List.forall_mem_cons.mpr ⟨pm_86, (List.forall_mem_cons.mpr ⟨pm_87, (List.forall_mem_cons.mpr ⟨pm_88, (List.forall_mem_cons.mpr ⟨pm_89, (List.forall_mem_cons.mpr ⟨pm_90, (List.forall_mem_cons.mpr ⟨pm_91, (List.forall_mem_cons.mpr ⟨pm_92, (List.forall_mem_cons.mpr ⟨pm_93, (List.forall_mem_cons.mpr ⟨pm_94, (List.forall_mem_cons.mpr ⟨pm_95, (List.forall_mem_cons.mpr ⟨pm_96, (List.forall_mem_cons.mpr ⟨pm_97, (List.forall_mem_cons.mpr ⟨pm_98, (List.forall_mem_cons.mpr ⟨pm_99, (List.forall_mem_cons.mpr ⟨pm_100, (List.forall_mem_cons.mpr ⟨pm_101, (List.forall_mem_cons.mpr ⟨pm_102, (List.forall_mem_cons.mpr ⟨pm_103, (List.forall_mem_cons.mpr ⟨pm_104, (List.forall_mem_cons.mpr ⟨pm_105, (List.forall_mem_cons.mpr ⟨pm_106, (List.forall_mem_cons.mpr ⟨pm_107, (List.forall_mem_cons.mpr ⟨pm_108, (List.forall_mem_cons.mpr ⟨pm_109, (List.forall_mem_cons.mpr ⟨pm_110, (List.forall_mem_cons.mpr ⟨pm_111, (List.forall_mem_cons.mpr ⟨pm_112, (List.forall_mem_cons.mpr ⟨pm_113, (List.forall_mem_cons.mpr ⟨pm_114, (List.forall_mem_cons.mpr ⟨pm_115, (List.forall_mem_cons.mpr ⟨pm_116, (List.forall_mem_cons.mpr ⟨pm_117, (List.forall_mem_cons.mpr ⟨pm_118, (List.forall_mem_cons.mpr ⟨pm_119, (List.forall_mem_cons.mpr ⟨pm_120, (List.forall_mem_cons.mpr ⟨pm_121, (List.forall_mem_cons.mpr ⟨pm_122, (List.forall_mem_cons.mpr ⟨pm_123, (List.forall_mem_cons.mpr ⟨pm_124, (List.forall_mem_cons.mpr ⟨pm_125, (List.forall_mem_cons.mpr ⟨pm_126, (List.forall_mem_cons.mpr ⟨pm_127, (List.forall_mem_cons.mpr ⟨pm_128, (List.forall_mem_cons.mpr ⟨pm_129, (List.forall_mem_cons.mpr ⟨pm_130, (List.forall_mem_cons.mpr ⟨pm_131, (List.forall_mem_cons.mpr ⟨pm_132, (List.forall_mem_cons.mpr ⟨pm_133, (List.forall_mem_cons.mpr ⟨pm_134, (List.forall_mem_cons.mpr ⟨pm_135, (List.forall_mem_cons.mpr ⟨pm_136, (List.forall_mem_cons.mpr ⟨pm_137, (List.forall_mem_cons.mpr ⟨pm_138, (List.forall_mem_cons.mpr ⟨pm_139, (List.forall_mem_cons.mpr ⟨pm_140, (List.forall_mem_cons.mpr ⟨pm_141, (List.forall_mem_cons.mpr ⟨pm_142, (List.forall_mem_cons.mpr ⟨pm_143, (List.forall_mem_cons.mpr ⟨pm_144, (List.forall_mem_cons.mpr ⟨pm_145, (List.forall_mem_cons.mpr ⟨pm_146, (List.forall_mem_cons.mpr ⟨pm_147, (List.forall_mem_cons.mpr ⟨pm_148, (List.forall_mem_cons.mpr ⟨pm_149, (List.forall_mem_cons.mpr ⟨pm_150, (List.forall_mem_cons.mpr ⟨pm_151, (List.forall_mem_cons.mpr ⟨pm_152, (List.forall_mem_cons.mpr ⟨pm_153, (List.forall_mem_cons.mpr ⟨pm_154, (List.forall_mem_cons.mpr ⟨pm_155, (List.forall_mem_cons.mpr ⟨pm_156, (List.forall_mem_cons.mpr ⟨pm_157, (List.forall_mem_cons.mpr ⟨pm_158, (List.forall_mem_cons.mpr ⟨pm_159, (List.forall_mem_cons.mpr ⟨pm_160, (List.forall_mem_cons.mpr ⟨pm_161, (List.forall_mem_cons.mpr ⟨pm_162, (List.forall_mem_cons.mpr ⟨pm_163, (List.forall_mem_cons.mpr ⟨pm_164, (List.forall_mem_cons.mpr ⟨pm_165, (List.forall_mem_cons.mpr ⟨pm_166, (List.forall_mem_cons.mpr ⟨pm_167, (List.forall_mem_cons.mpr ⟨pm_168, (List.forall_mem_cons.mpr ⟨pm_169, (List.forall_mem_cons.mpr ⟨pm_170, (List.forall_mem_cons.mpr ⟨pm_171, (List.forall_mem_cons.mpr ⟨pm_172, (List.forall_mem_cons.mpr ⟨pm_173, (List.forall_mem_cons.mpr ⟨pm_174, (List.forall_mem_cons.mpr ⟨pm_175, (List.forall_mem_cons.mpr ⟨pm_176, (List.forall_mem_cons.mpr ⟨pm_177, (List.forall_mem_cons.mpr ⟨pm_178, (List.forall_mem_cons.mpr ⟨pm_179, (List.forall_mem_cons.mpr ⟨pm_180, (List.forall_mem_cons.mpr ⟨pm_181, (List.forall_mem_cons.mpr ⟨pm_182, (List.forall_mem_cons.mpr ⟨pm_183, (List.forall_mem_cons.mpr ⟨pm_184, (List.forall_mem_cons.mpr ⟨pm_185, (List.forall_mem_cons.mpr ⟨pm_186, (List.forall_mem_cons.mpr ⟨pm_187, (List.forall_mem_cons.mpr ⟨pm_188, (List.forall_mem_cons.mpr ⟨pm_189, (List.forall_mem_cons.mpr ⟨pm_190, (List.forall_mem_cons.mpr ⟨pm_191, (List.forall_mem_cons.mpr ⟨pm_192, (List.forall_mem_cons.mpr ⟨pm_193, (List.forall_mem_cons.mpr ⟨pm_194, (List.forall_mem_cons.mpr ⟨pm_195, (List.forall_mem_cons.mpr ⟨pm_196, (List.forall_mem_cons.mpr ⟨pm_197, (List.forall_mem_cons.mpr ⟨pm_198, (List.forall_mem_cons.mpr ⟨pm_199, (List.forall_mem_cons.mpr ⟨pm_200, (List.forall_mem_cons.mpr ⟨pm_201, (List.forall_mem_cons.mpr ⟨pm_202, (List.forall_mem_cons.mpr ⟨pm_203, (List.forall_mem_cons.mpr ⟨pm_204, (List.forall_mem_cons.mpr ⟨pm_205, (List.forall_mem_cons.mpr ⟨pm_206, (List.forall_mem_cons.mpr ⟨pm_207, (List.forall_mem_cons.mpr ⟨pm_208, (List.forall_mem_cons.mpr ⟨pm_209, (List.forall_mem_cons.mpr ⟨pm_210, (List.forall_mem_cons.mpr ⟨pm_211, (List.forall_mem_cons.mpr ⟨pm_212, (List.forall_mem_cons.mpr ⟨pm_213, (List.forall_mem_cons.mpr ⟨pm_214, (List.forall_mem_cons.mpr ⟨pm_215, (List.forall_mem_cons.mpr ⟨pm_216, (List.forall_mem_cons.mpr ⟨pm_217, (List.forall_mem_cons.mpr ⟨pm_218, (List.forall_mem_cons.mpr ⟨pm_219, (List.forall_mem_cons.mpr ⟨pm_220, (List.forall_mem_cons.mpr ⟨pm_221, (List.forall_mem_cons.mpr ⟨pm_222, (List.forall_mem_cons.mpr ⟨pm_223, (List.forall_mem_cons.mpr ⟨pm_224, (List.forall_mem_cons.mpr ⟨pm_225, (List.forall_mem_cons.mpr ⟨pm_226, (List.forall_mem_cons.mpr ⟨pm_227, (List.forall_mem_cons.mpr ⟨pm_228, (List.forall_mem_cons.mpr ⟨pm_229, (List.forall_mem_cons.mpr ⟨pm_230, (List.forall_mem_cons.mpr ⟨pm_231, (List.forall_mem_cons.mpr ⟨pm_232, (List.forall_mem_cons.mpr ⟨pm_233, (List.forall_mem_cons.mpr ⟨pm_234, (List.forall_mem_cons.mpr ⟨pm_235, (List.forall_mem_cons.mpr ⟨pm_236, (List.forall_mem_cons.mpr ⟨pm_237, (List.forall_mem_cons.mpr ⟨pm_238, (List.forall_mem_cons.mpr ⟨pm_239, (List.forall_mem_cons.mpr ⟨pm_240, (List.forall_mem_cons.mpr ⟨pm_241, (List.forall_mem_cons.mpr ⟨pm_242, (List.forall_mem_cons.mpr ⟨pm_243, (List.forall_mem_cons.mpr ⟨pm_244, (List.forall_mem_cons.mpr ⟨pm_245, (List.forall_mem_cons.mpr ⟨pm_246, (List.forall_mem_cons.mpr ⟨pm_247, (List.forall_mem_cons.mpr ⟨pm_248, (List.forall_mem_cons.mpr ⟨pm_249, (List.forall_mem_cons.mpr ⟨pm_250, (List.forall_mem_cons.mpr ⟨pm_251, (List.forall_mem_cons.mpr ⟨pm_252, (List.forall_mem_cons.mpr ⟨pm_253, (List.forall_mem_cons.mpr ⟨pm_254, (List.forall_mem_cons.mpr ⟨pm_255, (List.forall_mem_cons.mpr ⟨pm_256, (List.forall_mem_cons.mpr ⟨pm_257, (List.forall_mem_cons.mpr ⟨pm_258, (List.forall_mem_cons.mpr ⟨pm_259, (List.forall_mem_cons.mpr ⟨pm_260, (List.forall_mem_cons.mpr ⟨pm_261, (List.forall_mem_cons.mpr ⟨pm_262, (List.forall_mem_cons.mpr ⟨pm_263, (List.forall_mem_cons.mpr ⟨pm_264, (List.forall_mem_cons.mpr ⟨pm_265, (List.forall_mem_cons.mpr ⟨pm_266, (List.forall_mem_cons.mpr ⟨pm_267, (List.forall_mem_cons.mpr ⟨pm_268, (fun _ h => absurd h List.not_mem_nil)⟩)⟩)⟩)⟩)⟩)⟩)⟩)⟩)⟩)⟩)⟩)⟩)⟩)⟩)⟩)⟩)⟩)⟩)⟩)⟩)⟩)⟩)⟩)⟩)⟩)⟩)⟩)⟩)⟩)⟩)⟩)⟩)⟩)⟩)⟩)⟩)⟩)⟩)⟩)⟩)⟩)⟩)⟩)⟩)⟩)⟩)⟩)⟩)⟩)⟩)⟩)⟩)⟩)⟩)⟩)⟩)⟩)⟩)⟩)⟩)⟩)⟩)⟩)⟩)⟩)⟩)⟩)⟩)⟩)⟩)⟩)⟩)⟩)⟩)⟩)⟩)⟩)⟩)⟩)⟩)⟩)⟩)⟩)⟩)⟩)⟩)⟩)⟩)⟩)⟩)⟩)⟩)⟩)⟩)⟩)⟩)⟩)⟩)⟩)⟩)⟩)⟩)⟩)⟩)⟩)⟩)⟩)⟩)⟩)⟩)⟩)⟩)⟩)⟩)⟩)⟩)⟩)⟩)⟩)⟩)⟩)⟩)⟩)⟩)⟩)⟩)⟩)⟩)⟩)⟩)⟩)⟩)⟩)⟩)⟩)⟩)⟩)⟩)⟩)⟩)⟩)⟩)⟩)⟩)⟩)⟩)⟩)⟩)⟩)⟩)⟩)⟩)⟩)⟩)⟩)⟩)⟩)⟩)⟩)⟩)⟩)⟩)⟩)⟩)⟩)⟩)⟩)⟩)⟩)⟩)⟩)⟩)⟩)⟩)⟩)⟩)⟩)⟩)⟩)⟩)⟩)⟩)⟩)⟩)⟩)⟩)⟩)⟩)⟩)⟩)⟩)⟩)⟩)⟩)⟩)⟩)⟩)⟩)⟩)⟩)⟩)⟩)⟩)⟩)⟩)⟩)⟩)⟩)⟩)⟩)⟩)⟩)⟩)⟩)⟩)⟩)⟩)⟩)⟩)⟩)⟩)⟩)⟩)⟩)⟩)⟩)⟩)⟩)⟩)⟩)⟩)⟩)⟩)⟩)⟩)⟩)⟩)⟩)⟩)⟩)⟩)⟩)⟩)⟩)⟩)⟩)⟩)⟩)⟩)⟩)⟩)⟩)⟩)⟩)⟩)⟩)⟩)⟩)⟩)⟩)⟩)⟩)⟩)⟩)⟩)⟩)⟩)⟩)⟩)
set_option maxRecDepth 20000 in
theorem lkp_mem {α : Type} {t : List ((Nat × Nat) × α)} {c i : Nat} {v : α} (h : lkp t c i = some v) : ((c, i), v) ∈ t := by
  unfold lkp at h
  cases hf : t.find? (fun e => e.1.1 == c && e.1.2 == i) with
  | none => rw [hf] at h; cases h
  | some e =>
    rw [hf] at h
    have h1 := List.mem_of_find?_eq_some hf
    have h2 := List.find?_some hf
    simp only [Bool.and_eq_true, beq_iff_eq] at h2
    obtain ⟨⟨a, b⟩, w⟩ := e
    simp only [Option.map_some, Option.some.injEq] at h
    obtain ⟨rfl, rfl⟩ := h2
    subst h
    exact h1
set_option maxRecDepth 20000 in
theorem newW : ∀ e ∈ newT, ∃ q : vw_C, vwCl[e.2]? = some q ∧ Cond.classLink (clsN e.1.1) e.1.2 q.1 ∈ gt := (List.forall_mem_cons.mpr ⟨⟨_, rfl, (gt_in (tch1 (List.mem_of_getElem? (i := 223) rfl)) rfl)⟩, (List.forall_mem_cons.mpr ⟨⟨_, rfl, (gt_in (tch1 (List.mem_of_getElem? (i := 35) rfl)) rfl)⟩, (List.forall_mem_cons.mpr ⟨⟨_, rfl, (gt_in (tch1 (List.mem_of_getElem? (i := 67) rfl)) rfl)⟩, (List.forall_mem_cons.mpr ⟨⟨_, rfl, (gt_in (tch1 (List.mem_of_getElem? (i := 136) rfl)) rfl)⟩, (List.forall_mem_cons.mpr ⟨⟨_, rfl, (gt_in (tch1 (List.mem_of_getElem? (i := 138) rfl)) rfl)⟩, (List.forall_mem_cons.mpr ⟨⟨_, rfl, (gt_in (tch1 (List.mem_of_getElem? (i := 29) rfl)) rfl)⟩, (List.forall_mem_cons.mpr ⟨⟨_, rfl, (gt_in (tch1 (List.mem_of_getElem? (i := 130) rfl)) rfl)⟩, (List.forall_mem_cons.mpr ⟨⟨_, rfl, (gt_in (tch1 (List.mem_of_getElem? (i := 217) rfl)) rfl)⟩, (List.forall_mem_cons.mpr ⟨⟨_, rfl, (gt_in (tch1 (List.mem_of_getElem? (i := 237) rfl)) rfl)⟩, (List.forall_mem_cons.mpr ⟨⟨_, rfl, (gt_in (tch2 (List.mem_of_getElem? (i := 7) rfl)) rfl)⟩, (List.forall_mem_cons.mpr ⟨⟨_, rfl, (gt_in (tch2 (List.mem_of_getElem? (i := 20) rfl)) rfl)⟩, (List.forall_mem_cons.mpr ⟨⟨_, rfl, (gt_in (tch1 (List.mem_of_getElem? (i := 21) rfl)) rfl)⟩, (List.forall_mem_cons.mpr ⟨⟨_, rfl, (gt_in (tch4 (List.mem_of_getElem? (i := 115) rfl)) rfl)⟩, (fun _ h => absurd h List.not_mem_nil)⟩)⟩)⟩)⟩)⟩)⟩)⟩)⟩)⟩)⟩)⟩)⟩)⟩)
def aoT (kd : Nat) : String := if kd = 3 then RX7 else RX1
set_option maxRecDepth 20000 in
theorem anewW : ∀ e ∈ anewT, (e.2 = 3 ∨ e.2 = 4) ∧ Cond.classLink (clsN e.1.1) e.1.2 (aoT e.2) ∈ gt ∧ Cond.arrayOver (.object (aoT e.2)) ∈ tables_1 := (List.forall_mem_cons.mpr ⟨⟨by decide, (gt_in (tch1 (List.mem_of_getElem? (i := 223) rfl)) rfl), (tch1 (List.mem_of_getElem? (i := 224) rfl))⟩, (List.forall_mem_cons.mpr ⟨⟨by decide, (gt_in (tch1 (List.mem_of_getElem? (i := 136) rfl)) rfl), (tch1 (List.mem_of_getElem? (i := 137) rfl))⟩, (fun _ h => absurd h List.not_mem_nil)⟩)⟩)
set_option maxRecDepth 20000 in
theorem icW : ∀ e ∈ icT, Cond.constant (clsN e.1.1) e.1.2 e.2 ∈ gt := (List.forall_mem_cons.mpr ⟨(gt_in (tch3 (List.mem_of_getElem? (i := 67) rfl)) rfl), (List.forall_mem_cons.mpr ⟨(gt_in (tch3 (List.mem_of_getElem? (i := 68) rfl)) rfl), (List.forall_mem_cons.mpr ⟨(gt_in (tch5 (List.mem_of_getElem? (i := 104) rfl)) rfl), (List.forall_mem_cons.mpr ⟨(gt_in (tch5 (List.mem_of_getElem? (i := 105) rfl)) rfl), (List.forall_mem_cons.mpr ⟨(gt_in (tch5 (List.mem_of_getElem? (i := 190) rfl)) rfl), (List.forall_mem_cons.mpr ⟨(gt_in (tch5 (List.mem_of_getElem? (i := 191) rfl)) rfl), (List.forall_mem_cons.mpr ⟨(gt_in (tch3 (List.mem_of_getElem? (i := 164) rfl)) rfl), (List.forall_mem_cons.mpr ⟨(gt_in (tch3 (List.mem_of_getElem? (i := 165) rfl)) rfl), (List.forall_mem_cons.mpr ⟨(gt_in (tch3 (List.mem_of_getElem? (i := 166) rfl)) rfl), (fun _ h => absurd h List.not_mem_nil)⟩)⟩)⟩)⟩)⟩)⟩)⟩)⟩)⟩)
set_option maxRecDepth 20000 in
theorem lcW : ∀ e ∈ lcT, Cond.constantLong (clsN e.1.1) e.1.2 e.2 ∈ gt := (List.forall_mem_cons.mpr ⟨(gt_in (tch1 (List.mem_of_getElem? (i := 147) rfl)) rfl), (List.forall_mem_cons.mpr ⟨(gt_in (tch2 (List.mem_of_getElem? (i := 82) rfl)) rfl), (List.forall_mem_cons.mpr ⟨(gt_in (tch1 (List.mem_of_getElem? (i := 151) rfl)) rfl), (List.forall_mem_cons.mpr ⟨(gt_in (tch3 (List.mem_of_getElem? (i := 172) rfl)) rfl), (fun _ h => absurd h List.not_mem_nil)⟩)⟩)⟩)⟩)
def sTx (i : Nat) : String := ["lift", "to", "if", "swap", "turn", "times"].getD i ""
set_option maxRecDepth 20000 in
theorem slW : ∀ e ∈ slT, e.2 < 6 ∧ Cond.stringRef (clsN e.1.1) e.1.2 (sTx e.2) ∈ tables_1 := (List.forall_mem_cons.mpr ⟨⟨by decide, (tch2 (List.mem_of_getElem? (i := 139) rfl))⟩, (List.forall_mem_cons.mpr ⟨⟨by decide, (tch2 (List.mem_of_getElem? (i := 192) rfl))⟩, (List.forall_mem_cons.mpr ⟨⟨by decide, (tch2 (List.mem_of_getElem? (i := 193) rfl))⟩, (List.forall_mem_cons.mpr ⟨⟨by decide, (tch2 (List.mem_of_getElem? (i := 194) rfl))⟩, (List.forall_mem_cons.mpr ⟨⟨by decide, (tch2 (List.mem_of_getElem? (i := 195) rfl))⟩, (List.forall_mem_cons.mpr ⟨⟨by decide, (tch2 (List.mem_of_getElem? (i := 196) rfl))⟩, (List.forall_mem_cons.mpr ⟨⟨by decide, (tch5 (List.mem_of_getElem? (i := 29) rfl))⟩, (List.forall_mem_cons.mpr ⟨⟨by decide, (tch5 (List.mem_of_getElem? (i := 36) rfl))⟩, (List.forall_mem_cons.mpr ⟨⟨by decide, (tch5 (List.mem_of_getElem? (i := 37) rfl))⟩, (List.forall_mem_cons.mpr ⟨⟨by decide, (tch5 (List.mem_of_getElem? (i := 38) rfl))⟩, (List.forall_mem_cons.mpr ⟨⟨by decide, (tch5 (List.mem_of_getElem? (i := 39) rfl))⟩, (List.forall_mem_cons.mpr ⟨⟨by decide, (tch5 (List.mem_of_getElem? (i := 40) rfl))⟩, (fun _ h => absurd h List.not_mem_nil)⟩)⟩)⟩)⟩)⟩)⟩)⟩)⟩)⟩)⟩)⟩)⟩)
set_option maxRecDepth 20000 in
theorem w_max_s : Cond.static Lib.Math.max.name ∈ gt := (gt_in (tch3 (List.mem_of_getElem? (i := 94) rfl)) rfl)
set_option maxRecDepth 20000 in
theorem w_min_s : Cond.static Lib.Math.min.name ∈ gt := (gt_in (tch3 (List.mem_of_getElem? (i := 45) rfl)) rfl)
set_option maxRecDepth 20000 in
theorem w_math : Cond.initialized "java/lang/Math" ∈ gt := (gt_in (tch1 (List.mem_of_getElem? (i := 19) rfl)) rfl)
set_option maxRecDepth 20000 in
theorem w_max_c : Cond.code Lib.Math.max.name Lib.Math.max.code 2 (some .int) ∈ gt := (gt_in (tch3 (List.mem_of_getElem? (i := 95) rfl)) rfl)
set_option maxRecDepth 20000 in
theorem w_min_c : Cond.code Lib.Math.min.name Lib.Math.min.code 2 (some .int) ∈ gt := (gt_in (tch3 (List.mem_of_getElem? (i := 46) rfl)) rfl)
set_option maxRecDepth 20000 in
theorem w_oi_i : Cond.instanceMethod objectInit ∈ gt := (gt_in (tch1 (List.mem_of_getElem? (i := 27) rfl)) rfl)
set_option maxRecDepth 20000 in
theorem w_oi_c : Cond.code objectInit ⟨#[0xb1]⟩ 1 none ∈ gt := (gt_in (tch1 (List.mem_of_getElem? (i := 28) rfl)) rfl)
set_option maxRecDepth 20000 in
theorem w_cp_n : Cond.native arraycopyName ∈ gt := (gt_in (tch3 (List.mem_of_getElem? (i := 26) rfl)) rfl)
set_option maxRecDepth 20000 in
theorem w_cp_s : Cond.static arraycopyName ∈ gt := (gt_in (tch3 (List.mem_of_getElem? (i := 25) rfl)) rfl)
set_option maxRecDepth 20000 in
theorem w_sys : Cond.initialized "java/lang/System" ∈ gt := (gt_in (tch1 (List.mem_of_getElem? (i := 18) rfl)) rfl)
set_option maxRecDepth 20000 in
theorem w_int : Cond.arrayClass .int ∈ gt := (gt_in (tch1 (List.mem_of_getElem? (i := 65) rfl)) rfl)
set_option maxRecDepth 20000 in
theorem w_byte : Cond.arrayClass .byte ∈ gt := (gt_in (tch1 (List.mem_of_getElem? (i := 66) rfl)) rfl)
