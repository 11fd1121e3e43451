-- the texts: String.length and charAt
set_option maxRecDepth 20000 in
theorem ws_len_c : Cond.code yJ0_length_8abf5 cJ0_length_8abf5 1 (some .int) ∈ gt := (gt_in (tch2 (List.mem_of_getElem? (i := 147) rfl)) rfl)
set_option maxRecDepth 20000 in
theorem ws_len_i : Cond.initialized yJ0_length_8abf5.cls ∈ gt := (gt_in (tch1 (List.mem_of_getElem? (i := 13) rfl)) rfl)
set_option maxRecDepth 20000 in
theorem ws_len_m : Cond.instanceMethod yJ0_length_8abf5 ∈ gt := (gt_in (tch2 (List.mem_of_getElem? (i := 145) rfl)) rfl)
set_option maxRecDepth 20000 in
theorem ws_len_v : Cond.selects "java/lang/String" yJ0_length_8abf5 yJ0_length_8abf5 ∈ gt := (gt_in (tch2 (List.mem_of_getElem? (i := 146) rfl)) rfl)
set_option maxRecDepth 20000 in
theorem ws_cod_c : Cond.code yJ0_coder_7d493 cJ0_coder_7d493 1 (some .byte) ∈ gt := (gt_in (tch2 (List.mem_of_getElem? (i := 151) rfl)) rfl)
set_option maxRecDepth 20000 in
theorem ws_cod_i : Cond.initialized yJ0_coder_7d493.cls ∈ gt := (gt_in (tch1 (List.mem_of_getElem? (i := 13) rfl)) rfl)
set_option maxRecDepth 20000 in
theorem ws_cod_m : Cond.instanceMethod yJ0_coder_7d493 ∈ gt := (gt_in (tch2 (List.mem_of_getElem? (i := 149) rfl)) rfl)
set_option maxRecDepth 20000 in
theorem ws_cod_v : Cond.selects "java/lang/String" yJ0_coder_7d493 yJ0_coder_7d493 ∈ gt := (gt_in (tch2 (List.mem_of_getElem? (i := 150) rfl)) rfl)
set_option maxRecDepth 20000 in
theorem ws_chr_c : Cond.code yJ0_charAt_5068e cJ0_charAt_5068e 2 (some .char) ∈ gt := (gt_in (tch2 (List.mem_of_getElem? (i := 157) rfl)) rfl)
set_option maxRecDepth 20000 in
theorem ws_chr_i : Cond.initialized yJ0_charAt_5068e.cls ∈ gt := (gt_in (tch1 (List.mem_of_getElem? (i := 13) rfl)) rfl)
set_option maxRecDepth 20000 in
theorem ws_chr_m : Cond.instanceMethod yJ0_charAt_5068e ∈ gt := (gt_in (tch2 (List.mem_of_getElem? (i := 155) rfl)) rfl)
set_option maxRecDepth 20000 in
theorem ws_chr_v : Cond.selects "java/lang/String" yJ0_charAt_5068e yJ0_charAt_5068e ∈ gt := (gt_in (tch2 (List.mem_of_getElem? (i := 156) rfl)) rfl)
set_option maxRecDepth 20000 in
theorem ws_lat_c : Cond.code yJ0_isLatin1_aae02 cJ0_isLatin1_aae02 1 (some .boolean) ∈ gt := (gt_in (tch2 (List.mem_of_getElem? (i := 161) rfl)) rfl)
set_option maxRecDepth 20000 in
theorem ws_lat_i : Cond.initialized yJ0_isLatin1_aae02.cls ∈ gt := (gt_in (tch1 (List.mem_of_getElem? (i := 13) rfl)) rfl)
set_option maxRecDepth 20000 in
theorem ws_lat_m : Cond.instanceMethod yJ0_isLatin1_aae02 ∈ gt := (gt_in (tch2 (List.mem_of_getElem? (i := 159) rfl)) rfl)
set_option maxRecDepth 20000 in
theorem ws_lat_v : Cond.selects "java/lang/String" yJ0_isLatin1_aae02 yJ0_isLatin1_aae02 ∈ gt := (gt_in (tch2 (List.mem_of_getElem? (i := 160) rfl)) rfl)
set_option maxRecDepth 20000 in
theorem ws_lch_c : Cond.code yJ1_charAt_3b067 cJ1_charAt_3b067 2 (some .char) ∈ gt := (gt_in (tch2 (List.mem_of_getElem? (i := 164) rfl)) rfl)
set_option maxRecDepth 20000 in
theorem ws_lch_i : Cond.initialized yJ1_charAt_3b067.cls ∈ gt := (gt_in (tch1 (List.mem_of_getElem? (i := 14) rfl)) rfl)
set_option maxRecDepth 20000 in
theorem ws_lch_s : Cond.static yJ1_charAt_3b067 ∈ gt := (gt_in (tch2 (List.mem_of_getElem? (i := 163) rfl)) rfl)
set_option maxRecDepth 20000 in
theorem ws_chk_c : Cond.code yJ0_checkIndex_df160 cJ0_checkIndex_df160 2 (none) ∈ gt := (gt_in (tch2 (List.mem_of_getElem? (i := 167) rfl)) rfl)
set_option maxRecDepth 20000 in
theorem ws_chk_i : Cond.initialized yJ0_checkIndex_df160.cls ∈ gt := (gt_in (tch1 (List.mem_of_getElem? (i := 13) rfl)) rfl)
set_option maxRecDepth 20000 in
theorem ws_chk_s : Cond.static yJ0_checkIndex_df160 ∈ gt := (gt_in (tch2 (List.mem_of_getElem? (i := 166) rfl)) rfl)
set_option maxRecDepth 20000 in
theorem ws_pre_c : Cond.code yJ3_checkIndex_8e157 cJ3_checkIndex_8e157 3 (some .int) ∈ gt := (gt_in (tch2 (List.mem_of_getElem? (i := 172) rfl)) rfl)
set_option maxRecDepth 20000 in
theorem ws_pre_i : Cond.initialized yJ3_checkIndex_8e157.cls ∈ gt := (gt_in (tch1 (List.mem_of_getElem? (i := 15) rfl)) rfl)
set_option maxRecDepth 20000 in
theorem ws_pre_s : Cond.static yJ3_checkIndex_8e157 ∈ gt := (gt_in (tch2 (List.mem_of_getElem? (i := 171) rfl)) rfl)
set_option maxRecDepth 20000 in
theorem wl_len_cod : Cond.methodLink "java/lang/String" 335 yJ0_coder_7d493 ∈ gt := (gt_in (tch2 (List.mem_of_getElem? (i := 148) rfl)) rfl)
set_option maxRecDepth 20000 in
theorem wl_chr_lat : Cond.methodLink "java/lang/String" 492 yJ0_isLatin1_aae02 ∈ gt := (gt_in (tch2 (List.mem_of_getElem? (i := 158) rfl)) rfl)
set_option maxRecDepth 20000 in
theorem wl_chr_lch : Cond.methodLink "java/lang/String" 495 yJ1_charAt_3b067 ∈ gt := (gt_in (tch2 (List.mem_of_getElem? (i := 162) rfl)) rfl)
set_option maxRecDepth 20000 in
theorem wl_lch_chk : Cond.methodLink "java/lang/StringLatin1" 9 yJ0_checkIndex_df160 ∈ gt := (gt_in (tch2 (List.mem_of_getElem? (i := 165) rfl)) rfl)
set_option maxRecDepth 20000 in
theorem wl_chk_pre : Cond.methodLink "java/lang/String" 1059 yJ3_checkIndex_8e157 ∈ gt := (gt_in (tch2 (List.mem_of_getElem? (i := 170) rfl)) rfl)
set_option maxRecDepth 20000 in
theorem wf_val : Cond.fieldLink "java/lang/String" 9 "java/lang/String" "value" "[B" ∈ gt := (gt_in (tch6 (List.mem_of_getElem? (i := 43) rfl)) rfl)
set_option maxRecDepth 20000 in
theorem wf_cod : Cond.fieldLink "java/lang/String" 15 "java/lang/String" "coder" "B" ∈ gt := (gt_in (tch6 (List.mem_of_getElem? (i := 44) rfl)) rfl)
set_option maxRecDepth 20000 in
theorem wf_cmp : Cond.fieldLink "java/lang/String" 38 "java/lang/String" "COMPACT_STRINGS" "Z" ∈ gt := (gt_in (tch2 (List.mem_of_getElem? (i := 152) rfl)) rfl)
set_option maxRecDepth 20000 in
theorem wf_sio : Cond.fieldLink "java/lang/String" 1053 "jdk/internal/util/Preconditions" "SIOOBE_FORMATTER" "Ljava/util/function/BiFunction;" ∈ gt := (gt_in (tch2 (List.mem_of_getElem? (i := 168) rfl)) rfl)
theorem dJ0_length_8abf5_0 : decode cJ0_length_8abf5 0 = .ok (.aload_n 0, 1) := by decide +kernel
theorem dJ0_length_8abf5_1 : decode cJ0_length_8abf5 1 = .ok (.getfield 9, 3) := by decide +kernel
theorem dJ0_length_8abf5_4 : decode cJ0_length_8abf5 4 = .ok (.arraylength, 1) := by decide +kernel
theorem dJ0_length_8abf5_5 : decode cJ0_length_8abf5 5 = .ok (.aload_n 0, 1) := by decide +kernel
theorem dJ0_length_8abf5_6 : decode cJ0_length_8abf5 6 = .ok (.invokevirtual 335, 3) := by decide +kernel
theorem dJ0_length_8abf5_9 : decode cJ0_length_8abf5 9 = .ok (.ishr, 1) := by decide +kernel
theorem dJ0_length_8abf5_10 : decode cJ0_length_8abf5 10 = .ok (.ireturn, 1) := by decide +kernel
theorem dJ0_coder_7d493_0 : decode cJ0_coder_7d493 0 = .ok (.getstatic 38, 3) := by decide +kernel
theorem dJ0_coder_7d493_3 : decode cJ0_coder_7d493 3 = .ok (.ifCond .eq 10, 3) := by decide +kernel
theorem dJ0_coder_7d493_6 : decode cJ0_coder_7d493 6 = .ok (.aload_n 0, 1) := by decide +kernel
theorem dJ0_coder_7d493_7 : decode cJ0_coder_7d493 7 = .ok (.getfield 15, 3) := by decide +kernel
theorem dJ0_coder_7d493_10 : decode cJ0_coder_7d493 10 = .ok (.goto 4, 3) := by decide +kernel
theorem dJ0_coder_7d493_13 : decode cJ0_coder_7d493 13 = .ok (.iconst 1, 1) := by decide +kernel
theorem dJ0_coder_7d493_14 : decode cJ0_coder_7d493 14 = .ok (.ireturn, 1) := by decide +kernel
theorem dJ0_charAt_5068e_0 : decode cJ0_charAt_5068e 0 = .ok (.aload_n 0, 1) := by decide +kernel
theorem dJ0_charAt_5068e_1 : decode cJ0_charAt_5068e 1 = .ok (.invokevirtual 492, 3) := by decide +kernel
theorem dJ0_charAt_5068e_4 : decode cJ0_charAt_5068e 4 = .ok (.ifCond .eq 12, 3) := by decide +kernel
theorem dJ0_charAt_5068e_7 : decode cJ0_charAt_5068e 7 = .ok (.aload_n 0, 1) := by decide +kernel
theorem dJ0_charAt_5068e_8 : decode cJ0_charAt_5068e 8 = .ok (.getfield 9, 3) := by decide +kernel
theorem dJ0_charAt_5068e_11 : decode cJ0_charAt_5068e 11 = .ok (.iload_n 1, 1) := by decide +kernel
theorem dJ0_charAt_5068e_12 : decode cJ0_charAt_5068e 12 = .ok (.invokestatic 495, 3) := by decide +kernel
theorem dJ0_charAt_5068e_15 : decode cJ0_charAt_5068e 15 = .ok (.ireturn, 1) := by decide +kernel
theorem dJ0_charAt_5068e_16 : decode cJ0_charAt_5068e 16 = .ok (.aload_n 0, 1) := by decide +kernel
theorem dJ0_charAt_5068e_17 : decode cJ0_charAt_5068e 17 = .ok (.getfield 9, 3) := by decide +kernel
theorem dJ0_charAt_5068e_20 : decode cJ0_charAt_5068e 20 = .ok (.iload_n 1, 1) := by decide +kernel
theorem dJ0_charAt_5068e_21 : decode cJ0_charAt_5068e 21 = .ok (.invokestatic 498, 3) := by decide +kernel
theorem dJ0_charAt_5068e_24 : decode cJ0_charAt_5068e 24 = .ok (.ireturn, 1) := by decide +kernel
theorem dJ0_isLatin1_aae02_0 : decode cJ0_isLatin1_aae02 0 = .ok (.getstatic 38, 3) := by decide +kernel
theorem dJ0_isLatin1_aae02_3 : decode cJ0_isLatin1_aae02 3 = .ok (.ifCond .eq 14, 3) := by decide +kernel
theorem dJ0_isLatin1_aae02_6 : decode cJ0_isLatin1_aae02 6 = .ok (.aload_n 0, 1) := by decide +kernel
theorem dJ0_isLatin1_aae02_7 : decode cJ0_isLatin1_aae02 7 = .ok (.getfield 15, 3) := by decide +kernel
theorem dJ0_isLatin1_aae02_10 : decode cJ0_isLatin1_aae02 10 = .ok (.ifCond .ne 7, 3) := by decide +kernel
theorem dJ0_isLatin1_aae02_13 : decode cJ0_isLatin1_aae02 13 = .ok (.iconst 1, 1) := by decide +kernel
theorem dJ0_isLatin1_aae02_14 : decode cJ0_isLatin1_aae02 14 = .ok (.goto 4, 3) := by decide +kernel
theorem dJ0_isLatin1_aae02_17 : decode cJ0_isLatin1_aae02 17 = .ok (.iconst 0, 1) := by decide +kernel
theorem dJ0_isLatin1_aae02_18 : decode cJ0_isLatin1_aae02 18 = .ok (.ireturn, 1) := by decide +kernel
theorem dJ1_charAt_3b067_0 : decode cJ1_charAt_3b067 0 = .ok (.iload_n 1, 1) := by decide +kernel
theorem dJ1_charAt_3b067_1 : decode cJ1_charAt_3b067 1 = .ok (.aload_n 0, 1) := by decide +kernel
theorem dJ1_charAt_3b067_2 : decode cJ1_charAt_3b067 2 = .ok (.arraylength, 1) := by decide +kernel
theorem dJ1_charAt_3b067_3 : decode cJ1_charAt_3b067 3 = .ok (.invokestatic 9, 3) := by decide +kernel
theorem dJ1_charAt_3b067_6 : decode cJ1_charAt_3b067 6 = .ok (.aload_n 0, 1) := by decide +kernel
theorem dJ1_charAt_3b067_7 : decode cJ1_charAt_3b067 7 = .ok (.iload_n 1, 1) := by decide +kernel
theorem dJ1_charAt_3b067_8 : decode cJ1_charAt_3b067 8 = .ok (.baload, 1) := by decide +kernel
theorem dJ1_charAt_3b067_9 : decode cJ1_charAt_3b067 9 = .ok (.sipush 255, 3) := by decide +kernel
theorem dJ1_charAt_3b067_12 : decode cJ1_charAt_3b067 12 = .ok (.iand, 1) := by decide +kernel
theorem dJ1_charAt_3b067_13 : decode cJ1_charAt_3b067 13 = .ok (.i2c, 1) := by decide +kernel
theorem dJ1_charAt_3b067_14 : decode cJ1_charAt_3b067 14 = .ok (.ireturn, 1) := by decide +kernel
theorem dJ0_checkIndex_df160_0 : decode cJ0_checkIndex_df160 0 = .ok (.iload_n 0, 1) := by decide +kernel
theorem dJ0_checkIndex_df160_1 : decode cJ0_checkIndex_df160 1 = .ok (.iload_n 1, 1) := by decide +kernel
theorem dJ0_checkIndex_df160_2 : decode cJ0_checkIndex_df160 2 = .ok (.getstatic 1053, 3) := by decide +kernel
theorem dJ0_checkIndex_df160_5 : decode cJ0_checkIndex_df160 5 = .ok (.invokestatic 1059, 3) := by decide +kernel
theorem dJ0_checkIndex_df160_8 : decode cJ0_checkIndex_df160 8 = .ok (.pop, 1) := by decide +kernel
theorem dJ0_checkIndex_df160_9 : decode cJ0_checkIndex_df160 9 = .ok (.return_, 1) := by decide +kernel
theorem dJ3_checkIndex_8e157_0 : decode cJ3_checkIndex_8e157 0 = .ok (.iload_n 0, 1) := by decide +kernel
theorem dJ3_checkIndex_8e157_1 : decode cJ3_checkIndex_8e157 1 = .ok (.ifCond .lt 8, 3) := by decide +kernel
theorem dJ3_checkIndex_8e157_4 : decode cJ3_checkIndex_8e157 4 = .ok (.iload_n 0, 1) := by decide +kernel
theorem dJ3_checkIndex_8e157_5 : decode cJ3_checkIndex_8e157 5 = .ok (.iload_n 1, 1) := by decide +kernel
theorem dJ3_checkIndex_8e157_6 : decode cJ3_checkIndex_8e157 6 = .ok (.if_icmp .lt 10, 3) := by decide +kernel
theorem dJ3_checkIndex_8e157_9 : decode cJ3_checkIndex_8e157 9 = .ok (.aload_n 2, 1) := by decide +kernel
theorem dJ3_checkIndex_8e157_10 : decode cJ3_checkIndex_8e157 10 = .ok (.iload_n 0, 1) := by decide +kernel
theorem dJ3_checkIndex_8e157_11 : decode cJ3_checkIndex_8e157 11 = .ok (.iload_n 1, 1) := by decide +kernel
theorem dJ3_checkIndex_8e157_12 : decode cJ3_checkIndex_8e157 12 = .ok (.invokestatic 95, 3) := by decide +kernel
theorem dJ3_checkIndex_8e157_15 : decode cJ3_checkIndex_8e157 15 = .ok (.athrow, 1) := by decide +kernel
theorem dJ3_checkIndex_8e157_16 : decode cJ3_checkIndex_8e157 16 = .ok (.iload_n 0, 1) := by decide +kernel
theorem dJ3_checkIndex_8e157_17 : decode cJ3_checkIndex_8e157 17 = .ok (.ireturn, 1) := by decide +kernel
def RoQ (v : Option Value) : Array Value → State → Outcome → State → Prop := fun _ st o t => o = .returned v ∧ t.heap = st.heap
def rmK (k : Nat) : Room := { frames := k, cells := 0, slots := 0, locals := 64 * k }
section Str
variable {p : Program} {l : Launch} {e : Env} {R : Room} {s : State} {m : MethodId} {args : Array Value} {below : List Frame} {meth : Method} {c : Code} {Q : State → Prop} {D : va_G} {A : Nat → Prop} {b N0 : Nat} {xs : Nat → Int32} {aK aV : Nat → Nat} {pc : Nat} {H : Heap} {locs : List Loc} {cells slots : Nat} {ls : Array Slot} {own : String} {cc : ByteArray} {nL : Nat}
theorem ro_on {v : Option Value} {a : Array Value} {rest st0 : List Value} (hr : va_Run p l e R s m args below meth c H locs cells slots 0 0 (F0 m pc ls st0) rest (RoQ v a) (fun _ => False)) (k : W p l e R s m args below meth c H locs cells slots Q (F0 m (pc + 3) ls (v.toList ++ rest))) : W p l e R s m args below meth c H locs cells slots Q (F0 m pc ls st0) := by
  intro T hT X
  obtain ⟨v', st₀, t, T', L, h0, X', hL, e1, e2, ⟨hv, hh⟩, st⟩ := hr T hT X
  have hv' : v' = v := by injection hv
  subst hv'
  have hLn : L = [] := by
    cases L with
    | nil => rfl
    | cons q L => exact (hL q List.mem_cons_self).elim
  subst hLn
  rw [List.append_nil] at X'
  obtain ⟨t2, a1, b1⟩ := k T' (by rw [e1, hh, h0]) X'
  exact ⟨t2, st t2 a1, b1⟩
theorem ro_blind {vs : List Value} : FrameBlind (va_Pc vs (Tb D A b N0 xs aK aV)) := fun a U g mk ⟨h1, h2⟩ => ⟨h1, h2.same rfl rfl⟩
theorem ro_tb (hT : Tb D A b N0 xs aK aV s) (hS : va_S A s.heap H locs) (U : State) (hU : U.heap = H) (hW : s.WarmedH U.vm) : Tb D A b N0 xs aK aV U := hT.moved hS hU hW (fun _ q => q) (fun q hq => hT.2.2.2.2.2.2.2.1 q (Nat.le_trans hS.1 (by rw [← hU]; exact hq)))
theorem ro_good {y : MethodName} {bytes : ByteArray} {maxL : Nat} {ret : Option FieldType} (h : Cond.code y bytes maxL ret ∈ gt) : GoodIn gt (.code y bytes maxL ret :: gt) := fun w hw => (List.mem_cons.mp hw).elim (fun q => by rw [q]; exact gt_good _ h) (fun q => gt_good w q)
theorem ro_S {k idx maxL : Nat} {y : MethodName} {bytes : ByteArray} {ret : Option FieldType} {vs rest : List Value} {v : Option Value} (fx : CallFix p m c cc nL s args gt own) (hT : Tb D A b N0 xs aK aV s) (hS : va_S A s.heap H locs) (hM : Met l y (.code y bytes maxL ret :: gt) (rmK k) (va_Pc vs (Tb D A b N0 xs aK aV)) (RoQ v) 0 0 (fun _ => False)) (hcd : Cond.code y bytes maxL ret ∈ gt) (hini : Cond.initialized y.cls ∈ gt) (hst : Cond.static y ∈ gt) (hlk : Cond.methodLink own idx y ∈ gt) (hy : (y.cls ≠ "java/lang/invoke/MethodHandle" ∧ y.cls ≠ "java/lang/invoke/VarHandle" ∧ (parseMethodDescriptor y.desc).map (fun d => d.parameters.length) = some vs.length)) (hR : k + 1 ≤ R.frames ∧ 8 + (maxL + 11) + 64 * k ≤ R.locals) (hls : ls.size = nL) (hcat : (rest.map fun v => v.category).sum ≤ 8) (hd : decode cc pc = .ok (.invokestatic idx, 3)) (hc : cells ≤ R.cells) (hs : slots ≤ R.slots) (kk : W p l e R s m args below meth c H locs cells slots Q (F0 m (pc + 3) ls (v.toList ++ rest))) : W p l e R s m args below meth c H locs cells slots Q (F0 m pc ls (vs.reverse ++ rest)) :=
  ro_on (a := vs.toArray) (va_runS (As := vs) (rest := rest) fx hM ⟨callB_of vs.length fx.2.2.2.2 (ro_good hcd) rfl rfl rfl (fx.2.2.2.2 _ hini) (fx.2.2.2.2 _ hlk) hy hR, fx.2.2.2.2 _ hst⟩ ⟨ro_blind, fun U hU hW => ⟨rfl, ro_tb hT hS U hU hW⟩⟩ rfl rfl hls rfl (lv_room hcat) hd ⟨hc, hs⟩) kk
theorem ro_V {k idx maxL i : Nat} {y : MethodName} {bytes : ByteArray} {ret : Option FieldType} {vs rest : List Value} {v : Option Value} (fx : CallFix p m c cc nL s args gt own) (hT : Tb D A b N0 xs aK aV s) (hS : va_S A s.heap H locs) (hi : i < 6) (hM : Met l y (.code y bytes maxL ret :: gt) (rmK k) (va_Pc (.ref (aK i) :: vs) (Tb D A b N0 xs aK aV)) (RoQ v) 0 0 (fun _ => False)) (hcd : Cond.code y bytes maxL ret ∈ gt) (hini : Cond.initialized y.cls ∈ gt) (hst : Cond.instanceMethod y ∈ gt) (hsel : Cond.selects "java/lang/String" y y ∈ gt) (hlk : Cond.methodLink own idx y ∈ gt) (hy : (y.cls ≠ "java/lang/invoke/MethodHandle" ∧ y.cls ≠ "java/lang/invoke/VarHandle" ∧ (parseMethodDescriptor y.desc).map (fun d => d.parameters.length) = some vs.length)) (hR : k + 1 ≤ R.frames ∧ 8 + (maxL + 11) + 64 * k ≤ R.locals) (hls : ls.size = nL) (hcat : (rest.map fun v => v.category).sum ≤ 8) (hd : decode cc pc = .ok (.invokevirtual idx, 3)) (hc : cells ≤ R.cells) (hs : slots ≤ R.slots) (kk : W p l e R s m args below meth c H locs cells slots Q (F0 m (pc + 3) ls (v.toList ++ rest))) : W p l e R s m args below meth c H locs cells slots Q (F0 m pc ls (vs.reverse ++ .ref (aK i) :: rest)) :=
  ro_on (a := (.ref (aK i) :: vs).toArray) (va_runV (C := "java/lang/String") (As := vs) (b := aK i) (rest := rest) fx hM ⟨callB_of vs.length fx.2.2.2.2 (ro_good hcd) rfl rfl rfl (fx.2.2.2.2 _ hini) (fx.2.2.2.2 _ hlk) hy hR, fx.2.2.2.2 _ hst, fx.2.2.2.2 _ hsel⟩ ⟨ro_blind, vk_recv hT.2.2.2.2.2.2.2.2.1 hi hS, fun U hU hW => ⟨rfl, ro_tb hT hS U hU hW⟩⟩ rfl rfl hls rfl (lv_room hcat) hd ⟨hc, hs⟩) kk
theorem ro_met {k maxL : Nat} {y : MethodName} {bytes : ByteArray} {ret : Option FieldType} {vs : List Value} {v : Option Value} (hy : plainName y.cls = true) (hlen : (lg_sl vs).length ≤ maxL)
    (hw : ∀ (p : Program) (e : Env) (s : State) (m : MethodId) (below : List Frame) (meth : Method) (c : Code) (ls : Array Slot), CallFix p m c bytes maxL s vs.toArray gt y.cls → meth.sig.returnType = ret → meth.locks = false → Tb D A b N0 xs aK aV s → lv_has ls maxL (lv_args 0 vs) → W p l e (rmK k) s m vs.toArray below meth c s.heap [] 0 0 (MQ below (RoQ v) vs.toArray s 0 0 (fun _ => False)) (F0 m 0 ls [])) :
    Met l y (.code y bytes maxL ret :: gt) (rmK k) (va_Pc vs (Tb D A b N0 xs aK aV)) (RoQ v) 0 0 (fun _ => False) := by
  refine Met.ofW (cc := bytes) (maxL := maxL) (ret := ret) hy rfl ?_
  intro p e s m args below meth c s₁ B hml hv
  obtain ⟨rfl, hTb⟩ := hv
  have hts := atoms_spec (ws := .code y bytes maxL ret :: gt) B.pre
  have hown : s.vm.findClass y.cls = some m.cls := findClass_of_methodNamed B.named
  rw [lg_entry_eq]
  exact hw p e s m below meth c _ ⟨B.exec, B.bytes, hml, hown, fun w hw => hts w (List.mem_cons_of_mem _ hw)⟩ B.returns B.notSynchronized hTb (lv_entry vs hlen)
end Str
theorem pp_pre : (parseMethodDescriptor yJ3_checkIndex_8e157.desc).map (fun d => d.parameters.length) = some 3 := by decide +kernel
theorem pp_chk : (parseMethodDescriptor yJ0_checkIndex_df160.desc).map (fun d => d.parameters.length) = some 2 := by decide +kernel
theorem pp_lch : (parseMethodDescriptor yJ1_charAt_3b067.desc).map (fun d => d.parameters.length) = some 2 := by decide +kernel
section Str2
variable {l : Launch} {D : va_G} {A : Nat → Prop} {b N0 : Nat} {xs : Nat → Int32} {aK aV : Nat → Nat}
set_option maxRecDepth 20000 in
theorem m_cod {i : Nat} (hi : i < 6) : Met l yJ0_coder_7d493 (.code yJ0_coder_7d493 cJ0_coder_7d493 1 (some .byte) :: gt) (rmK 0) (va_Pc [.ref (aK i)] (Tb D A b N0 xs aK aV)) (RoQ (some (.int 0))) 0 0 (fun _ => False) := by
  refine ro_met (by decide) (Nat.le_of_ble_eq_true rfl) ?_
  intro p e s m below meth c ls fx hr hlocks hT hl
  obtain ⟨hx, hb, hml, hown, hts⟩ := fx
  have hS : va_S A s.heap s.heap [] := va_S.rf
  have hl : lv_has ls 1 [(0, .ref (aK i))] := hl
  have hK := (hT.2.2.2.2.2.2.2.2.1.1 i hi)
  refine va_gets hx hb hT.2.2.2.2.2.2.2.2.2.1 hS hown (hts _ wf_cmp) (fun _ q => q) dJ0_coder_7d493_0 ?_
  refine lv_if_eq (tgt := 13) hx hb dJ0_coder_7d493_3 (by decide) (fun q => absurd q (by decide)) (fun _ => ?_)
  refine lv_aload_n hx hb dJ0_coder_7d493_6 rfl (lv_at hl 0 rfl) ?_
  refine vk_getf hx hb hK.2.1 hS hown (hts _ wf_cod) (fun _ q => q) dJ0_coder_7d493_7 ?_
  refine lv_goto (tgt := 14) hx hb dJ0_coder_7d493_10 (by decide) ?_
  exact W.zret (ty := .byte) (v := 0) hx hb hr rfl (fun t ht _ => ⟨rfl, ht⟩) (fun q hq => by cases hq) dJ0_coder_7d493_14
set_option maxRecDepth 20000 in
theorem m_lat {i : Nat} (hi : i < 6) : Met l yJ0_isLatin1_aae02 (.code yJ0_isLatin1_aae02 cJ0_isLatin1_aae02 1 (some .boolean) :: gt) (rmK 0) (va_Pc [.ref (aK i)] (Tb D A b N0 xs aK aV)) (RoQ (some (.int 1))) 0 0 (fun _ => False) := by
  refine ro_met (by decide) (Nat.le_of_ble_eq_true rfl) ?_
  intro p e s m below meth c ls fx hr hlocks hT hl
  obtain ⟨hx, hb, hml, hown, hts⟩ := fx
  have hS : va_S A s.heap s.heap [] := va_S.rf
  have hl : lv_has ls 1 [(0, .ref (aK i))] := hl
  have hK := (hT.2.2.2.2.2.2.2.2.1.1 i hi)
  refine va_gets hx hb hT.2.2.2.2.2.2.2.2.2.1 hS hown (hts _ wf_cmp) (fun _ q => q) dJ0_isLatin1_aae02_0 ?_
  refine lv_if_eq (tgt := 17) hx hb dJ0_isLatin1_aae02_3 (by decide) (fun q => absurd q (by decide)) (fun _ => ?_)
  refine lv_aload_n hx hb dJ0_isLatin1_aae02_6 rfl (lv_at hl 0 rfl) ?_
  refine vk_getf hx hb hK.2.1 hS hown (hts _ wf_cod) (fun _ q => q) dJ0_isLatin1_aae02_7 ?_
  refine lv_if_ne (tgt := 17) hx hb dJ0_isLatin1_aae02_10 (by decide) (fun q => absurd rfl q) (fun _ => ?_)
  refine lv_iconst (v := 1) hx hb dJ0_isLatin1_aae02_13 (by decide) ?_
  refine lv_goto (tgt := 18) hx hb dJ0_isLatin1_aae02_14 (by decide) ?_
  exact W.zret (ty := .boolean) (v := 1) hx hb hr rfl (fun t ht _ => ⟨rfl, ht⟩) (fun q hq => by cases hq) dJ0_isLatin1_aae02_18
set_option maxRecDepth 20000 in
theorem m_len {i : Nat} (hi : i < 6) : Met l yJ0_length_8abf5 (.code yJ0_length_8abf5 cJ0_length_8abf5 1 (some .int) :: gt) (rmK 1) (va_Pc [.ref (aK i)] (Tb D A b N0 xs aK aV)) (RoQ (some (.int (Int32.ofNat (strT.getD i []).length)))) 0 0 (fun _ => False) := by
  refine ro_met (by decide) (Nat.le_of_ble_eq_true rfl) ?_
  intro p e s m below meth c ls fx hr hlocks hT hl
  have fx' := fx
  obtain ⟨hx, hb, hml, hown, hts⟩ := fx
  have hS : va_S A s.heap s.heap [] := va_S.rf
  have hl : lv_has ls 1 [(0, .ref (aK i))] := hl
  have hK := (hT.2.2.2.2.2.2.2.2.1.1 i hi)
  have elen : (strT.map List.length).getD i 0 = (strT.getD i []).length := by
    rw [List.getD_eq_getElem?_getD, List.getD_eq_getElem?_getD, List.getElem?_map]
    cases strT[i]? <;> rfl
  have hT4 := hK.2.2.2
  rw [elen] at hT4
  refine lv_aload_n hx hb dJ0_length_8abf5_0 rfl (lv_at hl 0 rfl) ?_
  refine vk_getf hx hb hK.2.2.1 hS hown (hts _ wf_val) (fun _ q => q) dJ0_length_8abf5_1 ?_
  refine va_tlen hx hb hT4 hS rfl dJ0_length_8abf5_4 ?_
  refine lv_aload_n hx hb dJ0_length_8abf5_5 rfl (lv_at hl 0 rfl) ?_
  refine ro_V (vs := []) (rest := [.int (Int32.ofNat (strT.getD i []).length)]) fx' hT hS hi (m_cod hi) ws_cod_c ws_cod_i ws_cod_m ws_cod_v wl_len_cod (by decide +kernel) ⟨Nat.le_of_ble_eq_true rfl, Nat.le_of_ble_eq_true rfl⟩ hl.1 (Nat.le_of_ble_eq_true rfl) dJ0_length_8abf5_6 (Nat.le_refl _) (Nat.le_refl _) ?_
  refine lv_ishr hx hb dJ0_length_8abf5_9 ?_
  have e0 : ∀ x : Int32, x >>> ((0 : Int32) &&& 31) = x := by
    intro x
    have : ((0 : Int32) &&& 31) = 0 := by decide
    rw [this]
    simp
  rw [e0]
  exact W.zret (ty := .int) hx hb hr rfl (fun t ht _ => ⟨rfl, ht⟩) (fun q hq => by cases hq) dJ0_length_8abf5_10
set_option maxRecDepth 20000 in
theorem m_pre {x y : Int32} {v : Value} (h0 : ¬ x < 0) (h1 : x < y) (hv : v.category = 1) : Met l yJ3_checkIndex_8e157 (.code yJ3_checkIndex_8e157 cJ3_checkIndex_8e157 3 (some .int) :: gt) (rmK 0) (va_Pc [.int x, .int y, v] (Tb D A b N0 xs aK aV)) (RoQ (some (.int x))) 0 0 (fun _ => False) := by
  refine ro_met (by decide) (by cases v <;> first | exact Nat.le_of_ble_eq_true rfl | cases hv) ?_
  intro p e s m below meth c ls fx hr hlocks hT hl
  obtain ⟨hx, hb, hml, hown, hts⟩ := fx
  have hS : va_S A s.heap s.heap [] := va_S.rf
  have hl : lv_has ls 3 [(0, .int x), (1, .int y), (2, v)] := hl
  refine lv_iload_n hx hb dJ3_checkIndex_8e157_0 rfl (lv_at hl 0 rfl) ?_
  refine lv_if_lt (tgt := 9) hx hb dJ3_checkIndex_8e157_1 (by decide) (fun q => absurd q h0) (fun _ => ?_)
  refine lv_iload_n hx hb dJ3_checkIndex_8e157_4 rfl (lv_at hl 0 rfl) ?_
  refine lv_iload_n hx hb dJ3_checkIndex_8e157_5 rfl (lv_at hl 1 rfl) ?_
  refine lv_icmp_lt (tgt := 16) hx hb dJ3_checkIndex_8e157_6 (by decide) (fun _ => ?_) (fun q => absurd h1 q)
  refine lv_iload_n hx hb dJ3_checkIndex_8e157_16 rfl (lv_at hl 0 rfl) ?_
  exact W.zret (ty := .int) hx hb hr rfl (fun t ht _ => ⟨rfl, ht⟩) (fun q hq => by cases hq) dJ3_checkIndex_8e157_17
set_option maxRecDepth 20000 in
theorem m_chk {x y : Int32} (h0 : ¬ x < 0) (h1 : x < y) : Met l yJ0_checkIndex_df160 (.code yJ0_checkIndex_df160 cJ0_checkIndex_df160 2 none :: gt) (rmK 1) (va_Pc [.int x, .int y] (Tb D A b N0 xs aK aV)) (RoQ none) 0 0 (fun _ => False) := by
  refine ro_met (by decide) (Nat.le_of_ble_eq_true rfl) ?_
  intro p e s m below meth c ls fx hr hlocks hT hl
  have fx' := fx
  obtain ⟨hx, hb, hml, hown, hts⟩ := fx
  have hS : va_S A s.heap s.heap [] := va_S.rf
  have hl : lv_has ls 2 [(0, .int x), (1, .int y)] := hl
  refine lv_iload_n hx hb dJ0_checkIndex_df160_0 rfl (lv_at hl 0 rfl) ?_
  refine lv_iload_n hx hb dJ0_checkIndex_df160_1 rfl (lv_at hl 1 rfl) ?_
  have go : ∀ v : Value, v.category = 1 → W p l e (rmK 1) s m [Value.int x, Value.int y].toArray below meth c s.heap [] 0 0 (MQ below (RoQ none) [Value.int x, Value.int y].toArray s 0 0 (fun _ => False)) (F0 m (2 + 3) ls [v, .int y, .int x]) := by
    intro v hv
    refine ro_S (vs := [.int x, .int y, v]) (rest := []) fx' hT hS (m_pre h0 h1 hv) ws_pre_c ws_pre_i ws_pre_s wl_chk_pre ⟨by decide, by decide, pp_pre⟩ ⟨Nat.le_of_ble_eq_true rfl, Nat.le_of_ble_eq_true rfl⟩ hl.1 (Nat.le_of_ble_eq_true rfl) dJ0_checkIndex_df160_5 (Nat.le_refl _) (Nat.le_refl _) ?_
    refine lv_pop hx hb dJ0_checkIndex_df160_8 rfl ?_
    exact W.vret hx hb hr (fun t ht _ => ⟨rfl, ht⟩) (fun q hq => by cases hq) dJ0_checkIndex_df160_9
  rcases hT.2.2.2.2.2.2.2.2.2.2 with hZ | ⟨t, hZ⟩
  · exact va_gets hx hb hZ hS hown (hts _ wf_sio) (fun _ q => q) dJ0_checkIndex_df160_2 (go .null rfl)
  · exact va_gets hx hb hZ hS hown (hts _ wf_sio) (fun _ q => q) dJ0_checkIndex_df160_2 (go (.ref t) rfl)
theorem strB : ∀ i, i < 6 → ∀ j, j < (strT.getD i []).length → ((((strT.getD i []).getD j 0) &&& (Int16.ofInt 255).toInt32).toUInt32 % 65536).toInt32 = (strT.getD i []).getD j 0 ∧ narrow .char (.int ((strT.getD i []).getD j 0)) = .int ((strT.getD i []).getD j 0) := by decide +kernel
theorem strL : ∀ i, i < 6 → (strT.getD i []).length < 100 := by decide +kernel
set_option maxRecDepth 20000 in
theorem m_lch {i : Nat} {x : Int32} (hi : i < 6) (hx0 : inB x (strT.getD i []).length = true) : Met l yJ1_charAt_3b067 (.code yJ1_charAt_3b067 cJ1_charAt_3b067 2 (some .char) :: gt) (rmK 2) (va_Pc [.ref (aV i), .int x] (Tb D A b N0 xs aK aV)) (RoQ (some (.int ((strT.getD i []).getD x.toNatClampNeg 0)))) 0 0 (fun _ => False) := by
  refine ro_met (by decide) (Nat.le_of_ble_eq_true rfl) ?_
  intro p e s m below meth c ls fx hr hlocks hT hl
  have fx' := fx
  obtain ⟨hx, hb, hml, hown, hts⟩ := fx
  have hS : va_S A s.heap s.heap [] := va_S.rf
  have hl : lv_has ls 2 [(0, .ref (aV i)), (1, .int x)] := hl
  have hK := (hT.2.2.2.2.2.2.2.2.1.1 i hi)
  have elen : (strT.map List.length).getD i 0 = (strT.getD i []).length := by
    rw [List.getD_eq_getElem?_getD, List.getD_eq_getElem?_getD, List.getElem?_map]
    cases strT[i]? <;> rfl
  have hT4 := hK.2.2.2
  rw [elen] at hT4
  have hin := inB_in hx0
  have hlt : x.toNatClampNeg < (strT.getD i []).length := Nat.not_le.mp fun q => hin (Or.inr q)
  have h0 : ¬ x < 0 := fun q => hin (Or.inl q)
  have hsm := strL i hi
  have h1 : x < Int32.ofNat (strT.getD i []).length := by
    obtain ⟨j, hj, rfl⟩ := vp_in_of hin (by omega)
    exact nI_lt hj (by omega)
  refine lv_iload_n hx hb dJ1_charAt_3b067_0 rfl (lv_at hl 1 rfl) ?_
  refine lv_aload_n hx hb dJ1_charAt_3b067_1 rfl (lv_at hl 0 rfl) ?_
  refine va_tlen hx hb hT4 hS rfl dJ1_charAt_3b067_2 ?_
  refine ro_S (vs := [.int x, .int (Int32.ofNat (strT.getD i []).length)]) (rest := []) fx' hT hS (m_chk h0 h1) ws_chk_c ws_chk_i ws_chk_s wl_lch_chk ⟨by decide, by decide, pp_chk⟩ ⟨Nat.le_of_ble_eq_true rfl, Nat.le_of_ble_eq_true rfl⟩ hl.1 (Nat.le_of_ble_eq_true rfl) dJ1_charAt_3b067_3 (Nat.le_refl _) (Nat.le_refl _) ?_
  refine lv_aload_n hx hb dJ1_charAt_3b067_6 rfl (lv_at hl 0 rfl) ?_
  refine lv_iload_n hx hb dJ1_charAt_3b067_7 rfl (lv_at hl 1 rfl) ?_
  refine va_tb hx hb hT4 hS hin rfl dJ1_charAt_3b067_8 ?_
  refine lv_sipush hx hb dJ1_charAt_3b067_9 rfl ?_
  refine lv_iand hx hb dJ1_charAt_3b067_12 ?_
  refine lv_i2c hx hb dJ1_charAt_3b067_13 (strB i hi _ hlt).1 ?_
  exact W.zret (ty := .char) hx hb hr (strB i hi _ hlt).2 (fun t ht _ => ⟨rfl, ht⟩) (fun q hq => by cases hq) dJ1_charAt_3b067_14
set_option maxRecDepth 20000 in
theorem m_chr {i : Nat} {x : Int32} (hi : i < 6) (hx0 : inB x (strT.getD i []).length = true) : Met l yJ0_charAt_5068e (.code yJ0_charAt_5068e cJ0_charAt_5068e 2 (some .char) :: gt) (rmK 3) (va_Pc [.ref (aK i), .int x] (Tb D A b N0 xs aK aV)) (RoQ (some (.int ((strT.getD i []).getD x.toNatClampNeg 0)))) 0 0 (fun _ => False) := by
  refine ro_met (by decide) (Nat.le_of_ble_eq_true rfl) ?_
  intro p e s m below meth c ls fx hr hlocks hT hl
  have fx' := fx
  obtain ⟨hx, hb, hml, hown, hts⟩ := fx
  have hS : va_S A s.heap s.heap [] := va_S.rf
  have hl : lv_has ls 2 [(0, .ref (aK i)), (1, .int x)] := hl
  have hK := (hT.2.2.2.2.2.2.2.2.1.1 i hi)
  have hin := inB_in hx0
  have hlt : x.toNatClampNeg < (strT.getD i []).length := Nat.not_le.mp fun q => hin (Or.inr q)
  refine lv_aload_n hx hb dJ0_charAt_5068e_0 rfl (lv_at hl 0 rfl) ?_
  refine ro_V (vs := []) (rest := []) fx' hT hS hi (m_lat hi) ws_lat_c ws_lat_i ws_lat_m ws_lat_v wl_chr_lat (by decide +kernel) ⟨Nat.le_of_ble_eq_true rfl, Nat.le_of_ble_eq_true rfl⟩ hl.1 (Nat.le_of_ble_eq_true rfl) dJ0_charAt_5068e_1 (Nat.le_refl _) (Nat.le_refl _) ?_
  refine lv_if_eq (tgt := 16) hx hb dJ0_charAt_5068e_4 (by decide) (fun q => absurd q (by decide)) (fun _ => ?_)
  refine lv_aload_n hx hb dJ0_charAt_5068e_7 rfl (lv_at hl 0 rfl) ?_
  refine vk_getf hx hb hK.2.2.1 hS hown (hts _ wf_val) (fun _ q => q) dJ0_charAt_5068e_8 ?_
  refine lv_iload_n hx hb dJ0_charAt_5068e_11 rfl (lv_at hl 1 rfl) ?_
  refine ro_S (vs := [.ref (aV i), .int x]) (rest := []) fx' hT hS (m_lch hi hx0) ws_lch_c ws_lch_i ws_lch_s wl_chr_lch ⟨by decide, by decide, pp_lch⟩ ⟨Nat.le_of_ble_eq_true rfl, Nat.le_of_ble_eq_true rfl⟩ hl.1 (Nat.le_of_ble_eq_true rfl) dJ0_charAt_5068e_12 (Nat.le_refl _) (Nat.le_refl _) ?_
  exact W.zret (ty := .char) hx hb hr (strB i hi _ hlt).2 (fun t ht _ => ⟨rfl, ht⟩) (fun q hq => by cases hq) dJ0_charAt_5068e_15
end Str2

