section SimAll
variable {p : Program} {l : Launch} {e : Env} {R : Room} {s : State} {m : MethodId} {args : Array Value} {below : List Frame} {meth : Method} {c : Code} {Q : State → Prop} {D : va_G} {A : Nat → Prop} {b N0 : Nat} {xs : Nat → Int32} {aK aV : Nat → Nat} {y : Mth} {pc len : Nat} {i : Instr} {L S L' S' : List Value} {h h1 : Hp} {H : Heap} {locs : List Loc} {cells slots : Nat} {ls : Array Slot} {adr : Nat → Nat} {cA : Nat → ClassId}
theorem gt_code {y' : Mth} (hy : PY y') : GoodIn gt (.code y'.2.2.1 y'.2.2.2.1 y'.2.2.2.2.1 y'.2.2.2.2.2 :: gt) := fun w hw => (List.mem_cons.mp hw).elim (fun q => by rw [q]; exact gt_good _ hy.1) (fun q => gt_good w q)
theorem split_st (adr : Nat → Nat) (S : List Value) (n : Nat) : S.map (rv adr) = ((S.take n).reverse.map (rv adr)).reverse ++ (S.drop n).map (rv adr) := by
  rw [List.map_reverse, List.reverse_reverse, ← List.map_append, List.take_append_drop]
theorem iv_cl {y' : Mth} {as : List Value} {v : Option Value} {d mc ms : Nat} (C : Cx p s m args meth c y) (hT : Tb D A b N0 xs aK aV s) (hd : decode y.2.2.2.1 pc = .ok (i, len)) (hl : ilen i = 0 ∨ len = ilen i) (ha : actIv y i L S h = some (.inr (.inr (.inr (y', as, S'))))) (hRel : Rel D A b N0 xs aK s adr cA H locs h) (hls : ls.size = y.2.2.2.2.1) (hVS : VK h S) (hfr : d + 6 ≤ R.frames) (hlo : 64 * (d + 6) ≤ R.locals) (hc : cells + mc ≤ R.cells) (hs : slots + ms ≤ R.slots)
    (hM : PY y' → (spread as).length ≤ y'.2.2.2.2.1 → Met l y'.2.2.1 (.code y'.2.2.1 y'.2.2.2.1 y'.2.2.2.2.1 y'.2.2.2.2.2 :: gt) (rmD d mc ms) (PcR D b N0 xs aK aV as h adr cA H.size) (QcR D b N0 xs aK h h1 v adr cA H.size) mc ms (va_A (wsO adr cA h) H.size))
    (kk : ∀ H1 locs1 adr1 cA1, Rel D A b N0 xs aK s adr1 cA1 H1 locs1 h1 → (∀ a, a < nxt h → adr1 a = adr a) → (∀ a, 1000000 ≤ a → adr1 a = adr a) → W p l e R s m args below meth c H1 locs1 (cells + mc) (slots + ms) Q (F0 m (pc + len) ls ((v.map (rv adr1)).toList ++ S'.map (rv adr)))) :
    W p l e R s m args below meth c H locs cells slots Q (F0 m pc ls (S.map (rv adr))) := by
  obtain ⟨hx, hb, hml, hown, hts, -⟩ := C
  have fx : CallFix p m c y.2.2.2.1 y.2.2.2.2.1 s args gt (clsN y.1) := ⟨hx, hb, hml, hown, hts⟩
  have rm : ∀ y' : Mth, PY y' → (rmD d mc ms).frames + 1 ≤ R.frames ∧ 8 + (y'.2.2.2.2.1 + 11) + (rmD d mc ms).locals ≤ R.locals := by
    intro y' hy
    have := hy.2.2.2.2.1
    simp only [rmD]
    omega
  unfold actIv at ha
  split at ha
  · have hl := hl.resolve_left (Nat.succ_ne_zero _); subst hl
    split at ha
    · rename_i np rc y0 hm
      split at ha
      · rename_i hcnd
        cases ha
        obtain ⟨q1, q2, q3, q4⟩ := mlW _ (lkp_mem hm)
        dsimp only at q1 q2 q3 q4
        refine cl_on (a := ((S.take np).reverse.map (rv adr)).toArray) hT hRel (va_runS (As := (S.take np).reverse.map (rv adr)) (rest := (S.drop np).map (rv adr)) fx (hM q1 hcnd.2.2) ⟨callB_of np hts (gt_code q1) rfl rfl rfl (hts _ q1.2.1) (hts _ q2) ⟨q1.2.2.1.1, q1.2.2.1.2, q4⟩ (rm _ q1), hts _ q3⟩ ⟨PcR_blind, fun U hU hW => cl_pre hT hRel U hU hW⟩ rfl ?_ hls ?_ ?_ hd ⟨hc, hs⟩) kk
        · simp only [List.length_map, List.length_reverse, List.length_take]; omega
        · exact split_st adr S np
        · exact lv_room (by rw [cats_rv]; exact hcnd.2.1)
      · cases ha
    · split at ha
      · split at ha <;> cases ha
      · cases ha
    · split at ha
      · split at ha <;> cases ha
      · cases ha
    · split at ha
      · split at ha <;> cases ha
      · cases ha
    · cases ha
  · have hl := hl.resolve_left (Nat.succ_ne_zero _); subst hl
    split at ha
    · rename_i np rc y0 hm
      split at ha
      · rename_i a0 S0 hdr
        split at ha
        · rename_i hcnd
          cases ha
          obtain ⟨q1, q2, q3, q4, ⟨c0, cq, q5, q6, q7⟩, q8⟩ := mlW _ (lkp_mem hm)
          dsimp only at q1 q2 q3 q4 q5 q6 q7 q8
          have hnp : np ≤ S.length := by
            rcases Nat.lt_or_ge np S.length with z | z
            · exact Nat.le_of_lt z
            · rw [List.drop_eq_nil_of_le z] at hdr; cases hdr
          have ha0 : 0 < a0 := hRel.pos (by rw [hcnd.1]; omega)
          have han : a0 < nxt h := shp_lt (by rw [hcnd.1]; have := vw_lt q6; omega)
          have he := wsO_at (adr := adr) (cA := cA) ha0 han
          rw [Ecell_obj (c := c0) (by rw [hcnd.1]; exact q5)] at he
          have hrecv := va_recv hT.1 hRel.1 q6 he
          rw [q7] at hrecv
          refine cl_on (a := (.ref (adr a0) :: (S.take np).reverse.map (rv adr)).toArray) hT hRel (va_runV (C := y'.2.2.1.cls) (As := (S.take np).reverse.map (rv adr)) (b := adr a0) (rest := S'.map (rv adr)) fx (hM q1 hcnd.2.2) ⟨callB_of np hts (gt_code q1) rfl rfl rfl (hts _ q1.2.1) (hts _ q2) ⟨q1.2.2.1.1, q1.2.2.1.2, q8⟩ (rm _ q1), hts _ q3, hts _ q4⟩ ⟨PcR_blind, hrecv, fun U hU hW => cl_pre (as := .ref a0 :: (S.take np).reverse) hT hRel U hU hW⟩ rfl ?_ hls ?_ ?_ hd ⟨hc, hs⟩) kk
          · simp only [List.length_map, List.length_reverse, List.length_take]; omega
          · show S.map (rv adr) = _
            rw [split_st adr S np, hdr]
            rfl
          · exact lv_room (by rw [cats_rv]; exact hcnd.2.1)
        · cases ha
      · cases ha
    · split at ha
      · split at ha <;> cases ha
      · cases ha
    · split at ha
      · split at ha <;> cases ha
      · cases ha
    · cases ha
  · have hl := hl.resolve_left (Nat.succ_ne_zero _); subst hl
    split at ha
    · rename_i np rc y0 hm
      split at ha
      · rename_i a0 S0 hdr
        split at ha
        · rename_i hcnd
          cases ha
          obtain ⟨q1, q2, q3, q4, q5, q6⟩ := mlW _ (lkp_mem hm)
          dsimp only at q1 q2 q3 q4 q5 q6
          have hnp : np ≤ S.length := by
            rcases Nat.lt_or_ge np S.length with z | z
            · exact Nat.le_of_lt z
            · rw [List.drop_eq_nil_of_le z] at hdr; cases hdr
          have hM2 := hM q1 hcnd.2
          have hG := gt_code q1
          rw [q5] at hM2 hG
          refine cl_on (a := (.ref (adr a0) :: (S.take np).reverse.map (rv adr)).toArray) hT hRel (va_runI (As := (S.take np).reverse.map (rv adr)) (b := adr a0) (rest := S'.map (rv adr)) fx hM2 ⟨callB_of np hts hG rfl rfl rfl (hts _ q1.2.1) (hts _ q2) ⟨q1.2.2.1.1, q1.2.2.1.2, q6⟩ (rm _ q1), q4, hts _ q3⟩ ⟨PcR_blind, fun U hU hW => cl_pre (as := .ref a0 :: (S.take np).reverse) hT hRel U hU hW⟩ rfl ?_ hls ?_ ?_ hd ⟨hc, hs⟩) kk
          · simp only [List.length_map, List.length_reverse, List.length_take]; omega
          · show S.map (rv adr) = _
            rw [split_st adr S np, hdr]
            rfl
          · exact lv_room (by rw [cats_rv]; exact hcnd.1)
        · cases ha
      · cases ha
    · rename_i np rc y0 hm
      split at ha
      · rename_i a0 S0 hdr
        split at ha
        · rename_i hcnd
          cases ha
          have hmem := lkp_mem hm
          obtain ⟨q1, q2, q3, q4, q5, q6⟩ := mlW _ hmem
          have hnw := hT.2.1 _ hmem rfl
          dsimp only at q1 q2 q3 q4 q5 q6 hnw
          have hnp : np ≤ S.length := by
            rcases Nat.lt_or_ge np S.length with z | z
            · exact Nat.le_of_lt z
            · rw [List.drop_eq_nil_of_le z] at hdr; cases hdr
          have hM2 := hM q1 hcnd.2
          have hG := gt_code q1
          rw [q5] at hM2 hG
          refine cl_on (a := (.ref (adr a0) :: (S.take np).reverse.map (rv adr)).toArray) hT hRel (va_runIN (As := (S.take np).reverse.map (rv adr)) (b := adr a0) (rest := S'.map (rv adr)) fx hM2 ⟨va_cnB np hts hG rfl rfl rfl hnw (hts _ q1.2.1) ⟨q1.2.2.1.1, q1.2.2.1.2, q6⟩ (rm _ q1), q4, hts _ q3⟩ ⟨PcR_blind, fun U hU hW => cl_pre (as := .ref a0 :: (S.take np).reverse) hT hRel U hU hW⟩ rfl ?_ hls ?_ ?_ hd ⟨hc, hs⟩) kk
          · simp only [List.length_map, List.length_reverse, List.length_take]; omega
          · show S.map (rv adr) = _
            rw [split_st adr S np, hdr]
            rfl
          · exact lv_room (by rw [cats_rv]; exact hcnd.1)
        · cases ha
      · cases ha
    · split at ha
      · split at ha <;> cases ha
      · cases ha
    · cases ha
  · cases ha
end SimAll
