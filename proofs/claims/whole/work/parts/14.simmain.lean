/-- a method's answer is a number, or nothing -/
def vint (v : Option Value) : Prop := v = none ∨ (∃ x, v = some (.int x)) ∨ ∃ x, v = some (.long x)
theorem actRt_int {y : Mth} {i : Instr} {S : List Value} {v : Option Value} (ha : actRt y i S = some (.inr (.inr (.inl v)))) : vint v := by
  unfold actRt at ha
  split at ha
  · split at ha
    · cases ha; exact Or.inr (Or.inl ⟨_, rfl⟩)
    · cases ha
  · split at ha
    · cases ha; exact Or.inr (Or.inr ⟨_, rfl⟩)
    · cases ha
  · split at ha
    · cases ha; exact Or.inl rfl
    · cases ha
  · cases ha
theorem noLd {i : Instr} {L S : List Value} {h : Hp} {a} : actLd i L S h ≠ some (.inr a) := by
  intro ha
  unfold actLd at ha
  repeat' (split at ha)
  all_goals cases ha
theorem noCn {c : Nat} {i : Instr} {L S : List Value} {h : Hp} {a} : actCn c i L S h ≠ some (.inr a) := by
  intro ha
  unfold actCn at ha
  repeat' (split at ha)
  all_goals cases ha
theorem noOp {i : Instr} {L S : List Value} {h : Hp} {a} : actOp i L S h ≠ some (.inr a) := by
  intro ha
  unfold actOp at ha
  repeat' (split at ha)
  all_goals cases ha
theorem noHp {y : Mth} {i : Instr} {L S : List Value} {h : Hp} {a} : actHp y i L S h ≠ some (.inr a) := by
  intro ha
  unfold actHp at ha
  repeat' (split at ha)
  all_goals cases ha
theorem noBr {i : Instr} {L S : List Value} {h : Hp} {a} : actBr i L S h ≠ some (.inr (.inr a)) := by
  intro ha
  unfold actBr at ha
  repeat' (split at ha)
  all_goals cases ha
theorem noIv1 {y : Mth} {i : Instr} {L S : List Value} {h : Hp} {a} : actIv y i L S h ≠ some (.inr (.inl a)) := by
  intro ha
  unfold actIv at ha
  repeat' (split at ha)
  all_goals cases ha
theorem noIv2 {y : Mth} {i : Instr} {L S : List Value} {h : Hp} {a} : actIv y i L S h ≠ some (.inr (.inr (.inl a))) := by
  intro ha
  unfold actIv at ha
  repeat' (split at ha)
  all_goals cases ha
theorem noRt1 {y : Mth} {i : Instr} {S : List Value} {a} : actRt y i S ≠ some (.inl a) := by
  intro ha
  unfold actRt at ha
  repeat' (split at ha)
  all_goals cases ha
theorem noRt2 {y : Mth} {i : Instr} {S : List Value} {a} : actRt y i S ≠ some (.inr (.inl a)) := by
  intro ha
  unfold actRt at ha
  repeat' (split at ha)
  all_goals cases ha
theorem noRt3 {y : Mth} {i : Instr} {S : List Value} {a} : actRt y i S ≠ some (.inr (.inr (.inr a))) := by
  intro ha
  unfold actRt at ha
  repeat' (split at ha)
  all_goals cases ha
/-- which group a step of each kind comes from -/
theorem act_ft {y : Mth} {i : Instr} {L S : List Value} {h : Hp} {a} (ha : act y i L S h = some (.inl a)) : actLd i L S h = some (.inl a) ∨ actCn y.1 i L S h = some (.inl a) ∨ actBr i L S h = some (.inl a) ∨ actHp y i L S h = some (.inl a) ∨ actIv y i L S h = some (.inl a) ∨ actOp i L S h = some (.inl a) := by
  unfold act at ha
  split at ha
  · exact Or.inl ha
  · exact Or.inr (Or.inl ha)
  · exact Or.inr (Or.inr (Or.inl ha))
  · exact Or.inr (Or.inr (Or.inr (Or.inl ha)))
  · exact absurd ha noRt1
  · exact Or.inr (Or.inr (Or.inr (Or.inr (Or.inl ha))))
  · exact Or.inr (Or.inr (Or.inr (Or.inr (Or.inr ha))))
theorem act_jp {y : Mth} {i : Instr} {L S : List Value} {h : Hp} {a} (ha : act y i L S h = some (.inr (.inl a))) : actBr i L S h = some (.inr (.inl a)) := by
  unfold act at ha
  split at ha
  · exact absurd ha noLd
  · exact absurd ha noCn
  · exact ha
  · exact absurd ha noHp
  · exact absurd ha noRt2
  · exact absurd ha noIv1
  · exact absurd ha noOp
theorem act_rt {y : Mth} {i : Instr} {L S : List Value} {h : Hp} {a} (ha : act y i L S h = some (.inr (.inr (.inl a)))) : actRt y i S = some (.inr (.inr (.inl a))) := by
  unfold act at ha
  split at ha
  · exact absurd ha noLd
  · exact absurd ha noCn
  · exact absurd ha noBr
  · exact absurd ha noHp
  · exact ha
  · exact absurd ha noIv2
  · exact absurd ha noOp
theorem act_cl {y : Mth} {i : Instr} {L S : List Value} {h : Hp} {a} (ha : act y i L S h = some (.inr (.inr (.inr a)))) : actIv y i L S h = some (.inr (.inr (.inr a))) := by
  unfold act at ha
  split at ha
  · exact absurd ha noLd
  · exact absurd ha noCn
  · exact absurd ha noBr
  · exact absurd ha noHp
  · exact absurd ha noRt3
  · exact ha
  · exact absurd ha noOp
theorem run_int : ∀ (n d : Nat) (y : Mth) (pc : Nat) (L S : List Value) (h : Hp) (v : Option Value) (h1 : Hp), run n d y pc L S h = some (v, h1) → vint v := by
  intro n
  induction n with
  | zero => intro d y pc L S h v h1 hr; simp [run] at hr
  | succ n ih =>
    intro d y pc L S h v h1 hr
    rw [run] at hr
    split at hr
    · split at hr
      · exact ih _ _ _ _ _ _ _ _ hr
      · split at hr
        · exact ih _ _ _ _ _ _ _ _ hr
        · cases hr
      · rename_i ha
        cases hr
        exact actRt_int (act_rt ha)
      · split at hr
        · cases hr
        · split at hr
          · exact ih _ _ _ _ _ _ _ _ hr
          · cases hr
      · cases hr
    · cases hr
theorem spread_mem {as : List Value} {w : Value} (hw : w ∈ spread as) : w ∈ as ∨ w = un := by
  unfold spread at hw
  obtain ⟨a, h1, h2⟩ := List.mem_flatMap.mp hw
  split at h2
  · rcases List.mem_cons.mp h2 with q | q
    · rw [q]; exact Or.inl h1
    · exact Or.inr (List.mem_singleton.mp q)
  · rw [List.mem_singleton.mp h2]; exact Or.inl h1
theorem ent_mem {as : List Value} {n : Nat} {w : Value} (hw : w ∈ ent as n) : w ∈ as ∨ w = un := by
  unfold ent at hw
  rcases List.mem_append.mp hw with q | q
  · exact spread_mem q
  · exact Or.inr (List.eq_of_mem_replicate q)
theorem iv_args {y y' : Mth} {i : Instr} {L S as S' : List Value} {h : Hp} (ha : actIv y i L S h = some (.inr (.inr (.inr (y', as, S'))))) : (∀ w ∈ as, w ∈ S) ∧ (∀ w ∈ S', w ∈ S) := by
  have ht : ∀ (S : List Value) (n : Nat), (∀ w ∈ (S.take n).reverse, w ∈ S) := fun S n w hw => List.mem_of_mem_take (List.mem_reverse.mp hw)
  have hdr : ∀ (S : List Value) (n : Nat), (∀ w ∈ S.drop n, w ∈ S) := fun S n w hw => List.mem_of_mem_drop hw
  unfold actIv at ha
  repeat' (split at ha)
  all_goals first
    | cases ha; done
    | (cases ha; exact ⟨ht _ _, hdr _ _⟩)
    | (rename_i hq _; cases ha; refine ⟨fun w hw => ?_, fun w hw => hdr _ _ w (by rw [hq]; exact List.mem_cons_of_mem _ hw)⟩
       rcases List.mem_cons.mp hw with q | q
       · exact hdr _ _ w (by rw [hq, q]; exact List.mem_cons_self)
       · exact ht _ _ w q)
/-- THE SMALL MACHINE'S RUN IS THE REAL ONE'S -/
theorem sim (l : Launch) (n : Nat) : ∀ (d : Nat) (y : Mth) (pc : Nat) (L S : List Value) (h : Hp) (v : Option Value) (h' : Hp), run n d y pc L S h = some (v, h') →
    ∀ {p : Program} {e : Env} {R : Room} {s : State} {m : MethodId} {args : Array Value} {below : List Frame} {meth : Method} {c : Code} {Q : State → Prop} {D : va_G} {A : Nat → Prop} {b N0 : Nat} {xs : Nat → Int32} {aK aV : Nat → Nat} (_ : Cx p s m args meth c y) (_ : Tb D A b N0 xs aK aV s) (_ : d + 5 ≤ R.frames) (_ : 64 * (d + 5) ≤ R.locals) {c1 s1 : Nat} (_ : c1 ≤ R.cells) (_ : s1 ≤ R.slots) {adr0 : Nat → Nat} {n0 : Nat}
      (_ : ∀ (H : Heap) (locs : List Loc) (cells slots : Nat) (ls : Array Slot) (adr : Nat → Nat) (cA : Nat → ClassId) (pc len : Nat) (i : Instr) (S : List Value), decode y.2.2.2.1 pc = .ok (i, len) → (ilen i = 0 ∨ len = ilen i) → actRt y i S = some (.inr (.inr (.inl v))) → Rel D A b N0 xs aK s adr cA H locs h' → cells ≤ c1 → slots ≤ s1 → (∀ a, a < n0 → adr a = adr0 a) → (∀ a, 1000000 ≤ a → adr a = adr0 a) → W p l e R s m args below meth c H locs cells slots Q (F0 m pc ls (S.map (rv adr))))
      {H : Heap} {locs : List Loc} {cells slots : Nat} {ls : Array Slot} {adr : Nat → Nat} {cA : Nat → ClassId} (_ : Rel D A b N0 xs aK s adr cA H locs h) (_ : LR adr L ls y.2.2.2.2.1) (_ : VK h L) (_ : VK h S) (_ : n0 ≤ nxt h) (_ : ∀ a, a < n0 → adr a = adr0 a) (_ : ∀ a, 1000000 ≤ a → adr a = adr0 a) (_ : cells + (nxt h' - nxt h) ≤ c1) (_ : slots + (tot h' - tot h) ≤ s1),
      W p l e R s m args below meth c H locs cells slots Q (F0 m pc ls (S.map (rv adr))) := by
  induction n with
  | zero => intro d y pc L S h v h' hr; simp [run] at hr
  | succ n ih =>
    intro d y pc L S h v h' hr p e R s m args below meth c Q D A b N0 xs aK aV C hT hfr hlo c1 s1 hc1 hs1 adr0 n0 END H locs cells slots ls adr cA hRel hLR hVL hVS hn0 g1 g2 hcl hsl
    rw [run] at hr
    split at hr
    · rename_i i len hins
      obtain ⟨hd, hl⟩ := ins_dec hins
      split at hr
      · rename_i L' S' h1 ha
        -- one step of this method
        have gr := act_grow ha
        have gr2 := run_grow _ _ _ _ _ _ _ _ _ hr
        have on : ∀ {H : Heap} {locs : List Loc} {cells slots : Nat} {ls : Array Slot} {adr : Nat → Nat} {cA : Nat → ClassId}, Rel D A b N0 xs aK s adr cA H locs h1 → LR adr L' ls y.2.2.2.2.1 → VK h1 L' → VK h1 S' → (∀ a, a < n0 → adr a = adr0 a) → (∀ a, 1000000 ≤ a → adr a = adr0 a) → cells + (nxt h' - nxt h1) ≤ c1 → slots + (tot h' - tot h1) ≤ s1 → W p l e R s m args below meth c H locs cells slots Q (F0 m (pc + len) ls (S'.map (rv adr))) :=
          fun r1 r2 r3 r4 r5 r6 r7 r8 => ih d y (pc + len) L' S' h1 v h' hr C hT hfr hlo hc1 hs1 END r1 r2 r3 r4 (Nat.le_trans hn0 gr.1) r5 r6 r7 r8
        rcases act_ft ha with ha | ha | ha | ha | ha | ha
        · obtain ⟨rfl, z1, z2, z3⟩ := ld_sim (p := p) (l := l) (e := e) (R := R) (s := s) (m := m) (args := args) (below := below) (meth := meth) (c := c) (Q := Q) (H := H) (locs := locs) (cells := cells) (slots := slots) (ls := ls) (adr := adr) C hd hl ha hLR hVL hVS
          exact z3 (fun ls' hL' => on hRel hL' z1 z2 g1 g2 hcl hsl)
        · obtain ⟨rfl, rfl, z2, z3⟩ := cn_sim (p := p) (l := l) (e := e) (R := R) (s := s) (m := m) (args := args) (below := below) (meth := meth) (c := c) (Q := Q) (H := H) (locs := locs) (cells := cells) (slots := slots) (ls := ls) (adr := adr) C hT hRel.2.2.2.2.2.1 hd hl ha hVS
          exact z3 (on hRel hLR hVL z2 g1 g2 hcl hsl)
        · obtain ⟨rfl, rfl, z2, z3⟩ := br_ft (p := p) (l := l) (e := e) (R := R) (s := s) (m := m) (args := args) (below := below) (meth := meth) (c := c) (Q := Q) (H := H) (locs := locs) (cells := cells) (slots := slots) (ls := ls) (adr := adr) C hd hl ha hVS
          exact z3 (on hRel hLR hVL z2 g1 g2 hcl hsl)
        · obtain ⟨rfl, -, -, z2, z3⟩ := hp_sim (p := p) (l := l) (e := e) (R := R) (s := s) (m := m) (args := args) (below := below) (meth := meth) (c := c) (Q := Q) (H := H) (locs := locs) (cells := cells) (slots := slots) (ls := ls) (adr := adr) (cA := cA) C hT hd hl ha hRel hVS (by omega) (by omega)
          exact z3 (fun H1 locs1 adr1 cA1 r1 e1 e2 => on r1 (LR_ext hVL e1 e2 hLR) (fun v hv => vok_grow gr.1 (hVL v hv)) z2 (fun a ha => by rw [e1 a (Nat.lt_of_lt_of_le ha hn0)]; exact g1 a ha) (fun a ha => by rw [e2 a ha]; exact g2 a ha) (by omega) (by omega))
        · obtain ⟨rfl, w1, w2, z2, z3⟩ := iv_ft (p := p) (l := l) (e := e) (R := R) (s := s) (m := m) (args := args) (below := below) (meth := meth) (c := c) (Q := Q) (H := H) (locs := locs) (cells := cells) (slots := slots) (ls := ls) (adr := adr) (cA := cA) C hT hd hl ha hRel hLR hVS (by omega) (by omega) (by omega) (by omega)
          exact z3 (fun H1 locs1 r1 => on r1 hLR (fun v hv => vok_grow gr.1 (hVL v hv)) (fun v hv => vok_grow gr.1 (z2 v hv)) g1 g2 (by omega) (by omega))
        · obtain ⟨rfl, rfl, z2, z3⟩ := op_sim (p := p) (l := l) (e := e) (R := R) (s := s) (m := m) (args := args) (below := below) (meth := meth) (c := c) (Q := Q) (H := H) (locs := locs) (cells := cells) (slots := slots) (ls := ls) (adr := adr) C hd hl ha hVS
          exact z3 (on hRel hLR hVL z2 g1 g2 hcl hsl)
      · rename_i o S' ha
        have ha := act_jp ha
        split at hr
        · rename_i hpos
          obtain ⟨tgt, ht⟩ := Int.eq_ofNat_of_zero_le hpos
          rw [ht] at hr
          obtain ⟨z2, z3⟩ := br_jp (p := p) (l := l) (e := e) (R := R) (s := s) (m := m) (args := args) (below := below) (meth := meth) (c := c) (Q := Q) (H := H) (locs := locs) (cells := cells) (slots := slots) (ls := ls) (adr := adr) C hd hl ha hVS ht
          exact z3 (ih d y tgt L S' h v h' hr C hT hfr hlo hc1 hs1 END hRel hLR hVL z2 hn0 g1 g2 hcl hsl)
        · cases hr
      · rename_i v0 ha
        cases hr
        exact END H locs cells slots ls adr cA pc len i S hd hl (act_rt ha) hRel (by omega) (by omega) g1 g2
      · rename_i y' as S' ha
        have ha := act_cl ha
        obtain ⟨m1, m2⟩ := iv_args ha
        have va : VK h as := fun w hw => hVS w (m1 w hw)
        have vs : VK h S' := fun w hw => hVS w (m2 w hw)
        split at hr
        · cases hr
        · rename_i d'
          split at hr
          · rename_i v1 h1 hc
            have gr := run_grow _ _ _ _ _ _ _ _ _ hc
            have gr2 := run_grow _ _ _ _ _ _ _ _ _ hr
            have vi := run_int _ _ _ _ _ _ _ _ _ hc
            refine iv_cl (v := v1) (h1 := h1) (d := d') (mc := nxt h1 - nxt h) (ms := tot h1 - tot h) C hT hd hl ha hRel hLR.1 hVS (by omega) (by omega) (by omega) (by omega) (fun hy hsp => cl_met hy hsp ?_) ?_
            · intro p2 e2 s2 m2 args2 below2 meth2 c2 ls2 C2 hT2 hR2 hL2
              exact ih d' y' 0 (ent as y'.2.2.2.2.1) [] h v1 h1 hc (n0 := nxt h) (adr0 := adr) (c1 := nxt h1 - nxt h) (s1 := tot h1 - tot h) C2 hT2 (Nat.le_refl _) (Nat.le_refl _) (Nat.le_refl _) (Nat.le_refl _) (fun H3 locs3 cells3 slots3 ls3 adr3 cA3 pc3 len3 i3 S3 q1 q2 q3 q4 q5 q6 q7 q8 => cl_ret C2 q1 q2 q3 q4 q5 q6 q7 q8) hR2 hL2 (fun w hw => (ent_mem hw).elim (va w) (fun q => by rw [q]; trivial)) (fun w hw => by cases hw) (Nat.le_refl _) (fun _ _ => rfl) (fun _ _ => rfl) (by omega) (by omega)
            · intro H3 locs3 adr3 cA3 r1 e1 e2
              have k := ih (d' + 1) y (pc + len) L (psh v1 S') h1 v h' hr C hT hfr hlo hc1 hs1 END (cells := cells + (nxt h1 - nxt h)) (slots := slots + (tot h1 - tot h)) r1 (LR_ext hVL e1 e2 hLR) (fun w hw => vok_grow gr.1 (hVL w hw)) (fun w hw => by
                unfold psh at hw
                rcases List.mem_append.mp hw with q | q
                · rcases vi with rfl | ⟨x, rfl⟩ | ⟨x, rfl⟩
                  · cases q
                  · rw [List.mem_singleton.mp q]; trivial
                  · rw [List.mem_singleton.mp q]; trivial
                · exact vok_grow gr.1 (vs w q)) (Nat.le_trans hn0 gr.1) (fun a ha => by rw [e1 a (Nat.lt_of_lt_of_le ha hn0)]; exact g1 a ha) (fun a ha => by rw [e2 a ha]; exact g2 a ha) (by omega) (by omega)
              have e3 : (psh v1 S').map (rv adr3) = (v1.map (rv adr3)).toList ++ S'.map (rv adr) := by
                unfold psh
                rw [List.map_append, rvs_ext vs e1 e2]
                cases v1 <;> rfl
              rw [e3] at k
              exact k
          · cases hr
      · cases hr
    · cases hr
