-- colours laid for a name
def ems (p : List Nat × List Nat) (m : Mv) : List Nat × List Nat := if m.1 = 2 then (mk1 p.1 m, p.2) else (mk1 p.1 m, p.2 ++ [p.1.getD m.2.1 0])
def emS (p : List Nat × List Nat) (s : List Mv) : List Nat × List Nat := s.foldl ems p
def itE (s : List Mv) (p : List Nat × List Nat) : Nat → List Nat × List Nat
  | 0 => p
  | a + 1 => emS (itE s p a) s
theorem ems_pre (p : List Nat × List Nat) (m : Mv) : p.2 <+: (ems p m).2 := by
  unfold ems
  split
  · exact List.prefix_refl _
  · exact List.prefix_append _ _
theorem emS_pre : ∀ (s : List Mv) (p : List Nat × List Nat), p.2 <+: (emS p s).2
  | [], _ => List.prefix_refl _
  | m :: s, p => (ems_pre p m).trans (emS_pre s (ems p m))
theorem emS_app (p : List Nat × List Nat) (s t : List Mv) : emS p (s ++ t) = emS (emS p s) t := List.foldl_append
theorem emS_take (p : List Nat × List Nat) (s : List Mv) (i : Nat) : (emS p (s.take i)).2 <+: (emS p s).2 := by
  have e := emS_app p (s.take i) (s.drop i)
  rw [List.take_append_drop] at e
  rw [e]
  exact emS_pre _ _
theorem emS_succ {p : List Nat × List Nat} {s : List Mv} {i : Nat} (hi : i < s.length) : emS p (s.take (i + 1)) = ems (emS p (s.take i)) (gM s i) := by
  rw [take_succ_gM hi, emS_app]
  rfl
theorem itE_pre (s : List Mv) (p : List Nat × List Nat) (a : Nat) : ∀ b, (itE s p a).2 <+: (itE s p (a + b)).2
  | 0 => List.prefix_refl _
  | b + 1 => (itE_pre s p a b).trans (emS_pre s _)
theorem pm_ems {n : Nat} {p : List Nat × List Nat} {m : Mv} (hp : pm n p.1) (h0 : 0 < n) (hm : mvN n m) : pm n (ems p m).1 := by
  unfold ems
  split
  · exact pm_mk1 hp h0 hm
  · exact pm_mk1 hp h0 hm
theorem pm_emS {n : Nat} (h0 : 0 < n) : ∀ {s : List Mv} {p : List Nat × List Nat}, pm n p.1 → sgN n s → pm n (emS p s).1
  | [], _, h, _ => h
  | m :: s, _, h, hs => pm_emS (s := s) h0 (pm_ems h h0 (hs m List.mem_cons_self)) (fun x hx => hs x (List.mem_cons_of_mem _ hx))
theorem pm_itE {n : Nat} (h0 : 0 < n) {s : List Mv} {p : List Nat × List Nat} (hp : pm n p.1) (hs : sgN n s) : ∀ a, pm n (itE s p a).1
  | 0 => hp
  | a + 1 => pm_emS h0 (pm_itE h0 hp hs a) hs
def Em (n : Nat) (s : List Mv) : List Nat := (itE s (List.range n, []) 60).2
def Pm (n : Nat) (s : List Mv) (a m : Nat) : List Nat × List Nat := emS (itE s (List.range n, []) a) (s.take m)
theorem Pm_pre {n : Nat} {s : List Mv} {a m : Nat} (ha : a < 60) : (Pm n s a m).2 <+: Em n s := by
  unfold Pm Em
  refine (emS_take _ s m).trans ?_
  have := itE_pre s (List.range n, []) (a + 1) (60 - (a + 1))
  rw [show a + 1 + (60 - (a + 1)) = 60 by omega] at this
  exact this
theorem Pm_succ {n : Nat} {s : List Mv} {a m : Nat} (hm : m < s.length) : Pm n s a (m + 1) = ems (Pm n s a m) (gM s m) := emS_succ hm
theorem Pm_next {n : Nat} {s : List Mv} {a : Nat} : Pm n s a s.length = Pm n s (a + 1) 0 := by
  unfold Pm
  rw [List.take_length]
  rfl
theorem Pm_last {n : Nat} {s : List Mv} : (Pm n s 60 0).2 = Em n s := rfl
theorem pm_Pm {n : Nat} (h0 : 0 < n) {s : List Mv} (hs : sgN n s) (a m : Nat) : pm n (Pm n s a m).1 := pm_emS h0 (pm_itE h0 (pm_range n) hs a) (fun x hx => hs x (List.mem_of_mem_take hx))
theorem pre_get {R S : List Nat} (p : R <+: S) {i : Nat} (hi : i < R.length) : S.getD i 0 = R.getD i 0 := by
  obtain ⟨t, e⟩ := p
  rw [← e, List.getD_eq_getElem?_getD, List.getD_eq_getElem?_getD, List.getElem?_append_left hi]
theorem app_get (R : List Nat) (x : Nat) : (R ++ [x]).getD R.length 0 = x := by
  rw [List.getD_eq_getElem?_getD, List.getElem?_append_right (Nat.le_refl _), Nat.sub_self]
  rfl
-- the colours told
def ld (nm : Nat → Int32) (E : Nat → Nat) : Nat → Option (Nat → Int32)
  | 0 => some (fun _ => -1)
  | i + 1 => (ld nm E i).bind (fun f => if nm i = -1 then some f else if ¬ f (E i) = -1 ∧ ¬ f (E i) = nm i then none else some (fun x => if x = E i then nm i else f x))
def lastN (nm : Nat → Int32) : Nat → Nat
  | 0 => 0
  | i + 1 => if nm i = -1 then lastN nm i else i + 1
theorem lastN_le (nm : Nat → Int32) : ∀ i, lastN nm i ≤ i
  | 0 => Nat.le_refl _
  | i + 1 => by
    unfold lastN
    have := lastN_le nm i
    split <;> omega
theorem lastN_no (nm : Nat → Int32) : ∀ i j, lastN nm i ≤ j → j < i → nm j = -1
  | 0, j, _, h => by omega
  | i + 1, j, h1, h2 => by
    unfold lastN at h1
    by_cases q : nm i = -1
    · rw [if_pos q] at h1
      by_cases z : j = i
      · rw [z]; exact q
      · exact lastN_no nm i j h1 (by omega)
    · rw [if_neg q] at h1
      omega
theorem lastN_yes (nm : Nat → Int32) : ∀ i j, j < i → ¬ nm j = -1 → j < lastN nm i
  | 0, j, h, _ => by omega
  | i + 1, j, h1, h2 => by
    unfold lastN
    by_cases q : nm i = -1
    · rw [if_pos q]
      by_cases z : j = i
      · rw [z] at h2; exact absurd q h2
      · exact lastN_yes nm i j (by omega) h2
    · rw [if_neg q]
      omega
theorem ld_none {nm : Nat → Int32} {E : Nat → Nat} {i : Nat} (h : ld nm E i = none) : ∀ k, ld nm E (i + k) = none
  | 0 => h
  | k + 1 => by
    show (ld nm E (i + k)).bind _ = none
    rw [ld_none h k]
    rfl
theorem ld_skip {nm : Nat → Int32} {E : Nat → Nat} {i : Nat} : ∀ k, (∀ j, i ≤ j → j < i + k → nm j = -1) → ld nm E (i + k) = ld nm E i
  | 0, _ => rfl
  | k + 1, h => by
    show (ld nm E (i + k)).bind _ = _
    rw [ld_skip k (fun j a b => h j a (by omega))]
    cases ld nm E i with
    | none => rfl
    | some f =>
      show (if nm (i + k) = -1 then some f else _) = some f
      rw [if_pos (h (i + k) (by omega) (by omega))]
def unl (c : List Nat) (f : Nat → Int32) (s : Nat) : Bool := decide (¬ f s = -1 ∧ ¬ f s = nI (c.getD s 0))
def lyA (n : Nat) (c : List Nat) (nm : Nat → Int32) (E : List Nat) : Int32 := if lastN nm 30 ≤ E.length then (match ld nm (fun i => E.getD i 0) (lastN nm 30) with
    | none => -1
    | some f => nI (fa_cnt (unl c f) n)) else -1
theorem lyA_few {n : Nat} {c : List Nat} {nm : Nat → Int32} {E : List Nat} (h : ¬ lastN nm 30 ≤ E.length) : lyA n c nm E = -1 := by unfold lyA; rw [if_neg h]
theorem lyA_none {n : Nat} {c : List Nat} {nm : Nat → Int32} {E : List Nat} {i : Nat} (hi : i ≤ lastN nm 30) (h : ld nm (fun i => E.getD i 0) i = none) : lyA n c nm E = -1 := by
  unfold lyA
  have := ld_none h (lastN nm 30 - i)
  rw [show i + (lastN nm 30 - i) = lastN nm 30 by omega] at this
  rw [this]
  split <;> rfl
theorem lyA_some {n : Nat} {c : List Nat} {nm : Nat → Int32} {E : List Nat} {f : Nat → Int32} (h : lastN nm 30 ≤ E.length) (e : ld nm (fun i => E.getD i 0) (lastN nm 30) = some f) : lyA n c nm E = nI (fa_cnt (unl c f) n) := by
  unfold lyA
  rw [if_pos h, e]
section LayM
variable {d : Nat} {T : HT} {h : Hp} {Q : Option Value → Hp → Prop} {n : Nat} {c : List Nat} {nm : Nat → Int32}
def frL (h h' : Hp) : Prop := ∀ b j, b ≠ 65 → b ≠ 66 → b ≠ 76 → gI h' b j = gI h b j
theorem s_lay216 (hL : Lay T) (eT : h.2.2 = T) (hn : gI h 60 0 = nI n) (h16 : n ≤ 16) (hC : MC h 60 c) {f : Nat → Int32} (h76 : ∀ x, x < 16 → gI h 76 x = f x) (K : Q (some (.int (nI (fa_cnt (unl c f) n)))) h) : L_X11_lay_216 d (nI 0) (nI 0) h Q := by
  refine upto n (fun i h1 => h1 = h) (fun i h1 => L_X11_lay_216 d (nI (fa_cnt (unl c f) i)) (nI i) h1 Q) ?_ ?_ 0 h (Nat.zero_le _) rfl
  · rintro i h1 hi rfl ih
    refine b_X11_lay_216 hL eT _ _ ?_
    have yes : unl c f i = true → L_X11_lay_216 d (nI (fa_cnt (unl c f) i) + nI 1) (nI (i + 1)) h1 Q := fun k => by rw [nI_add, ← fa_cnt_yes k]; exact ih _ rfl
    have no : unl c f i = false → L_X11_lay_216 d (nI (fa_cnt (unl c f) i) + nI 0) (nI (i + 1)) h1 Q := fun k => by rw [nI_add, Nat.add_zero, ← fa_cnt_no k]; exact ih _ rfl
    rw [hn, nI_clamp (by omega), h76 i (by omega), nI_add 10 i, nI_clamp (by omega), hC i (by omega), nI_add i 1]
    refine ⟨fun _ => ⟨(inB_iff (by omega)).mpr (by omega), fun z => no (decide_eq_false (fun k => k.1 z)), fun z => ⟨(inB_iff (by omega)).mpr (by omega), (inB_iff (by omega)).mpr (by omega), fun y => no (decide_eq_false (fun k => k.2 y)), fun y => yes (decide_eq_true ⟨z, y⟩)⟩⟩, fun z => absurd (nI_lt hi (by omega)) z⟩
  · rintro h1 rfl
    refine b_X11_lay_216 hL eT _ _ ?_
    rw [hn]
    exact ⟨fun z => absurd z (nI_nlt (Nat.le_refl _) (by omega)), fun _ => K⟩
theorem s_layM (hL : Lay T) (eT : h.2.2 = T) {sg : Nat → List Mv} (hb : MB h n c sg) (hnm : ∀ i, i < 30 → gI h 60 (940 + i) = nm i) {k : Nat} (hk : k < 4)
    (K : ∀ h' : Hp, h'.2 = h.2 → frL h h' → Q (some (.int (lyA n c nm (Em n (sg k))))) h') : Call (d + 3) MX11_lay [.ref 59, .int (nI k)] h Q := by
  obtain ⟨c1, ⟨c2, c3⟩, ⟨c4, c5, c6⟩, c7⟩ := id hb
  obtain ⟨hG, hN⟩ := c7 k hk
  have h200 := hG.1
  have rl := lastN_le nm 30
  refine b_X11_lay hL eT _ ⟨fun _ => ?_, fun z => absurd (isSongM_iff.mpr ⟨k, hk, rfl⟩) z⟩
  -- how many rows are named
  refine upto 30 (fun i h1 => h1 = h) (fun i h1 => L_X11_lay_13 d (nI k) (nI (lastN nm i)) (nI i) h1 Q) ?_ ?_ 0 h (by decide) rfl
  · rintro i h1 hi rfl ih
    refine b_X11_lay_13 hL eT _ _ _ ?_
    have ih := ih h1 rfl
    unfold lastN at ih
    rw [nI_add 940 i, nI_clamp (by omega), hnm i hi, nI_add i 1]
    refine ⟨fun _ => ⟨(inB_iff (by omega)).mpr (by omega), fun z => ?_, fun z => ?_⟩, fun z => absurd (nI_lt hi (by decide)) z⟩
    · rw [if_pos z] at ih; exact ih
    · rw [if_neg z] at ih; exact ih
  · rintro h1 rfl
    refine b_X11_lay_13 hL eT _ _ _ ⟨fun z => absurd z (by decide), fun _ => ?_⟩
    -- nothing is told yet
    refine upto 16 (fun i h2 => h2.2 = h1.2 ∧ (∀ b j, b ≠ 76 → gI h2 b j = gI h1 b j) ∧ ∀ x, x < i → gI h2 76 x = -1) (fun i h2 => L_X11_lay_45 d (nI k) (nI (lastN nm 30)) (nI i) h2 Q) ?_ ?_ 0 h1 (by decide) ⟨rfl, fun _ _ _ => rfl, fun x hx => by omega⟩
    · rintro i h2 hi ⟨t, g, z⟩ ih
      refine b_X11_lay_45 hL (e2T t eT) _ _ _ ?_
      rw [nI_clamp (by omega), nI_add]
      refine ⟨fun _ => ⟨(inB_iff (by omega)).mpr hi, ih _ ⟨t, fun b j u => by rw [gI_sI_ne u]; exact g b j u, fun x hx => ?_⟩⟩, fun q => absurd (nI_lt hi (by decide)) q⟩
      rw [gI_sI_at]
      by_cases v : x = i
      · rw [if_pos v]
      · rw [if_neg v]; exact z x (by omega)
    · rintro h2 ⟨t2, g2, z2⟩
      refine b_X11_lay_45 hL (e2T t2 eT) _ _ _ ⟨fun q => absurd q (by decide), fun _ => ?_⟩
      refine s_sitsAtFirst (d := d + 2) hL (e2T t2 eT) (by rw [g2 _ _ (by decide)]; exact c1) c3 (fun h3 t3 g3 s3 => ⟨rfl, e2T (t3.trans t2) eT, ?_⟩)
      -- the end of the rows
      have done : ∀ (f : Nat → Int32) (h4 : Hp) (a : Nat), a ≤ 60 → h4.2 = h1.2 → frL h1 h4 → (∀ x, x < 16 → gI h4 76 x = f x) → ld nm (fun i => (Em n (sg k)).getD i 0) (lastN nm 30) = some f → lastN nm 30 ≤ (Em n (sg k)).length → L_X11_lay_73 d (nI k) (nI (lastN nm 30)) (nI (lastN nm 30)) (nI a) h4 Q := by
        intro f h4 a ha t4 g4 z4 e4 l4
        have fin : L_X11_lay_216 d (nI 0) (nI 0) h4 Q := by
          refine s_lay216 hL (e2T t4 eT) (by rw [g4 _ _ (by decide) (by decide) (by decide)]; exact c1) c3 (fun s hs => by rw [g4 _ _ (by decide) (by decide) (by decide)]; exact c4 s hs) z4 ?_
          rw [← lyA_some l4 e4]
          exact K h4 t4 g4
        have irr : ¬ nI (lastN nm 30) < nI (lastN nm 30) := nI_nlt (Nat.le_refl _) (by omega)
        exact b_X11_lay_73 hL (e2T t4 eT) _ _ _ _ ⟨fun _ => ⟨fun z => absurd z irr, fun _ => ⟨fun z => absurd z irr, fun _ => fin⟩⟩, fun _ => ⟨fun z => absurd z irr, fun _ => fin⟩⟩
      have main := upto 60 (fun a h4 => (h4.2 = h1.2 ∧ frL h1 h4 ∧ MS h4 (Pm n (sg k) a 0).1 ∧ (Pm n (sg k) a 0).2.length ≤ lastN nm 30) ∧ ∃ f, (∀ x, x < 16 → gI h4 76 x = f x) ∧ ld nm (fun i => (Em n (sg k)).getD i 0) (Pm n (sg k) a 0).2.length = some f) (fun a h4 => L_X11_lay_73 d (nI k) (nI (lastN nm 30)) (nI (Pm n (sg k) a 0).2.length) (nI a) h4 Q) ?_ ?_ 0 h3 (by decide) ⟨⟨t3.trans t2, fun b j u _ w => by rw [g3 b j u, g2 b j w], s3, Nat.zero_le _⟩, fun _ => -1, fun x hx => by rw [g3 _ _ (by decide)]; exact z2 x hx, rfl⟩
      · exact main
      · rintro a h4 ha ⟨⟨t4, g4, s4, l4⟩, f, z4, e4⟩ ih
        by_cases full : (Pm n (sg k) a 0).2.length = lastN nm 30
        · rw [full]
          rw [full] at e4
          exact done f h4 a (by omega) t4 g4 z4 e4 (by rw [← full]; exact (Pm_pre ha).length_le)
        · refine b_X11_lay_73 hL (e2T t4 eT) _ _ _ _ ⟨fun _ => ⟨fun _ => ?_, fun z => absurd (nI_lt (by omega) (by omega)) z⟩, fun z => absurd (nI_lt ha (by decide)) z⟩
          refine upto (sg k).length (fun m h5 => (h5.2 = h1.2 ∧ frL h1 h5 ∧ MS h5 (Pm n (sg k) a m).1 ∧ (Pm n (sg k) a m).2.length ≤ lastN nm 30) ∧ ∃ f, (∀ x, x < 16 → gI h5 76 x = f x) ∧ ld nm (fun i => (Em n (sg k)).getD i 0) (Pm n (sg k) a m).2.length = some f) (fun m h5 => L_X11_lay_88 d (nI k) (nI (lastN nm 30)) (nI (Pm n (sg k) a m).2.length) (nI a) (nI m) h5 Q) ?_ ?_ 0 h4 (Nat.zero_le _) ⟨⟨t4, g4, s4, l4⟩, f, z4, e4⟩
          · rintro m h5 hm ⟨⟨t5, g5, s5, l5⟩, f, z5, e5⟩ ih2
            have hpi := pm_Pm (n := n) (show 0 < n by omega) hN a m
            have pre := Pm_pre (n := n) (s := sg k) (a := a) (m := m) ha
            have pre1 := Pm_pre (n := n) (s := sg k) (a := a) (m := m + 1) ha
            rw [Pm_succ hm] at ih2 pre1
            generalize hP : Pm n (sg k) a m = P at *
            have hl := hpi.1
            have g60 : ∀ j, gI h5 60 j = gI h1 60 j := fun j => g5 60 j (by decide) (by decide) (by decide)
            have hb5 : MB h5 n c sg := hb.tr (fun j _ => g60 j)
            obtain ⟨d1, ⟨d2, d3⟩, ⟨d4, d5, d6⟩, d7⟩ := id hb5
            refine b_X11_lay_88 hL (e2T t5 eT) _ _ _ _ _ ?_
            rw [nI_add 975 k, nI_clamp (by omega), (d7 k hk).1.2.1, nI_add m 1, nI_add a 1]
            refine ⟨(inB_iff (by omega)).mpr (by omega), fun _ => ⟨fun lt => ?_, fun lt => ?_⟩, fun q => absurd (nI_lt hm (by omega)) q⟩
            · have lt : P.2.length < lastN nm 30 := (nI_ltI (by omega) (by omega)).mp lt
              refine s_moves (d := d) (c := c) hL (e2T t5 eT) (by rw [hl]; exact d1) (by omega) s5 d4 d5 (pm_sm hpi c3) hpi.2.1 (by omega) hk (d7 k hk).1 (by rw [hl]; exact (d7 k hk).2) hm (m := gM (sg k) m) (mi := 0) (by decide) (by decide : (0 : Nat) < 2) m1_dr (by decide : (0 : Nat) < 2) (by rw [if_neg (by decide)]) ?_ ?_ ?_
              · intro q h6 t6 g6 s6
                have e : ems P (gM (sg k) m) = (mk1 P.1 (gM (sg k) m), P.2) := by unfold ems; rw [if_pos q]
                rw [e] at ih2
                refine ⟨_, rfl, e2T (t6.trans t5) eT, fun _ => ?_, fun z => absurd rfl z⟩
                exact ih2 h6 ⟨⟨t6.trans t5, fun b j u v w => by rw [g6 b j u v, g5 b j u v w], s6, l5⟩, f, fun x hx => by rw [g6 _ _ (by decide) (by decide)]; exact z5 x hx, e5⟩
              · intro q z
                have hx := sm_getD (pm_sm hpi c3) (gM (sg k) m).2.1
                exact z.elim (fun y => by omega) (fun y => absurd y.1 (by decide))
              · intro q _ _ h6 t6 g6 s6 o
                have hx := sm_getD (pm_sm hpi c3) (gM (sg k) m).2.1
                have e : ems P (gM (sg k) m) = (mk1 P.1 (gM (sg k) m), P.2 ++ [P.1.getD (gM (sg k) m).2.1 0]) := by unfold ems; rw [if_neg q]
                rw [e] at ih2 pre1
                have eE : (Em n (sg k)).getD P.2.length 0 = P.1.getD (gM (sg k) m).2.1 0 := by
                  rw [pre_get pre1 (by rw [List.length_append, List.length_singleton]; omega)]
                  exact app_get _ _
                have el : (P.2 ++ [P.1.getD (gM (sg k) m).2.1 0]).length = P.2.length + 1 := by rw [List.length_append, List.length_singleton]
                dsimp only at ih2
                rw [el] at ih2
                generalize P.1.getD (gM (sg k) m).2.1 0 = x at *
                have f6 : frL h1 h6 := fun b j u v w => by
                  by_cases y : b = 60
                  · rw [y, o.zero, g60]
                  · rw [g6 b j y u, g5 b j u v w]
                have n6 : gI h6 60 (940 + P.2.length) = nm P.2.length := by rw [o.zero, g60]; exact hnm _ (by omega)
                have z6 : ∀ y, y < 16 → gI h6 76 y = f y := fun y hy => by rw [g6 _ _ (by decide) (by decide)]; exact z5 y hy
                have eL : ld nm (fun i => (Em n (sg k)).getD i 0) (P.2.length + 1) = if nm P.2.length = -1 then some f else if ¬ f x = -1 ∧ ¬ f x = nm P.2.length then none else some (fun y => if y = x then nm P.2.length else f y) := by
                  show (ld nm (fun i => (Em n (sg k)).getD i 0) P.2.length).bind _ = _
                  rw [e5]
                  show (if nm P.2.length = -1 then some f else _) = _
                  subst eE
                  rfl
                refine ⟨_, rfl, e2T (t6.trans t5) eT, fun z => absurd ((nI_m1 x (by omega)).mp z) (fun z => z), fun _ => ?_⟩
                rw [nI_add 940 _, nI_clamp (by omega), n6, nI_clamp (by omega), z6 x hx, nI_add _ 1]
                have ib : inB (nI x) 16 = true := (inB_iff (by omega)).mpr hx
                have put : ¬ nm P.2.length = -1 → ¬ (¬ f x = -1 ∧ ¬ f x = nm P.2.length) → L_X11_lay_88 d (nI k) (nI (lastN nm 30)) (nI (P.2.length + 1)) (nI a) (nI (m + 1)) (sI h6 76 x (nm P.2.length)) Q := fun k1 k2 => by
                  rw [if_neg k1, if_neg k2] at eL
                  refine ih2 _ ⟨⟨t6.trans t5, fun b j u v w => by rw [gI_sI_ne w]; exact f6 b j u v w, fun s hs => by rw [gI_sI_ne (by decide)]; exact s6 s hs, by omega⟩, _, fun y hy => ?_, eL⟩
                  rw [gI_sI_at]
                  by_cases v : y = x
                  · rw [if_pos v, if_pos v]
                  · rw [if_neg v, if_neg v]; exact z6 y hy
                refine ⟨(inB_iff (by omega)).mpr (by omega), fun k1 => ⟨fun _ => ?_, fun k2 => absurd k1 k2⟩, fun k1 => ⟨ib, fun k2 => ⟨fun k3 => absurd k3 k1, fun _ => ⟨ib, put k1 (fun k => k.1 k2)⟩⟩, fun k2 => ⟨ib, fun k3 => ⟨fun k4 => absurd k4 k1, fun _ => ⟨ib, put k1 (fun k => k.2 k3)⟩⟩, fun k3 => ?_⟩⟩⟩
                · rw [if_pos k1] at eL
                  exact ih2 h6 ⟨⟨t6.trans t5, f6, s6, by omega⟩, f, z6, eL⟩
                · rw [if_neg k1, if_pos ⟨k2, k3⟩] at eL
                  rw [← lyA_none (n := n) (c := c) (by omega) eL]
                  exact K h6 (t6.trans t5) f6
            · have eqn : P.2.length = lastN nm 30 := by
                have : ¬ P.2.length < lastN nm 30 := fun u => lt (nI_lt u (by omega))
                omega
              rw [eqn]
              rw [eqn] at e5
              exact done f h5 (a + 1) (by omega) t5 g5 z5 e5 (by rw [← eqn]; exact pre.length_le)
          · rintro h5 ⟨⟨t5, g5, s5, l5⟩, f, z5, e5⟩
            have g60 : ∀ j, gI h5 60 j = gI h1 60 j := fun j => g5 60 j (by decide) (by decide) (by decide)
            rw [Pm_next] at s5 l5 e5 ⊢
            refine b_X11_lay_88 hL (e2T t5 eT) _ _ _ _ _ ?_
            rw [nI_add 975 k, nI_clamp (by omega), g60, hG.2.1, nI_add a 1]
            exact ⟨(inB_iff (by omega)).mpr (by omega), fun q => absurd q (nI_nlt (Nat.le_refl _) (by omega)), fun _ => ih h5 ⟨⟨t5, g5, s5, l5⟩, f, z5, e5⟩⟩
      · rintro h4 ⟨⟨t4, g4, s4, l4⟩, f, z4, e4⟩
        by_cases full : (Pm n (sg k) 60 0).2.length = lastN nm 30
        · rw [full]
          rw [full] at e4
          exact done f h4 60 (Nat.le_refl _) t4 g4 z4 e4 (by rw [← full, Pm_last]; exact Nat.le_refl _)
        · have lt : nI (Pm n (sg k) 60 0).2.length < nI (lastN nm 30) := nI_lt (by omega) (by omega)
          refine b_X11_lay_73 hL (e2T t4 eT) _ _ _ _ ⟨fun z => absurd z (by decide), fun _ => ⟨fun _ => ?_, fun z => absurd lt z⟩⟩
          rw [Pm_last] at l4 full
          rw [← lyA_few (n := n) (c := c) (nm := nm) (E := Em n (sg k)) (by omega)]
          exact K h4 t4 g4
end LayM
