section SimIv
variable {p : Program} {l : Launch} {e : Env} {R : Room} {s : State} {m : MethodId} {args : Array Value} {below : List Frame} {meth : Method} {c : Code} {Q : State → Prop} {D : va_G} {A : Nat → Prop} {b N0 : Nat} {xs : Nat → Int32} {aK aV : Nat → Nat} {y : Mth} {pc len : Nat} {i : Instr} {L S L' S' : List Value} {h h1 : Hp} {H : Heap} {locs : List Loc} {cells slots : Nat} {ls : Array Slot} {adr : Nat → Nat} {cA : Nat → ClassId}
theorem hp_sim (C : Cx p s m args meth c y) (hT : Tb D A b N0 xs aK aV s) (hd : decode y.2.2.2.1 pc = .ok (i, len)) (hl : ilen i = 0 ∨ len = ilen i) (ha : actHp y i L S h = some (.inl (L', S', h1))) (hRel : Rel D A b N0 xs aK s adr cA H locs h) (hVS : VK h S) (hc : cells + (nxt h1 - nxt h) ≤ R.cells) (hs : slots + (tot h1 - tot h) ≤ R.slots) :
    L' = L ∧ nxt h ≤ nxt h1 ∧ tot h ≤ tot h1 ∧ VK h1 S' ∧ ((∀ H1 locs1 adr1 cA1, Rel D A b N0 xs aK s adr1 cA1 H1 locs1 h1 → (∀ a, a < nxt h → adr1 a = adr a) → (∀ a, 1000000 ≤ a → adr1 a = adr a) → W p l e R s m args below meth c H1 locs1 (cells + (nxt h1 - nxt h)) (slots + (tot h1 - tot h)) Q (F0 m (pc + len) ls (S'.map (rv adr1)))) → W p l e R s m args below meth c H locs cells slots Q (F0 m pc ls (S.map (rv adr)))) := by
  have hR : HR h := hRel.2.2.2.2.2.2.2.2
  have c1 : ∀ {a : Value} {S : List Value}, VK h (a :: S) → VK h S := fun q => (List.forall_mem_cons.mp q).2
  have cc : ∀ {a : Value} {S : List Value}, vok h a → VK h S → VK h (a :: S) := fun q z => List.forall_mem_cons.mpr ⟨q, z⟩
  -- a step that makes nothing new
  have k0 : (∀ H1 locs1 adr1 cA1, Rel D A b N0 xs aK s adr1 cA1 H1 locs1 h1 → (∀ a, a < nxt h → adr1 a = adr a) → (∀ a, 1000000 ≤ a → adr1 a = adr a) → W p l e R s m args below meth c H1 locs1 (cells + (nxt h1 - nxt h)) (slots + (tot h1 - tot h)) Q (F0 m (pc + len) ls (S'.map (rv adr1)))) → nxt h1 = nxt h → tot h1 = tot h → ∀ H1 locs1, Rel D A b N0 xs aK s adr cA H1 locs1 h1 → W p l e R s m args below meth c H1 locs1 cells slots Q (F0 m (pc + len) ls (S'.map (rv adr))) := by
    intro k e1 e2 H1 locs1 hr
    have := k H1 locs1 adr cA hr (fun _ _ => rfl) (fun _ _ => rfl)
    rw [e1, e2, Nat.sub_self, Nat.sub_self] at this
    exact this
  -- a step that makes one cell
  have kn : ∀ (kd n : Nat) (S0 : List Value), nxt h < 900000 → h1 = newO h kd n → S' = .ref (nxt h) :: S0 → VK h S0 → ((∀ H1 locs1 adr1 cA1, Rel D A b N0 xs aK s adr1 cA1 H1 locs1 h1 → (∀ a, a < nxt h → adr1 a = adr a) → (∀ a, 1000000 ≤ a → adr1 a = adr a) → W p l e R s m args below meth c H1 locs1 (cells + (nxt h1 - nxt h)) (slots + (tot h1 - tot h)) Q (F0 m (pc + len) ls (S'.map (rv adr1)))) → ∀ H1 locs1 q cq, Rel D A b N0 xs aK s (va_up adr (nxt h) q) (va_up cA (nxt h) cq) H1 locs1 (newO h kd n) → W p l e R s m args below meth c H1 locs1 (cells + 1) (slots + n) Q (F0 m (pc + len) ls (.ref q :: S0.map (rv adr)))) ∧ nxt h ≤ nxt h1 ∧ tot h ≤ tot h1 ∧ VK h1 S' ∧ cells + 1 ≤ R.cells ∧ slots + n ≤ R.slots := by
    intro kd n S0 hlt e1 e2 hv
    subst e1
    subst e2
    rw [nxt_new] at hc
    rw [tot_new] at hs
    have ad : ∀ (q : Nat) a, a < nxt h → va_up adr (nxt h) q a = adr a := fun q a ha => by simp [va_up, Nat.ne_of_lt ha]
    have ad2 : ∀ (q : Nat) a, 1000000 ≤ a → va_up adr (nxt h) q a = adr a := fun q a ha => by simp [va_up, show ¬ a = nxt h by omega]
    refine ⟨fun k H1 locs1 q cq hr => ?_, by rw [nxt_new]; omega, by rw [tot_new]; omega, List.forall_mem_cons.mpr ⟨Or.inl (by rw [nxt_new]; exact Nat.lt_succ_self _), fun v hv' => vok_grow (h := h) (h1 := newO h kd n) (by rw [nxt_new]; exact Nat.le_succ _) (hv v hv')⟩, by omega, by omega⟩
    have := k H1 locs1 _ _ hr (ad q) (ad2 q)
    rw [nxt_new, tot_new, show nxt h + 1 - nxt h = 1 by omega, show tot h + n - tot h = n by omega, List.map_cons, rvs_ext hv (ad q) (ad2 q)] at this
    have e3 : rv (va_up adr (nxt h) q) (.ref (nxt h)) = .ref q := by simp [rv, va_up]
    rw [e3] at this
    exact this
  unfold actHp at ha
  split at ha
  · have hl := hl.resolve_left (Nat.succ_ne_zero _); subst hl
    split at ha
    · rename_i ci f hf
      split at ha
      · rename_i hk
        cases ha
        exact ⟨rfl, Nat.le_refl _, Nat.le_refl _, cc (vok_fval hR _ _ _) (c1 hVS), fun k => hp_get C hT hRel hd hf hk (k0 k rfl rfl H locs hRel)⟩
      · cases ha
    · cases ha
  · have hl := hl.resolve_left (Nat.succ_ne_zero _); subst hl
    split at ha
    · rename_i a0 S1 o1 ci f hf
      split at ha
      · rename_i hk
        have gJ0 : ∀ (k t : Nat) (x : Int32), k ≠ f → fval (sI h a0 f x) a0 t k = fval h a0 t k := by
          intro k t x hkf; simp [fval, gI, gJ, gR, sI, hkf]
        split at ha
        · rename_i x z1; cases ha
          have z1 : (fkind ci f).1 = 0 := z1
          exact ⟨rfl, Nat.le_refl _, Nat.le_refl _, c1 (c1 hVS), fun k => hp_put (h1 := sI h a0 f x) (v := .int x) C hT hRel hd hf hk.1 hk.2 (Or.inl ⟨z1, x, rfl⟩) rfl hR.1 (fun x hx => ⟨sI_row hx, rfl, rfl⟩) (fun k t hkf => gJ0 k t x hkf) (by simp [z1, fval, gI, sI]) (k0 k rfl rfl)⟩
        · split at ha
          · rename_i x z1 hx; cases ha
            have z1 : (fkind ci f).1 = 3 := z1
            exact ⟨rfl, Nat.le_refl _, Nat.le_refl _, c1 (c1 hVS), fun k => hp_put (h1 := sI h a0 f x) (v := .int x) C hT hRel hd hf hk.1 hk.2 (Or.inr (Or.inl ⟨z1, hx.elim (fun q => Or.inl (by rw [q])) (fun q => Or.inr (by rw [q]))⟩)) rfl hR.1 (fun x hx => ⟨sI_row hx, rfl, rfl⟩) (fun k t hkf => gJ0 k t x hkf) (by simp [z1, fval, gI, sI]) (k0 k rfl rfl)⟩
          · cases ha
        · rename_i x z1; cases ha
          have z1 : (fkind ci f).1 = 1 := z1
          exact ⟨rfl, Nat.le_refl _, Nat.le_refl _, c1 (c1 hVS), fun k => hp_put (h1 := sJ h a0 f x) (v := .long x) C hT hRel hd hf hk.1 hk.2 (Or.inr (Or.inr (Or.inl ⟨z1, x, rfl⟩))) rfl hR.1 (fun x hx => ⟨rfl, sJ_row hx, rfl⟩) (fun k t hkf => by simp [fval, gI, gJ, gR, sJ, hkf]) (by simp [z1, fval, gJ, sJ]) (k0 k rfl rfl)⟩
        · split at ha
          · rename_i x z1 hx0; cases ha
            have z1 : (fkind ci f).1 = 2 := z1
            exact ⟨rfl, Nat.le_refl _, Nat.le_refl _, c1 (c1 hVS), fun k => hp_put (h1 := sR h a0 f (some x)) (v := .ref x) C hT hRel hd hf hk.1 hk.2 (Or.inr (Or.inr (Or.inr ⟨z1, some x, rfl⟩))) rfl (fun q k z hz => by
              have hz2 : (if q = a0 ∧ k = f then some x else h.2.2.1 q k) = some z := hz
              split at hz2
              · cases hz2; exact hx0
              · exact hR.1 q k z hz2) (fun x hx => ⟨rfl, rfl, sR_row hx⟩) (fun k t hkf => by simp [fval, gI, gJ, gR, sR, hkf]) (by simp [z1, fval, gR, sR, vr]) (k0 k rfl rfl)⟩
          · cases ha
        · rename_i z1; cases ha
          have z1 : (fkind ci f).1 = 2 := z1
          exact ⟨rfl, Nat.le_refl _, Nat.le_refl _, c1 (c1 hVS), fun k => hp_put (h1 := sR h a0 f none) (v := .null) C hT hRel hd hf hk.1 hk.2 (Or.inr (Or.inr (Or.inr ⟨z1, none, rfl⟩))) rfl (fun q k z hz => by
            have hz2 : (if q = a0 ∧ k = f then none else h.2.2.1 q k) = some z := hz
            split at hz2
            · cases hz2
            · exact hR.1 q k z hz2) (fun x hx => ⟨rfl, rfl, sR_row hx⟩) (fun k t hkf => by simp [fval, gI, gJ, gR, sR, hkf]) (by simp [z1, fval, gR, sR, vr]) (k0 k rfl rfl)⟩
        · cases ha
      · cases ha
    · cases ha
  · have hl := hl.resolve_left (Nat.succ_ne_zero _); subst hl
    split at ha
    · rename_i hk
      cases ha
      exact ⟨rfl, Nat.le_refl _, Nat.le_refl _, cc trivial (c1 (c1 hVS)), fun k => hp_iald C hT hRel hd hk.1 hk.2 (k0 k rfl rfl H locs hRel)⟩
    · cases ha
  · have hl := hl.resolve_left (Nat.succ_ne_zero _); subst hl
    split at ha
    · rename_i hk
      cases ha
      exact ⟨rfl, Nat.le_refl _, Nat.le_refl _, cc trivial (c1 (c1 hVS)), fun k => hp_bald C hT hRel hd hk.1 hk.2 (k0 k rfl rfl H locs hRel)⟩
    · cases ha
  · have hl := hl.resolve_left (Nat.succ_ne_zero _); subst hl
    split at ha
    · rename_i hk
      cases ha
      exact ⟨rfl, Nat.le_refl _, Nat.le_refl _, cc (vok_vr hR _ _) (c1 (c1 hVS)), fun k => hp_aald C hT hRel hd hk.1 hk.2 (k0 k rfl rfl H locs hRel)⟩
    · cases ha
  · have hl := hl.resolve_left (Nat.succ_ne_zero _); subst hl
    split at ha
    · rename_i hk
      cases ha
      exact ⟨rfl, Nat.le_refl _, Nat.le_refl _, c1 (c1 (c1 hVS)), fun k => hp_iast C hT hRel hd hk.1 hk.2 (k0 k rfl rfl)⟩
    · cases ha
  · have hl := hl.resolve_left (Nat.succ_ne_zero _); subst hl
    split at ha
    · rename_i hk
      cases ha
      exact ⟨rfl, Nat.le_refl _, Nat.le_refl _, c1 (c1 (c1 hVS)), fun k => hp_bast C hT hRel hd hk.1 hk.2 (k0 k rfl rfl)⟩
    · cases ha
  · have hl := hl.resolve_left (Nat.succ_ne_zero _); subst hl
    split at ha
    · rename_i hk
      cases ha
      exact ⟨rfl, Nat.le_refl _, Nat.le_refl _, c1 (c1 (c1 hVS)), fun k => hp_aast C hT hRel hd hk.2 hk.1 (k0 k rfl rfl)⟩
    · cases ha
  · have hl := hl.resolve_left (Nat.succ_ne_zero _); subst hl
    split at ha
    · rename_i hk
      cases ha
      exact ⟨rfl, Nat.le_refl _, Nat.le_refl _, cc trivial (c1 hVS), fun k => hp_alen C hT hRel hd hk (k0 k rfl rfl H locs hRel)⟩
    · cases ha
  · have hl := hl.resolve_left (Nat.succ_ne_zero _); subst hl
    split at ha
    · rename_i hk
      cases ha
      obtain ⟨g1, g2, g3, g4, g5, g6⟩ := kn _ _ _ hk.2.2 rfl rfl (c1 hVS)
      exact ⟨rfl, g2, g3, g4, fun k => hp_newi C hT hRel hd hk.1 hk.2.1 hk.2.2 g5 g6 (g1 k)⟩
    · cases ha
  · have hl := hl.resolve_left (Nat.succ_ne_zero _); subst hl
    split at ha
    · rename_i hk
      cases ha
      obtain ⟨g1, g2, g3, g4, g5, g6⟩ := kn _ _ _ hk.2.2 rfl rfl (c1 hVS)
      exact ⟨rfl, g2, g3, g4, fun k => hp_newb C hT hRel hd hk.1 hk.2.1 hk.2.2 g5 g6 (g1 k)⟩
    · cases ha
  · have hl := hl.resolve_left (Nat.succ_ne_zero _); subst hl
    split at ha
    · rename_i kd hkd
      split at ha
      · rename_i hk
        cases ha
        obtain ⟨g1, g2, g3, g4, g5, g6⟩ := kn _ _ _ hk.2.2 rfl rfl (c1 hVS)
        exact ⟨rfl, g2, g3, g4, fun k => hp_newq C hT hRel hd hkd hk.1 hk.2.1 hk.2.2 g5 g6 (g1 k)⟩
      · cases ha
    · cases ha
  · have hl := hl.resolve_left (Nat.succ_ne_zero _); subst hl
    split at ha
    · rename_i ci hkd
      split at ha
      · rename_i hk
        cases ha
        obtain ⟨g1, g2, g3, g4, g5, g6⟩ := kn _ _ _ hk rfl rfl hVS
        exact ⟨rfl, g2, g3, g4, fun k => hp_new C hT hRel hd hkd hk g5 g6 (g1 k)⟩
      · cases ha
    · cases ha
  · cases ha
end SimIv
