section Lay7
variable {d : Nat} {T : HT} {h : Hp} {Q : Option Value → Hp → Prop} {n : Nat} {t l : List Nat}
theorem Fr.refl (h : Hp) : Fr h h := ⟨rfl, fun _ _ _ _ _ _ _ => rfl⟩
theorem Fr.of70 {h h' : Hp} (e : h'.2 = h.2) (g : ∀ x j, x ≠ 70 → gI h' x j = gI h x j) : Fr h h' := ⟨e, fun b j _ _ _ u _ => g b j u⟩
theorem BJ.start {p : Nat} : BJ t [(t, 0, p)] 0 := by
  have m : ∀ {e : List Nat × Nat × Nat} {i : Nat}, [(t, 0, p)][i]? = some e → e = (t, 0, p) := fun k => List.mem_singleton.mp (List.mem_of_getElem? k)
  refine ⟨fun i j e f _ he hf => by rw [m he, m hf]; exact Nat.le_refl _, fun i e hi => by omega, fun e he => ?_, ⟨_, List.mem_singleton.mpr rfl, rfl⟩, fun e he => ?_⟩
  · rw [m he]
    refine ⟨fun f hf => by rw [List.mem_singleton.mp hf]; exact Nat.zero_le _, fun l c lp k hc => ?_⟩
    have h1 := k.le
    have h2 : t.length ≤ 0 + c := hc
    have : c = t.length := by omega
    subst this
    rw [k.full lp.length_eq]
    exact ⟨_, List.mem_singleton.mpr rfl, rfl⟩
  · rw [List.mem_singleton.mp he]
    exact ⟨List.Perm.refl _, _, IsL.refl t, Nat.zero_add _⟩
theorem s_laysFar (hL : Lay T) (eT : h.2.2 = T) (hn : gI h 60 0 = nI n) (ht : t.length = n) (h7 : n ≤ 7) (dt : dg t) (hw : ∀ i, i < n → gI h 60 (920 + i) = nI (t.getD i 0)) (K : ∀ (h' : Hp) (E : List (List Nat × Nat × Nat)), Fr h h' → WT h' t E → (∀ l, l.Perm t → In1 E l) → Q none h') : Call (d + 2) MX11_laysFar [.ref 59] h Q := by
  refine b_X11_laysFar hL eT ?_
  rw [hn]
  have main : ∀ m x (h1 : Hp) (E : List (List Nat × Nat × Nat)), x + m = 5040 → Fr h h1 → WT h1 t E → BJ t E x → L_X11_laysFar_73 d (nI n) (nI x) h1 Q := by
    intro m
    induction m with
    | zero =>
      intro x h1 E hx fr w b
      have fw := w.few (by omega)
      refine b_X11_laysFar_73 hL (e2T fr.1 eT) _ _ ?_
      rw [w.1]
      exact ⟨fun z => absurd z (nI_nlt (by omega) (by omega)), fun _ => K h1 E fr w (b.fin (by omega))⟩
    | succ m ih =>
      intro x h1 E hx fr w b
      have fw := w.few (by omega)
      refine b_X11_laysFar_73 hL (e2T fr.1 eT) _ _ ?_
      rw [w.1]
      rcases Nat.lt_or_ge x E.length with z | z
      · refine ⟨fun _ => ⟨(inB_iff (by omega)).mpr (by omega), ?_⟩, fun q => absurd (nI_lt z (by omega)) q⟩
        have he : E[x]? = some E[x] := List.getElem?_eq_getElem z
        generalize E[x] = e at he
        have hm := List.mem_of_getElem? he
        obtain ⟨ep, ec, ek, es⟩ := b.2.2.2.2 e hm
        have el := ep.length_eq
        rw [nI_clamp (by omega), w.2.1 x e he]
        refine s_place (d := d + 1) hL (e2T fr.1 eT) w (by omega) dt (dg_perm dt ep) el (fun e' he' q => ⟨_, rfl, e2T fr.1 eT, ?_⟩) (fun p _ no _ _ => absurd rfl (no e hm))
        have we := w.2.2.1 e' he'
        obtain ⟨_, c', k', s'⟩ := b.2.2.2.2 e' he'
        rw [q] at k'
        have := k'.uniq ek
        have ed : e'.2.1 = e.2.1 := by omega
        rw [nI_clamp (by omega), we.2.2.2.1, ed]
        refine ⟨(inB_iff (by omega)).mpr we.2.1, ?_⟩
        refine upto n (fun a h2 => ∃ E', Fr h h2 ∧ WT h2 t E' ∧ BJ t E' x ∧ E'[x]? = some e ∧ ∀ a' b', a' < a → b' < n → a' ≠ b' → In1 E' (liftL e.1 a' b')) (fun a h2 => L_X11_laysFar_101 d (nI n) (nI x) (nI e.2.1) (nI a) h2 Q) ?_ ?_ 0 h1 (Nat.zero_le _) ⟨E, fr, w, b, he, fun a' b' u => by omega⟩
        · rintro a h2 ha ⟨E', fr, w, b, he, al⟩ ih1
          refine b_X11_laysFar_101 hL (e2T fr.1 eT) _ _ _ _ ⟨fun _ => ?_, fun q => absurd (nI_lt ha (by omega)) q⟩
          refine upto n (fun c h2 => ∃ E', Fr h h2 ∧ WT h2 t E' ∧ BJ t E' x ∧ E'[x]? = some e ∧ (∀ a' b', a' < a → b' < n → a' ≠ b' → In1 E' (liftL e.1 a' b')) ∧ ∀ b', b' < c → a ≠ b' → In1 E' (liftL e.1 a b')) (fun c h2 => L_X11_laysFar_110 d (nI n) (nI x) (nI e.2.1) (nI a) (nI c) h2 Q) ?_ ?_ 0 h2 (Nat.zero_le _) ⟨E', fr, w, b, he, al, fun b' u => by omega⟩
          · rintro c h2 hc ⟨E', fr, w, b, he, al, al2⟩ ih2
            refine b_X11_laysFar_110 hL (e2T fr.1 eT) _ _ _ _ _ ⟨fun _ => ⟨fun q => ?_, fun q => ⟨(inB_iff (by omega)).mpr (by omega), ?_⟩⟩, fun q => absurd (nI_lt hc (by omega)) q⟩
            · have q' := nI_inj (by omega) (by omega) q
              rw [nI_add]
              exact ih2 _ ⟨E', fr, w, b, he, al, fun b' u v => al2 b' (by omega) v⟩
            · have ac : a ≠ c := fun z => q (by rw [z])
              rw [nI_clamp (by omega), w.2.1 x e he, nI_add, nI_add]
              refine s_liftedOf (d := d + 1) hL (e2T fr.1 eT) (by rw [fr.2 _ _ (by decide) (by decide) (by decide) (by decide) (by decide)]; exact hn) (by omega) h7 (dg_perm dt ep) ha hc (fun h3 e3 g3 => ⟨_, rfl, e2T (e3.trans fr.1) eT, ?_⟩)
              have w3 := w.fr70 g3
              have fr3 := fr.trans (Fr.of70 e3 g3)
              refine s_comes (d := d) hL (e2T fr3.1 eT) w3 (by omega) dt ((lift_perm (by omega) (by omega)).trans ep) (ds := e.2.1 + 1) (fun no => b.new he (by omega) (by omega) (fun ⟨f, hf, q⟩ => no f hf q)) (fun k => ⟨rfl, e2T fr3.1 eT, ?_⟩) (fun h4 p fr4 no w4 => ⟨rfl, e2T (fr3.trans fr4).1 eT, ?_⟩)
              · refine ih2 _ ⟨E', fr3, w3, b, he, al, fun b' u v => ?_⟩
                by_cases z : b' = c
                · rw [z]; exact k
                · exact al2 b' (by omega) v
              · have nn : ¬ In1 E' (liftL e.1 a c) := fun ⟨f, hf, q⟩ => no f hf q
                refine ih2 _ ⟨_, fr3.trans fr4, w4, b.snoc he ((lift_perm (by omega) (by omega)).trans ep) (b.new he (by omega) (by omega) nn), ?_, fun a' b' u v y => (al a' b' u v y).snoc, fun b' u v => ?_⟩
                · obtain ⟨z, _⟩ := List.getElem?_eq_some_iff.mp he
                  rw [List.getElem?_append_left z]; exact he
                · by_cases z : b' = c
                  · rw [z]; exact ⟨_, List.mem_append.mpr (Or.inr (List.mem_singleton.mpr rfl)), rfl⟩
                  · exact (al2 b' (by omega) v).snoc
          · rintro h2 ⟨E', fr, w, b, he, al, al2⟩
            refine b_X11_laysFar_110 hL (e2T fr.1 eT) _ _ _ _ _ ⟨fun q => absurd q (nI_nlt (Nat.le_refl _) (by omega)), fun _ => ?_⟩
            rw [nI_add]
            refine ih1 _ ⟨E', fr, w, b, he, fun a' b' u v y => ?_⟩
            by_cases z : a' = a
            · rw [z]; exact al2 b' v (by omega)
            · exact al a' b' (by omega) v y
        · rintro h2 ⟨E', fr, w, b, he, al⟩
          refine b_X11_laysFar_101 hL (e2T fr.1 eT) _ _ _ _ ⟨fun q => absurd q (nI_nlt (Nat.le_refl _) (by omega)), fun _ => ?_⟩
          rw [nI_add]
          exact ih (x + 1) h2 E' (by omega) fr w (b.next he (fun a c u v y => al a c (by omega) (by omega) y))
      · exact ⟨fun q => absurd q (nI_nlt z (by omega)), fun _ => K h1 E fr w (b.fin z)⟩
  refine upto 16384 (fun i h1 => Fr h h1 ∧ ∀ p, p < i → gI h1 67 p = -1) (fun i h1 => L_X11_laysFar_9 d (nI n) (nI i) h1 Q) ?_ ?_ 0 h (Nat.zero_le _) ⟨Fr.refl h, fun p hp => by omega⟩
  · rintro i h1 hi ⟨fr, hc⟩ ih
    refine b_X11_laysFar_9 hL (e2T fr.1 eT) _ _ ⟨fun _ => ⟨(inB_iff (by omega)).mpr hi, ?_⟩, fun q => absurd (nI_lt hi (by decide)) q⟩
    rw [nI_clamp (by omega), nI_add]
    refine ih _ ⟨⟨fr.1, fun b j u v w x y => by rw [gI_sI_ne u]; exact fr.2 b j u v w x y⟩, fun p hp => ?_⟩
    rw [gI_sI_at]
    by_cases z : p = i
    · rw [if_pos z]
    · rw [if_neg z]; exact hc p (by omega)
  · rintro h1 ⟨fr, hc⟩
    refine b_X11_laysFar_9 hL (e2T fr.1 eT) _ _ ⟨fun q => absurd q (nI_nlt (Nat.le_refl _) (by decide)), fun _ => ?_⟩
    have fr2 : Fr h (sI h1 59 23 (nI 0)) := ⟨fr.1, fun b j u v w x y => by rw [gI_sI, if_neg (fun z => y z.1 z.2)]; exact fr.2 b j u v w x y⟩
    have w2 : WT (sI h1 59 23 (nI 0)) t [] := ⟨by rw [gI_sI_at, if_pos rfl]; rfl, fun i e he => by simp at he, fun e he => absurd he List.not_mem_nil, fun p hp hn => absurd (by rw [gI_sI_ne (by decide)]; exact hc p hp) hn, List.nodup_nil⟩
    generalize sI h1 59 23 (nI 0) = h2 at fr2 w2 ⊢
    have g60 : ∀ j, gI h2 60 j = gI h 60 j := fun j => fr2.2 _ _ (by decide) (by decide) (by decide) (by decide) (by omega)
    refine upto n (fun i h3 => h3 = h2) (fun i h3 => L_X11_laysFar_38 d (nI n) (nI (pc (fun i => t.getD i 0) i)) (nI i) h3 Q) ?_ ?_ 0 h2 (Nat.zero_le _) rfl
    · rintro i h3 hi rfl ih
      refine b_X11_laysFar_38 hL (e2T fr2.1 eT) _ _ _ ⟨fun _ => ?_, fun q => absurd (nI_lt hi (by omega)) q⟩
      rw [nI_add 920 i, nI_clamp (by omega), g60, hw i hi, pk_mul, nI_add, nI_add]
      exact ⟨(inB_iff (by omega)).mpr (by omega), ih _ rfl⟩
    · rintro h3 rfl
      refine b_X11_laysFar_38 hL (e2T fr2.1 eT) _ _ _ ⟨fun q => absurd q (nI_nlt (Nat.le_refl _) (by omega)), fun _ => ?_⟩
      rw [show pc (fun i => t.getD i 0) n = cd t by unfold cd; rw [ht]]
      refine s_comes (d := d) hL (e2T fr2.1 eT) w2 (by omega) dt (List.Perm.refl t) (ds := 0) (fun _ => ⟨_, IsL.refl t, Nat.zero_add _⟩) (fun ⟨e, he, _⟩ => absurd he List.not_mem_nil) (fun h4 p fr4 no w4 => ⟨rfl, e2T (fr2.trans fr4).1 eT, ?_⟩)
      exact main 5040 0 h4 _ (by omega) (fr2.trans fr4) w4 BJ.start
end Lay7
