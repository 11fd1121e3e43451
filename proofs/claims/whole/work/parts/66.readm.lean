-- the model reads a text
def FRs (h : Hp) (c : Mk) : Prop := ∀ x, x < c.2.length → gI h 63 (4 * x) = nI (gM c.2 x).1 ∧ gI h 63 (4 * x + 1) = nI (gM c.2 x).2.1 ∧ gI h 63 (4 * x + 2) = nI (gM c.2 x).2.2.1 ∧ gI h 63 (4 * x + 3) = nI (gM c.2 x).2.2.2 - nI 1
def Mb (h0 h : Hp) : Prop := h.2 = h0.2 ∧ ∀ b j, b ≠ 63 → (b = 59 → ¬ (7 ≤ j ∧ j ≤ 14 ∧ j ≠ 8)) → gI h b j = gI h0 b j
def Ms (tp : Nat → Nat) (n : Nat) (h0 h : Hp) (i : Nat) (c : Mk) : Prop := Mb h0 h ∧ gI h 59 9 = nI (ps tp n (i + 1)) ∧ gI h 59 10 = nI (mkT (tK tp n i)) ∧ gI h 59 11 = nI (tS tp n i) ∧ (tK tp n i = 2 → gI h 59 12 = nI (tN tp n i)) ∧ gI h 59 7 = nI c.1 ∧ FRs h c
def Mf (tp : Nat → Nat) (n : Nat) (h0 h : Hp) (k j : Nat) : Prop := Mb h0 h ∧ gI h 59 13 = nI k ∧ gI h 59 14 = nI (tS tp n j)
theorem mkT_inj : ∀ a : Fin 12, ∀ b : Fin 12, mkT a.val = mkT b.val → a.val = b.val := by decide +kernel
theorem mkT_eq {a b : Nat} (ha : a ≤ 11) (hb : b ≤ 11) : (nI (mkT a) = nI (mkT b)) ↔ a = b := by
  have l : ∀ x : Fin 12, mkT x.val < 200 := by decide +kernel
  have l1 := l ⟨a, by omega⟩
  have l2 := l ⟨b, by omega⟩
  dsimp only at l1 l2
  refine ⟨fun e => ?_, fun e => by rw [e]⟩
  have e : mkT a = mkT b := nI_inj (by omega) (by omega) e
  exact mkT_inj ⟨a, by omega⟩ ⟨b, by omega⟩ e
section ReadM
variable {d : Nat} {T : HT} {h h0 : Hp} {Q : Option Value → Hp → Prop} {tp : Nat → Nat} {n iE m i : Nat} {c : Mk}
theorem Ms.eT (r : Ms tp n h0 h i c) (e : h0.2.2 = T) : h.2.2 = T := by rw [r.1.1]; exact e
theorem Mf.eT {k j : Nat} (r : Mf tp n h0 h k j) (e : h0.2.2 = T) : h.2.2 = T := by rw [r.1.1]; exact e
theorem Ms.tm (r : Ms tp n h0 h i c) (t : TM h0 tp n) : TM h tp n := t.tr (r.1.2 _ _ (by decide) (by omega)) (fun j => r.1.2 _ _ (by decide) (by omega))
theorem Ms.n0 (r : Ms tp n h0 h i c) : gI h 60 0 = gI h0 60 0 := r.1.2 _ _ (by decide) (by omega)
theorem kR_2 {f e : Nat} (q : kR tp f e = 2) : isDn (tp f) = true := by
  unfold kR kW at q
  by_cases z : isLn (tp f) = true
  · rw [if_pos z] at q
    repeat' split at q
    all_goals omega
  · rw [if_neg z] at q
    by_cases y : isDn (tp f) = true
    · exact y
    · rw [if_neg y] at q
      repeat' split at q
      all_goals omega
theorem s_nextM (hL : Lay T) (e0 : h0.2.2 = T) (t : TM h0 tp n) (r : Ms tp n h0 h i c) (K : ∀ h', Ms tp n h0 h' (i + 1) c → Q none h') : Call (d + 2) MX11_next0 [.ref 59] h Q := by
  obtain ⟨⟨f1, f2⟩, r2, r3, r4, r5, r6, r7⟩ := id r
  refine s_next0 (d := d) hL (r.eT e0) (r.tm t) (ps_b (i + 1)) r2 (fun h' t1 g a9 a11 a10 a12 => K h' ⟨⟨t1.trans f1, fun b j u w => by rw [g b j (by omega)]; exact f2 b j u w⟩, a9, a10, a11, fun q => ?_, by rw [g _ _ (by omega)]; exact r6, fun x hx => by rw [g _ _ (by omega), g _ _ (by omega), g _ _ (by omega), g _ _ (by omega)]; exact r7 x hx⟩)
  have z : tS tp n (i + 1) < n := by
    rcases Nat.lt_or_ge (tS tp n (i + 1)) n with w | w
    · exact w
    · have := (tS_b (tp := tp) (n := n) (i + 1)).2
      have := tK_0.mpr (show tS tp n (i + 1) = n by omega)
      omega
  have kq : kR tp (tS tp n (i + 1)) (eR tp n (tS tp n (i + 1))) = 2 := by
    unfold tK at q
    rw [if_pos z] at q
    exact q
  rw [a12 z (kR_2 kq)]
  unfold tN
  rw [if_pos z]
  rfl
theorem bad_mf {k : Nat} (r : Ms tp n h0 h i c) : Mf tp n h0 (w_X11_bad (nI k) h) k i := by
  obtain ⟨⟨f1, f2⟩, r2, r3, r4, r5, r6, r7⟩ := r
  unfold w_X11_bad
  rw [gI_sI_at, if_neg (by decide), r4]
  exact ⟨⟨f1, fun b j u w => by rw [gI_sI, if_neg (by omega), gI_sI, if_neg (by omega)]; exact f2 b j u w⟩, by rw [gI_sI_at, if_neg (by decide), gI_sI_at, if_pos rfl], rfl⟩
theorem s_needM (hL : Lay T) (e0 : h0.2.2 = T) (t : TM h0 tp n) (r : Ms tp n h0 h i c) {due : Nat} (hd : due ≤ 11) {x : Int32} (hx : x = nI (mkT due))
    (Kt : ∀ h', tK tp n i = due → Ms tp n h0 h' (i + 1) c → Q (some (.int (b2i true))) h')
    (Kf : ∀ h', tK tp n i ≠ due → Mf tp n h0 h' 1 i → Q (some (.int (b2i false))) h') : Call (d + 3) MX11_need [.ref 59, .int x] h Q := by
  subst hx
  refine b_X11_need hL (r.eT e0) _ ?_
  rw [r.2.2.1, mkT_eq (tK_le i) hd]
  exact ⟨fun z => s_nextM (d := d) hL e0 t r (fun h' r' => ⟨rfl, r'.eT e0, Kt h' z r'⟩), fun z => Kf _ z (bad_mf r)⟩
theorem s_numM (hL : Lay T) (e0 : h0.2.2 = T) (t : TM h0 tp n) (r : Ms tp n h0 h i c) {lo hh : Nat} (h1 : lo ≤ 100) (h2 : hh ≤ 100)
    (Kt : ∀ h' a, rdNum (tK tp n) (tN tp n) i lo hh = .inr a → Ms tp n h0 h' (i + 1) c → Q (some (.int (b2i true))) h')
    (Kf : ∀ h' e, rdNum (tK tp n) (tN tp n) i lo hh = .inl e → Mf tp n h0 h' e.1 e.2 → Q (some (.int (b2i false))) h') : Call (d + 3) MX11_number [.ref 59, .int (nI lo), .int (nI hh)] h Q := by
  have nl := tN_le t.2.2.1 i
  unfold rdNum at Kt Kf
  refine b_X11_number hL (r.eT e0) _ _ ?_
  rw [r.2.2.1, show nI 2 = nI (mkT 2) from rfl, mkT_eq (tK_le i) (by decide)]
  refine ⟨fun z => ?_, fun z => Kf _ (1, i) (by rw [if_neg z]) (bad_mf r)⟩
  rw [if_pos z] at Kt Kf
  rw [r.2.2.2.2.1 z]
  have k := isIn_nat (v := tN tp n i) (a := lo) (b := hh) (by omega) (by omega) (by omega)
  refine ⟨fun w => ?_, fun w => Kf _ (2, i) (by rw [if_neg (fun y => w (k.mpr y))]) (bad_mf r)⟩
  exact s_nextM (d := d) hL e0 t r (fun h' r' => ⟨rfl, r'.eT e0, Kt h' (tN tp n i) (by rw [if_pos (k.mp w)]) r'⟩)
theorem puts_eq {l : Nat} (hl : l < 2 ^ 30) (h7 : gI h 59 7 = nI l) (a b c e : Int32) : p_X11_puts a b c e h ∧ w_X11_puts a b c e h = if l < 200 then sI (sI (sI (sI (sI h 63 (4 * l) a) 63 (4 * l + 1) b) 63 (4 * l + 2) c) 63 (4 * l + 3) e) 59 7 (nI (l + 1)) else sI h 59 7 (nI (l + 1)) := by
  have e1 : ∀ x, gI (sI h 63 x a) 59 7 = nI l := fun x => by rw [gI_sI_ne (by decide)]; exact h7
  have e2 : ∀ x y, gI (sI (sI h 63 x a) 63 y b) 59 7 = nI l := fun x y => by rw [gI_sI_ne (by decide)]; exact e1 x
  have e3 : ∀ x y z, gI (sI (sI (sI h 63 x a) 63 y b) 63 z c) 59 7 = nI l := fun x y z => by rw [gI_sI_ne (by decide)]; exact e2 x y
  have e4 : ∀ x y z w, gI (sI (sI (sI (sI h 63 x a) 63 y b) 63 z c) 63 w e) 59 7 = nI l := fun x y z w => by rw [gI_sI_ne (by decide)]; exact e3 x y z
  unfold p_X11_puts w_X11_puts
  rw [e4, e3, e2, e1, h7, pk_mul, nI_add, nI_add, nI_add, nI_add]
  by_cases q : l < 200
  · have q' : nI l < nI 200 := nI_lt q (by decide)
    rw [if_pos q', if_pos q, nI_clamp (by omega), nI_clamp (by omega), nI_clamp (by omega), nI_clamp (by omega)]
    exact ⟨⟨fun _ => ⟨(inB_iff (by omega)).mpr (by omega), (inB_iff (by omega)).mpr (by omega), (inB_iff (by omega)).mpr (by omega), (inB_iff (by omega)).mpr (by omega), trivial⟩, fun _ => trivial⟩, rfl⟩
  · have q' : ¬ nI l < nI 200 := nI_nlt (by omega) (by omega)
    rw [if_neg q', if_neg q]
    exact ⟨⟨fun w => absurd w q', fun _ => trivial⟩, rfl⟩
theorem puts_ms {q : Mv} {x4 : Int32} (hx : x4 = nI q.2.2.2 - nI 1) (r : Ms tp n h0 h i c) (v : c.2.length = min c.1 200) (hc : c.1 < 2 ^ 30) : p_X11_puts (nI q.1) (nI q.2.1) (nI q.2.2.1) x4 h ∧ Ms tp n h0 (w_X11_puts (nI q.1) (nI q.2.1) (nI q.2.2.1) x4 h) i (psh1 c q) := by
  obtain ⟨⟨f1, f2⟩, r2, r3, r4, r5, r6, r7⟩ := id r
  obtain ⟨p1, p2⟩ := puts_eq (h := h) hc r6 (nI q.1) (nI q.2.1) (nI q.2.2.1) x4
  refine ⟨p1, ?_⟩
  rw [p2]
  unfold psh1
  by_cases z : c.1 < 200
  · have el : c.2.length = c.1 := by omega
    rw [if_pos z, if_pos (show c.2.length < 200 by omega)]
    have g : ∀ b j, b ≠ 63 → (b = 59 → j ≠ 7) → gI (sI (sI (sI (sI (sI h 63 (4 * c.1) (nI q.1)) 63 (4 * c.1 + 1) (nI q.2.1)) 63 (4 * c.1 + 2) (nI q.2.2.1)) 63 (4 * c.1 + 3) x4) 59 7 (nI (c.1 + 1))) b j = gI h b j := fun b j u w => by rw [gI_sI, if_neg (fun k => w k.1 k.2), gI_sI_ne u, gI_sI_ne u, gI_sI_ne u, gI_sI_ne u]
    refine ⟨⟨f1, fun b j u w => by rw [g b j u (by omega)]; exact f2 b j u w⟩, by rw [g _ _ (by decide) (by decide)]; exact r2, by rw [g _ _ (by decide) (by decide)]; exact r3, by rw [g _ _ (by decide) (by decide)]; exact r4, fun k => by rw [g _ _ (by decide) (by decide)]; exact r5 k, rfl, fun x hx' => ?_⟩
    have hx' : x < (c.2 ++ [q]).length := hx'
    rw [List.length_append, List.length_singleton] at hx'
    show _ = nI (gM (c.2 ++ [q]) x).1 ∧ _ = nI (gM (c.2 ++ [q]) x).2.1 ∧ _ = nI (gM (c.2 ++ [q]) x).2.2.1 ∧ _ = nI (gM (c.2 ++ [q]) x).2.2.2 - nI 1
    rw [gM_app]
    by_cases w : x = c.2.length
    · rw [if_neg (by omega), if_pos w]
      refine ⟨?_, ?_, ?_, ?_⟩
      · rw [gI_sI_ne (by decide), gI_sI_at, if_neg (by omega), gI_sI_at, if_neg (by omega), gI_sI_at, if_neg (by omega), gI_sI_at, if_pos (by omega)]
      · rw [gI_sI_ne (by decide), gI_sI_at, if_neg (by omega), gI_sI_at, if_neg (by omega), gI_sI_at, if_pos (by omega)]
      · rw [gI_sI_ne (by decide), gI_sI_at, if_neg (by omega), gI_sI_at, if_pos (by omega)]
      · rw [gI_sI_ne (by decide), gI_sI_at, if_pos (by omega), hx]
    · rw [if_pos (by omega)]
      have g63 : ∀ j, j < 4 * c.1 → gI (sI (sI (sI (sI (sI h 63 (4 * c.1) (nI q.1)) 63 (4 * c.1 + 1) (nI q.2.1)) 63 (4 * c.1 + 2) (nI q.2.2.1)) 63 (4 * c.1 + 3) x4) 59 7 (nI (c.1 + 1))) 63 j = gI h 63 j := fun j hj => by rw [gI_sI_ne (by decide), gI_sI_at, if_neg (by omega), gI_sI_at, if_neg (by omega), gI_sI_at, if_neg (by omega), gI_sI_at, if_neg (by omega)]
      rw [g63 _ (by omega), g63 _ (by omega), g63 _ (by omega), g63 _ (by omega)]
      exact r7 x (by omega)
  · rw [if_neg z, if_neg (show ¬ c.2.length < 200 by omega)]
    have g : ∀ b j, (b = 59 → j ≠ 7) → gI (sI h 59 7 (nI (c.1 + 1))) b j = gI h b j := fun b j w => by rw [gI_sI, if_neg (fun k => w k.1 k.2)]
    exact ⟨⟨f1, fun b j u w => by rw [g b j (by omega)]; exact f2 b j u w⟩, by rw [g _ _ (by decide)]; exact r2, by rw [g _ _ (by decide)]; exact r3, by rw [g _ _ (by decide)]; exact r4, fun k => by rw [g _ _ (by decide)]; exact r5 k, rfl, fun x hx' => by rw [g _ _ (by omega), g _ _ (by omega), g _ _ (by omega), g _ _ (by omega)]; exact r7 x hx'⟩
theorem s_aMove (hL : Lay T) (e0 : h0.2.2 = T) (t : TM h0 tp n) (hm : gI h0 60 0 = nI m) (m1 : 0 < m) (m16 : m ≤ 16) (r : Ms tp n h0 h i c) (v : c.2.length = min c.1 200) (hc : c.1 < 2 ^ 30) {kd : Nat} (hk : kd < 2)
    (Kt : ∀ h' q, rdMv (tK tp n) (tN tp n) m kd i = .inr q → Ms tp n h0 h' q.2 (psh1 c q.1) → Q (some (.int (b2i true))) h')
    (Kf : ∀ h' e, rdMv (tK tp n) (tN tp n) m kd i = .inl e → Mf tp n h0 h' e.1 e.2 → Q (some (.int (b2i false))) h') : Call (d + 4) MX11_aMove [.ref 59, .int (nI kd)] h Q := by
  -- the semicolon
  have fin : ∀ (a b j x : Nat) (x4 : Int32) (h' : Hp), x4 = nI x - nI 1 → Ms tp n h0 h' j c → (∀ h', tK tp n j = 3 → Ms tp n h0 h' (j + 1) (psh1 c (kd, a, b, x)) → Q (some (.int (b2i true))) h') → (∀ h', tK tp n j ≠ 3 → Mf tp n h0 h' 1 j → Q (some (.int (b2i false))) h') → L_X11_aMove_97 d (nI kd) (nI a) (nI b) x4 h' Q := by
    intro a b j x x4 h' hx r' kt kf
    refine b_X11_aMove_97 hL (r'.eT e0) _ _ _ _ ?_
    refine s_needM (d := d) hL e0 t r' (due := 3) (by decide) rfl (fun h2 q r2 => ⟨_, rfl, r2.eT e0, fun _ => ?_, fun w => absurd rfl w⟩) (fun h2 q f2 => ⟨_, rfl, f2.eT e0, fun w => absurd w (by decide), fun _ => kf h2 q f2⟩)
    obtain ⟨p1, m1'⟩ := puts_ms (q := (kd, a, b, x)) hx r2 v hc
    exact ⟨p1, kt _ q m1'⟩
  -- the second number, and what is asked
  have snd : ∀ (a j : Nat) (h' : Hp), Ms tp n h0 h' j c → (∀ h' q, rdSnd (tK tp n) (tN tp n) m kd a j = .inr q → Ms tp n h0 h' q.2 (psh1 c q.1) → Q (some (.int (b2i true))) h') → (∀ h' e, rdSnd (tK tp n) (tN tp n) m kd a j = .inl e → Mf tp n h0 h' e.1 e.2 → Q (some (.int (b2i false))) h') → L_X11_aMove_41 d (nI kd) (nI a) h' Q := by
    intro a j h' r' kt kf
    unfold rdSnd at kt kf
    refine b_X11_aMove_41 hL (r'.eT e0) _ _ ?_
    rw [r'.n0, hm, pk_sub (by omega)]
    refine s_numM (d := d) hL e0 t r' (lo := 0) (hh := m - 1) (by decide) (by omega) (fun h2 b hb r2 => ⟨_, rfl, r2.eT e0, fun _ => ?_, fun w => absurd rfl w⟩) (fun h2 e he f2 => ⟨_, rfl, f2.eT e0, fun w => absurd w (by decide), fun _ => kf h2 e (by rw [he]) f2⟩)
    obtain ⟨y1, y2, y3, y4⟩ := rdNum_ok hb
    rw [hb] at kt kf
    dsimp only at kt kf
    unfold rdAsk at kt kf
    rw [r'.2.2.2.2.1 y1, ← y2, r2.2.2.1, show nI 5 = nI (mkT 8) from rfl, mkT_eq (tK_le _) (by decide)]
    refine ⟨fun z => ?_, fun z => ?_⟩
    · rw [if_pos z] at kt kf
      refine s_nextM (d := d + 1) hL e0 t r2 (fun h3 r3 => ⟨rfl, r3.eT e0, ?_⟩)
      refine s_numM (d := d) hL e0 t r3 (lo := 0) (hh := 9) (by decide) (by decide) (fun h5 x hx r5 => ⟨_, rfl, r5.eT e0, fun _ => ?_, fun w => absurd rfl w⟩) (fun h5 e he f5 => ⟨_, rfl, f5.eT e0, fun w => absurd w (by decide), fun _ => kf h5 e (by rw [he]) f5⟩)
      obtain ⟨w1, w2, w3, w4⟩ := rdNum_ok hx
      rw [hx] at kt kf
      dsimp only at kt kf
      rw [r3.2.2.2.2.1 w1, ← w2]
      exact fin a b (j + 1 + 1 + 1) (x + 1) _ h5 (by rw [pk_sub (by omega), Nat.add_sub_cancel]) r5 (fun h6 q r6 => kt h6 ((kd, a, b, x + 1), j + 1 + 3) (by rw [if_pos q]) r6) (fun h6 q f6 => kf h6 (1, j + 1 + 2) (by rw [if_neg q]) f6)
    · rw [if_neg z] at kt kf
      exact fin a b (j + 1) 0 _ h2 (by decide) r2 (fun h6 q r6 => kt h6 ((kd, a, b, 0), j + 1 + 1) (by rw [if_pos q]) r6) (fun h6 q f6 => kf h6 (1, j + 1) (by rw [if_neg q]) f6)
  unfold rdMv at Kt Kf
  refine b_X11_aMove hL (r.eT e0) _ ?_
  refine s_nextM (d := d + 1) hL e0 t r (fun h1 r1 => ⟨rfl, r1.eT e0, ?_⟩)
  rw [r1.n0, hm, pk_sub (by omega)]
  refine s_numM (d := d) hL e0 t r1 (lo := 0) (hh := m - 1) (by decide) (by omega) (fun h2 a ha r2 => ⟨_, rfl, r2.eT e0, fun _ => ?_, fun w => absurd rfl w⟩) (fun h2 e he f2 => ⟨_, rfl, f2.eT e0, fun w => absurd w (by decide), fun _ => Kf h2 e (by rw [he]) f2⟩)
  obtain ⟨y1, y2, y3, y4⟩ := rdNum_ok ha
  rw [ha] at Kt Kf
  dsimp only at Kt Kf
  rw [r1.2.2.2.2.1 y1, ← y2]
  refine ⟨fun z => ?_, fun z => ?_⟩
  · have z : kd = 0 := (nI_eq0 (by omega)).mp z
    rw [if_pos z] at Kt Kf
    refine s_needM (d := d) hL e0 t r2 (due := 7) (by decide) rfl (fun h3 q r3 => ⟨_, rfl, r3.eT e0, fun _ => ?_, fun w => absurd rfl w⟩) (fun h3 q f3 => ⟨_, rfl, f3.eT e0, fun w => absurd w (by decide), fun _ => Kf h3 (1, i + 2) (by rw [if_neg q]) f3⟩)
    rw [if_pos q] at Kt Kf
    exact snd a (i + 3) h3 r3 Kt Kf
  · have z : kd ≠ 0 := fun e => z (by rw [e]; rfl)
    rw [if_neg z] at Kt Kf
    exact snd a (i + 2) h2 r2 Kt Kf
theorem s_aTurn (hL : Lay T) (e0 : h0.2.2 = T) (t : TM h0 tp n) (r : Ms tp n h0 h i c) (v : c.2.length = min c.1 200) (hc : c.1 < 2 ^ 30)
    (Kt : ∀ h' q, rdTn (tK tp n) (tN tp n) i = .inr q → Ms tp n h0 h' q.2 (psh1 c q.1) → Q (some (.int (b2i true))) h')
    (Kf : ∀ h' e, rdTn (tK tp n) (tN tp n) i = .inl e → Mf tp n h0 h' e.1 e.2 → Q (some (.int (b2i false))) h') : Call (d + 4) MX11_aTurn [.ref 59] h Q := by
  unfold rdTn at Kt Kf
  refine b_X11_aTurn hL (r.eT e0) ?_
  refine s_nextM (d := d + 1) hL e0 t r (fun h1 r1 => ⟨rfl, r1.eT e0, ?_⟩)
  refine s_numM (d := d) hL e0 t r1 (lo := 0) (hh := 15) (by decide) (by decide) (fun h2 a ha r2 => ⟨_, rfl, r2.eT e0, fun _ => ?_, fun w => absurd rfl w⟩) (fun h2 e he f2 => ⟨_, rfl, f2.eT e0, fun w => absurd w (by decide), fun _ => Kf h2 e (by rw [he]) f2⟩)
  obtain ⟨y1, y2, y3, y4⟩ := rdNum_ok ha
  rw [ha] at Kt Kf
  dsimp only at Kt Kf
  rw [r1.2.2.2.2.1 y1, ← y2]
  refine s_needM (d := d) hL e0 t r2 (due := 3) (by decide) rfl (fun h3 q r3 => ⟨_, rfl, r3.eT e0, fun _ => ?_, fun w => absurd rfl w⟩) (fun h3 q f3 => ⟨_, rfl, f3.eT e0, fun w => absurd w (by decide), fun _ => Kf h3 (1, i + 2) (by rw [if_neg q]) f3⟩)
  rw [if_pos q] at Kt
  obtain ⟨p1, m1'⟩ := puts_ms (q := (2, a, 0, 0)) (x4 := -1) (show (-1 : Int32) = nI 0 - nI 1 by decide) r3 v hc
  exact ⟨p1, Kt _ ((2, a, 0, 0), i + 3) rfl m1'⟩
/-- repeats written out -/
theorem s_times80 (hL : Lay T) (e0 : h0.2.2 = T) (r : Ms tp n h0 h i c) (v : c.2.length = min c.1 200) {fr rr : Nat} (hf : fr ≤ c.1) (h1 : 1 ≤ rr) (h9 : rr ≤ 9) (hc : c.1 * 9 < 2 ^ 30)
    (K : ∀ h', Ms tp n h0 h' i (cls1 c fr rr) → Q (some (.int (b2i true))) h') : L_X11_someTimes_80 d (nI rr) (nI fr) (nI (c.1 - fr)) (nI 0) h Q := by
  have hM : (c.1 - fr) * (rr - 1) ≤ c.1 * 8 := Nat.mul_le_mul (by omega) (by omega)
  refine upto ((c.1 - fr) * (rr - 1)) (fun k h' => Ms tp n h0 h' i (c.1 + k, cpy c.2 fr k)) (fun k h' => L_X11_someTimes_80 d (nI rr) (nI fr) (nI (c.1 - fr)) (nI k) h' Q) ?_ ?_ 0 h (Nat.zero_le _) r
  · rintro k h' hk r' ih
    have hl := cpy_len (fr := fr) (show c.2.length ≤ 200 by omega) k
    have r6 : gI h' 59 7 = nI (c.1 + k) := r'.2.2.2.2.2.1
    refine b_X11_someTimes_80 hL (r'.eT e0) _ _ _ _ ?_
    rw [pk_sub (show 1 ≤ rr by omega), pk_mul, r6, nI_add fr k, pk_mul, nI_add _ 1, nI_add _ 2, nI_add _ 3, nI_add k 1, nI_add (c.1 + k) 1]
    refine ⟨fun _ => ⟨fun z => ?_, fun z => ?_⟩, fun z => absurd (nI_lt hk (by omega)) z⟩
    · have z := (nI_ltI (by omega) (by decide)).mp z
      have lt0 : 0 < c.1 - fr := by
        rcases Nat.eq_zero_or_pos (c.1 - fr) with w | w
        · rw [w, Nat.zero_mul] at hk; omega
        · exact w
      obtain ⟨g1, g2, g3, g4⟩ := r'.2.2.2.2.2.2 (fr + k) (by show fr + k < (cpy c.2 fr k).length; omega)
      rw [nI_clamp (by omega), nI_clamp (by omega), nI_clamp (by omega), nI_clamp (by omega), g1, g2, g3, g4]
      obtain ⟨p1, m1'⟩ := puts_ms (q := gM (cpy c.2 fr k) (fr + k)) rfl r' (by show (cpy c.2 fr k).length = min (c.1 + k) 200; omega) (by show c.1 + k < 2 ^ 30; omega)
      refine ⟨(inB_iff (by omega)).mpr (by omega), (inB_iff (by omega)).mpr (by omega), (inB_iff (by omega)).mpr (by omega), (inB_iff (by omega)).mpr (by omega), p1, ih _ ?_⟩
      exact m1'
    · have z : ¬ c.1 + k < 200 := fun u => z (nI_lt u (by decide))
      refine ih _ ?_
      obtain ⟨⟨f1, f2⟩, r2, r3, r4, r5, _, r7⟩ := r'
      have g : ∀ b j, (b = 59 → j ≠ 7) → gI (sI h' 59 7 (nI (c.1 + k + 1))) b j = gI h' b j := fun b j w => by rw [gI_sI, if_neg (fun k => w k.1 k.2)]
      have ec : cpy c.2 fr (k + 1) = cpy c.2 fr k := by
        show (if (cpy c.2 fr k).length < 200 then _ else _) = _
        rw [if_neg (by omega)]
      rw [ec]
      exact ⟨⟨f1, fun b j u w => by rw [g b j (by omega)]; exact f2 b j u w⟩, by rw [g _ _ (by decide)]; exact r2, by rw [g _ _ (by decide)]; exact r3, by rw [g _ _ (by decide)]; exact r4, fun k => by rw [g _ _ (by decide)]; exact r5 k, rfl, fun x hx' => by rw [g _ _ (by omega), g _ _ (by omega), g _ _ (by omega), g _ _ (by omega)]; exact r7 x hx'⟩
  · rintro h' r'
    refine b_X11_someTimes_80 hL (r'.eT e0) _ _ _ _ ?_
    rw [pk_sub (show 1 ≤ rr by omega), pk_mul]
    exact ⟨fun z => absurd z (nI_nlt (Nat.le_refl _) (by omega)), fun _ => K h' r'⟩
theorem s_stepsM (hL : Lay T) (e0 : h0.2.2 = T) (t : TM h0 tp n) (hm : gI h0 60 0 = nI m) (hE : ∀ i, tK tp n i ≠ 0 → i < iE) (h4 : iE ≤ 400) (m1 : 0 < m) (m16 : m ≤ 16) : ∀ f o d i c h res, o ≤ 4 → Ms tp n h0 h i c → MkV m c → i ≤ iE → c.1 ≤ 6561 * i → pS (tK tp n) (tN tp n) m f o i c = some res → ∀ {Q : Option Value → Hp → Prop}, (∀ e, res = .inl e → ∀ h', Mf tp n h0 h' e.1 e.2 → Q (some (.int (b2i false))) h') → (∀ q, res = .inr q → ∀ h', Ms tp n h0 h' q.1 q.2 → Q (some (.int (b2i true))) h') → L_X11_someSteps_2 (d + 2 * (4 - o)) (nI o) (b2i true) h Q
  | 0, _, _, _, _, _, _, _, _, _, _, _, hp, _, _, _ => by unfold pS at hp; cases hp
  | f + 1, o, d, i, c, h, res, ho, r, v, hi, hcb, hp, Q, Kf, Kr => by
    have ih := s_stepsM hL e0 t hm hE h4 m1 m16 f
    have ok := pS_ok (nn := tN tp n) m1 hE f
    have kl := tK_le (tp := tp) (n := n) i
    have mk : ∀ v, v ≤ 11 → ((nI (mkT (tK tp n i)) = nI (mkT v)) ↔ tK tp n i = v) := fun v hv => mkT_eq kl hv
    have stop0 : ∀ (h' : Hp), h'.2.2 = T → Q (some (.int (b2i false))) h' → L_X11_someSteps_2 (d + 2 * (4 - o)) (nI o) (b2i false) h' Q := fun h' eT' k => b_X11_someSteps_2 hL eT' _ _ ⟨fun _ => ⟨Or.inl rfl, k⟩, fun z => absurd rfl z⟩
    have go : ∀ (x : Mv × Nat) (h' : Hp), tK tp n (x.2 - 1) = 3 → i + 2 < x.2 → mvN m x.1 → Ms tp n h0 h' x.2 (psh1 c x.1) → pS (tK tp n) (tN tp n) m f o x.2 (psh1 c x.1) = some res → L_X11_someSteps_2 (d + 2 * (4 - o)) (nI o) (b2i true) h' Q := fun x h' x1 x2 x3 rx hx => by
      have xe := hE (x.2 - 1) (by omega)
      exact ih o d x.2 _ h' res ho rx (psh1_v v x3) (by omega) (by show c.1 + 1 ≤ 6561 * x.2; omega) hx Kf Kr
    unfold pS at hp
    refine b_X11_someSteps_2 hL (r.eT e0) _ _ ⟨fun z => absurd z (by decide), fun _ => ?_⟩
    rw [r.2.2.1, show nI 4 = nI (mkT 7) from rfl, show nI 5 = nI (mkT 8) from rfl, show nI 7 = nI (mkT 10) from rfl, mk 7 (by decide), mk 8 (by decide), mk 10 (by decide)]
    have i8 : (r_X11_isIn (nI (mkT (tK tp n i))) (nI 3) (nI 8) = true) ↔ 6 ≤ tK tp n i := by
      have al : ∀ a : Fin 12, (r_X11_isIn (nI (mkT a.val)) (nI 3) (nI 8) = true) ↔ 6 ≤ a.val := by decide +kernel
      exact al ⟨tK tp n i, by omega⟩
    have m8 : (nI (mkT (tK tp n i)) = nI 8) ↔ tK tp n i = 11 := mk 11 (by decide)
    have m3 : (nI (mkT (tK tp n i)) = nI 3) ↔ tK tp n i = 6 := mk 6 (by decide)
    rw [i8, m8, m3]
    have stopK : ¬ stepK (tK tp n i) → (b2i true = 0 ∨ b2i true = 1) ∧ Q (some (.int (b2i true))) h := fun k => by
      unfold stepK at k
      rw [if_neg (by omega), if_neg (by omega), if_neg (by omega)] at hp
      exact ⟨Or.inr rfl, Kr (i, c) (Option.some.inj hp).symm h r⟩
    refine ⟨fun z => ⟨fun z1 => stopK (by unfold stepK; omega), fun z1 => ⟨fun z2 => stopK (by unfold stepK; omega), fun z2 => ⟨fun z3 => ?_, fun z3 => ⟨fun z4 => ?_, fun z4 => ⟨fun z5 => ?_, fun z5 => ?_⟩⟩⟩⟩⟩, fun z => stopK (by unfold stepK; omega)⟩
    · -- times
      rw [if_neg (by omega), if_neg (by omega), if_pos z3] at hp
      have hlt := hE i (by omega)
      refine b_X11_someTimes hL (r.eT e0) _ ⟨fun q => ?_, fun q => ?_⟩
      · have q := nI_inj (by omega) (by decide) q
        rw [if_pos q] at hp
        exact ⟨_, rfl, (bad_mf (k := 3) r).eT e0, stop0 _ ((bad_mf (k := 3) r).eT e0) (Kf (3, i) (Option.some.inj hp).symm _ (bad_mf r))⟩
      · have q : o ≠ 4 := fun e => q (by rw [e])
        rw [if_neg q] at hp
        obtain ⟨d', hd'⟩ : ∃ d', d + 2 * (4 - o) = d' + 2 := ⟨d + 2 * (4 - (o + 1)), by omega⟩
        have hd2 : d' = d + 2 * (4 - (o + 1)) := by omega
        rw [hd']
        rw [hd'] at stop0
        have f0 : ∀ (e : Nat × Nat) (h' : Hp), res = .inl e → Mf tp n h0 h' e.1 e.2 → L_X11_someSteps_2 (d' + 2) (nI o) (b2i false) h' Q := fun e h' ee fl => stop0 h' (fl.eT e0) (Kf e ee h' fl)
        refine s_nextM (d := d' + 2 + 1) hL e0 t r (fun h1 r1 => ⟨rfl, r1.eT e0, ?_⟩)
        refine s_numM (d := d' + 2) hL e0 t r1 (lo := 1) (hh := 9) (by decide) (by decide) (fun h2 a ha r2 => ⟨_, rfl, r2.eT e0, fun _ => ?_, fun w => absurd rfl w⟩) (fun h2 e he f2 => ⟨_, rfl, f2.eT e0, fun w => absurd w (by decide), fun _ => ⟨_, rfl, f2.eT e0, f0 e h2 (by rw [he] at hp; exact (Option.some.inj hp).symm) f2⟩⟩)
        obtain ⟨y1, y2, y3, y4⟩ := rdNum_ok ha
        rw [ha] at hp
        dsimp only at hp
        rw [r1.2.2.2.2.1 y1, ← y2]
        refine s_needM (d := d' + 2) hL e0 t r2 (due := 4) (by decide) rfl (fun h3 k4 r3 => ⟨_, rfl, r3.eT e0, fun _ => ?_, fun w => absurd rfl w⟩) (fun h3 k4 f3 => ⟨_, rfl, f3.eT e0, fun w => absurd w (by decide), fun _ => ⟨_, rfl, f3.eT e0, f0 (1, i + 2) h3 (by rw [if_neg k4] at hp; exact (Option.some.inj hp).symm) f3⟩⟩)
        have k4 : tK tp n (i + 2) = 4 := k4
        rw [if_pos k4] at hp
        have ie2 := hE (i + 2) (by omega)
        cases hq : pS (tK tp n) (tN tp n) m f (o + 1) (i + 3) c with
        | none => rw [hq] at hp; cases hp
        | some y =>
          rw [hq] at hp
          rw [nI_add o 1]
          refine b_X11_someSteps (d := d') hL (r3.eT e0) _ ?_
          have r7 : gI h3 59 7 = nI c.1 := r3.2.2.2.2.2.1
          rw [hd2]
          refine ih (o + 1) d (i + 3) c h3 y (by omega) r3 v (by omega) (by omega) hq (fun e ee h5 f5 => ⟨_, rfl, f5.eT e0, fun w => absurd w (by decide), fun _ => ⟨_, rfl, f5.eT e0, ?_⟩⟩) (fun u eu h5 r5 => ⟨_, rfl, r5.eT e0, fun _ => ?_, fun w => absurd rfl w⟩)
          · rw [ee] at hp
            rw [← hd2]
            exact f0 e h5 (Option.some.inj hp).symm f5
          · rw [eu] at hp hq
            dsimp only at hp
            obtain ⟨b1, b2, b3, b4, b5⟩ := ok (o + 1) (i + 3) c u (by omega) (by omega) v hq
            have pw : 9 ^ (4 - (o + 1)) ≤ 729 := Nat.pow_le_pow_right (show 0 < 9 by decide) (show 4 - (o + 1) ≤ 3 by omega)
            have hu : u.2.1 ≤ c.1 + (u.1 - (i + 3)) * 729 := Nat.le_trans b5 (Nat.add_le_add_left (Nat.mul_le_mul_left _ pw) _)
            rw [← hd2]
            refine s_needM (d := d' + 2) hL e0 t r5 (due := 5) (by decide) rfl (fun h6 k5 r6 => ⟨_, rfl, r6.eT e0, fun _ => ?_, fun w => absurd rfl w⟩) (fun h6 k5 f6 => ⟨_, rfl, f6.eT e0, fun w => absurd w (by decide), fun _ => ⟨_, rfl, f6.eT e0, f0 (1, u.1) h6 (by rw [if_neg k5] at hp; exact (Option.some.inj hp).symm) f6⟩⟩)
            rw [if_pos k5] at hp
            have ue := hE u.1 (by omega)
            have r67 : gI h6 59 7 = nI u.2.1 := r6.2.2.2.2.2.1
            rw [r7, r67, pk_sub b4]
            refine s_times80 hL e0 r6 b3.1 b4 y3 y4 (by omega) (fun h8 r8 => ⟨_, rfl, r8.eT e0, ?_⟩)
            rw [← hd']
            have hcl : (cls1 u.2 c.1 a).1 ≤ 6561 * (u.1 + 1) := by
              show u.2.1 + (u.2.1 - c.1) * (a - 1) ≤ 6561 * (u.1 + 1)
              have : (u.2.1 - c.1) * (a - 1) ≤ (u.2.1 - c.1) * 8 := Nat.mul_le_mul_left _ (by omega)
              omega
            exact ih o d (u.1 + 1) _ h8 res ho r8 (cls1_v b3 b4) (by omega) hcl hp Kf Kr
    · -- turn
      rw [if_neg (by omega), if_pos z4] at hp
      refine s_aTurn (d := d + 2 * (4 - o)) hL e0 t r v.1 (by omega) (fun h' q hq rq => ⟨_, rfl, rq.eT e0, ?_⟩) (fun h' e he fl => ⟨_, rfl, fl.eT e0, stop0 _ (fl.eT e0) ?_⟩)
      · rw [hq] at hp
        obtain ⟨x1, x2, x3⟩ := rdTn_ok (m := m) hq
        exact go q h' x1 x2 x3 rq hp
      · rw [he] at hp
        exact Kf e (Option.some.inj hp).symm h' fl
    · -- lift
      rw [if_pos (Or.inl z5), if_pos z5] at hp
      refine s_aMove (d := d + 2 * (4 - o)) (kd := 0) hL e0 t hm m1 m16 r v.1 (by omega) (by decide) (fun h' q hq rq => ⟨_, rfl, rq.eT e0, ?_⟩) (fun h' e he fl => ⟨_, rfl, fl.eT e0, stop0 _ (fl.eT e0) ?_⟩)
      · rw [hq] at hp
        obtain ⟨x1, x2, x3⟩ := rdMv_ok m1 (by decide) hq
        exact go q h' x1 x2 x3 rq hp
      · rw [he] at hp
        exact Kf e (Option.some.inj hp).symm h' fl
    · -- swap
      have k9 : tK tp n i = 9 := by omega
      rw [if_pos (Or.inr k9), if_neg z5] at hp
      refine s_aMove (d := d + 2 * (4 - o)) (kd := 1) hL e0 t hm m1 m16 r v.1 (by omega) (by decide) (fun h' q hq rq => ⟨_, rfl, rq.eT e0, ?_⟩) (fun h' e he fl => ⟨_, rfl, fl.eT e0, stop0 _ (fl.eT e0) ?_⟩)
      · rw [hq] at hp
        obtain ⟨x1, x2, x3⟩ := rdMv_ok m1 (by decide) hq
        exact go q h' x1 x2 x3 rq hp
      · rw [he] at hp
        exact Kf e (Option.some.inj hp).symm h' fl
end ReadM
