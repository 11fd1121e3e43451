-- the class reads a text
def Fb (h0 h : Hp) : Prop := h.2 = h0.2 ∧ ∀ b j, ¬ (2 ≤ b ∧ b ≤ 11) → gI h b j = gI h0 b j
def stA (h : Hp) : List (Nat × Nat) → Prop
  | [] => True
  | e :: s => gI h 11 s.length = nI e.1 ∧ gI h 10 s.length = nI (min e.2 200) ∧ stA h s
theorem stA_tr {h h' : Hp} : ∀ {s : List (Nat × Nat)}, stA h s → (∀ k, k < s.length → gI h' 11 k = gI h 11 k ∧ gI h' 10 k = gI h 10 k) → stA h' s
  | [], _, _ => trivial
  | e :: s, a, g => by
    have l : (e :: s).length = s.length + 1 := List.length_cons
    exact ⟨by rw [(g s.length (by omega)).1]; exact a.1, by rw [(g s.length (by omega)).2]; exact a.2.1, stA_tr a.2.2 (fun k hk => g k (by omega))⟩
def DR (h : Hp) (c : Mk) : Prop := gI h 8 0 = nI c.2.length ∧ (∀ x, x < c.2.length → gI h 9 x = nI (pk (gM c.2 x))) ∧ gI h 2 8 = nI (if 200 < c.1 then 1 else 0)
def Rd (tp : Nat → Nat) (n iE m : Nat) (h0 h : Hp) (i : Nat) (c : Mk) (s : List (Nat × Nat)) : Prop := Fb h0 h ∧ gI h 2 5 = nI i - nI 1 ∧ (gI h 3 1 = nI (iE + 1) ∧ tkA h tp n (iE + 1)) ∧ (gI h 2 4 = nI m ∧ gI h 2 0 = gI h0 2 0 ∧ gI h 2 1 = gI h0 2 1) ∧ gI h 2 9 = nI s.length ∧ stA h s ∧ DR h c
def Fl (tp : Nat → Nat) (n : Nat) (h0 h : Hp) (k j : Nat) : Prop := Fb h0 h ∧ gI h 2 0 = nI k ∧ gI h 2 1 = nI (tS tp n j)
section Reader
variable {d : Nat} {T : HT} {h h0 : Hp} {Q : Option Value → Hp → Prop} {tp : Nat → Nat} {n iE m i : Nat} {c : Mk} {s : List (Nat × Nat)}
theorem Rd.eT (r : Rd tp n iE m h0 h i c s) (e : h0.2.2 = T) : h.2.2 = T := by rw [r.1.1]; exact e
theorem Fl.eT {k j : Nat} (r : Fl tp n h0 h k j) (e : h0.2.2 = T) : h.2.2 = T := by rw [r.1.1]; exact e
theorem mlt {i e : Nat} (h1 : i ≤ e) (h2 : e ≤ 400) : nI i - nI 1 < nI e := by
  by_cases z : i = 0
  · subst z
    rw [fa_lt, nI_toInt (by omega)]
    have : (nI 0 - nI 1).toInt = -1 := by decide
    omega
  · rw [pk_sub (by omega)]
    exact nI_lt (by omega) (by omega)
/-- fields of the reader alone are written -/
theorem Rd.put {k : Nat} {v : Int32} (r : Rd tp n iE m h0 h i c s) (hk : k ≠ 4 ∧ k ≠ 5 ∧ k ≠ 8 ∧ k ≠ 9 ∧ k ≠ 0 ∧ k ≠ 1) : Rd tp n iE m h0 (sI h 2 k v) i c s := by
  obtain ⟨⟨f1, f2⟩, r2, ⟨r3, r4⟩, r5, r6, r7, r8, r9, r10⟩ := r
  have g : ∀ b j, (b = 2 → j ≠ k) → gI (sI h 2 k v) b j = gI h b j := fun b j u => by rw [gI_sI, if_neg (fun q => u q.1 q.2)]
  refine ⟨⟨f1, fun b j u => by rw [g b j (by omega)]; exact f2 b j u⟩, by rw [g _ _ (by omega)]; exact r2, ⟨by rw [g _ _ (by omega)]; exact r3, fun j hj => by rw [g _ _ (by omega), g _ _ (by omega), g _ _ (by omega)]; exact r4 j hj⟩, ⟨by rw [g _ _ (by omega)]; exact r5.1, by rw [g _ _ (by omega)]; exact r5.2.1, by rw [g _ _ (by omega)]; exact r5.2.2⟩, by rw [g _ _ (by omega)]; exact r6, stA_tr r7 (fun k _ => ⟨g _ _ (by omega), g _ _ (by omega)⟩), by rw [g _ _ (by omega)]; exact r8, fun x hx => by rw [g _ _ (by omega)]; exact r9 x hx, by rw [g _ _ (by omega)]; exact r10⟩
theorem Rd.tak {v : Int32} {j : Nat} (r : Rd tp n iE m h0 h i c s) (hv : v = nI j - nI 1) : Rd tp n iE m h0 (sI h 2 5 v) j c s := by
  obtain ⟨⟨f1, f2⟩, r2, ⟨r3, r4⟩, r5, r6, r7, r8, r9, r10⟩ := r
  have g : ∀ b j, (b = 2 → j ≠ 5) → gI (sI h 2 5 v) b j = gI h b j := fun b j u => by rw [gI_sI, if_neg (fun q => u q.1 q.2)]
  refine ⟨⟨f1, fun b j u => by rw [g b j (by omega)]; exact f2 b j u⟩, hv, ⟨by rw [g _ _ (by omega)]; exact r3, fun j hj => by rw [g _ _ (by omega), g _ _ (by omega), g _ _ (by omega)]; exact r4 j hj⟩, ⟨by rw [g _ _ (by omega)]; exact r5.1, by rw [g _ _ (by omega)]; exact r5.2.1, by rw [g _ _ (by omega)]; exact r5.2.2⟩, by rw [g _ _ (by omega)]; exact r6, stA_tr r7 (fun k _ => ⟨g _ _ (by omega), g _ _ (by omega)⟩), by rw [g _ _ (by omega)]; exact r8, fun x hx => by rw [g _ _ (by omega)]; exact r9 x hx, by rw [g _ _ (by omega)]; exact r10⟩
theorem take_rd (r : Rd tp n iE m h0 h i c s) (hi : i ≤ iE) (h4 : iE ≤ 400) : p_X5_take h ∧ Rd tp n iE m h0 (w_X5_take h) (i + 1) c s ∧ gI (w_X5_take h) 2 6 = nI (tK tp n i) ∧ gI (w_X5_take h) 2 7 = nI (tN tp n i) := by
  obtain ⟨_, r2, ⟨r3, r4⟩, _, _, _, _⟩ := id r
  obtain ⟨a1, a2, a3⟩ := r4 i (by omega)
  have eiE : nI (iE + 1) - nI 1 = nI iE := by rw [pk_sub (by omega), Nat.add_sub_cancel]
  have cond : gI h 2 5 < gI h 3 1 - nI 1 := by rw [r2, r3, eiE]; exact mlt hi h4
  have e5 : gI h 2 5 + nI 1 = nI i := by rw [r2]; exact Int32.sub_add_cancel _ _
  have ib : inB (nI i) 401 = true := (inB_iff (by omega)).mpr (by omega)
  have e1 : gI (sI h 2 5 (nI i)) 2 5 = nI i := rfl
  have e2 : ∀ v, gI (sI (sI h 2 5 (nI i)) 2 6 v) 2 5 = nI i := fun v => by rw [gI_sI_at, if_neg (by decide)]; rfl
  have e3 : gI (sI h 2 5 (nI i)) 4 i = nI (tK tp n i) := by rw [gI_sI_ne (by decide)]; exact a1
  have e4 : ∀ v, gI (sI (sI h 2 5 (nI i)) 2 6 v) 6 i = nI (tN tp n i) := fun v => by rw [gI_sI_ne (by decide), gI_sI_ne (by decide)]; exact a3
  have eW : w_X5_take h = sI (sI (sI h 2 5 (nI i)) 2 6 (nI (tK tp n i))) 2 7 (nI (tN tp n i)) := by
    unfold w_X5_take
    rw [if_pos cond, e5, e1, nI_clamp (by omega), e3, e2, nI_clamp (by omega), e4]
  refine ⟨?_, ?_, ?_, ?_⟩
  · unfold p_X5_take
    rw [e5, e1, nI_clamp (by omega), e2]
    exact ⟨fun _ => ⟨ib, ib, trivial⟩, fun q => absurd cond q⟩
  · rw [eW]
    exact ((r.tak (by rw [pk_sub (by omega), show i + 1 - 1 = i by omega])).put ⟨by decide, by decide, by decide, by decide, by decide, by decide⟩).put ⟨by decide, by decide, by decide, by decide, by decide, by decide⟩
  · rw [eW]; rfl
  · rw [eW]; rfl
theorem fail_fl {k j : Nat} (r : Rd tp n iE m h0 h (j + 1) c s) (hj : j ≤ iE) (h4 : iE ≤ 400) : p_X5_fail (nI k) h ∧ Fl tp n h0 (w_X5_fail (nI k) h) k j := by
  obtain ⟨⟨f1, f2⟩, r2, ⟨r3, r4⟩, _, _, _, _⟩ := id r
  rw [pk_sub (by omega), show j + 1 - 1 = j by omega] at r2
  have e1 : gI (sI h 2 0 (nI k)) 2 5 = nI j := by rw [gI_sI_at, if_neg (by decide)]; exact r2
  have e2 : gI (sI h 2 0 (nI k)) 5 j = nI (tS tp n j) := by rw [gI_sI_ne (by decide)]; exact (r4 j (by omega)).2.1
  unfold p_X5_fail w_X5_fail
  rw [e1, nI_clamp (by omega), e2]
  refine ⟨⟨(inB_iff (by omega)).mpr (by omega), trivial⟩, ⟨f1, fun b j u => ?_⟩, rfl, rfl⟩
  rw [gI_sI_ne (by omega), gI_sI_ne (by omega)]
  exact f2 b j u
theorem s_readToken (hL : Lay T) (e0 : h0.2.2 = T) (r : Rd tp n iE m h0 h i c s) (hi : i ≤ iE) (h4 : iE ≤ 400) {due : Nat} (hd : due ≤ 11)
    (Kt : ∀ h', Rd tp n iE m h0 h' (i + 1) c s → gI h' 2 7 = nI (tN tp n i) → tK tp n i = due → Q (some (.int (b2i true))) h')
    (Kf : ∀ h', Fl tp n h0 h' 1 i → tK tp n i ≠ due → Q (some (.int (b2i false))) h') : Call (d + 1) MX5_readToken [.ref 2, .int (nI due)] h Q := by
  obtain ⟨p1, r1, k1, n1⟩ := take_rd r hi h4
  have kl := tK_le (tp := tp) (n := n) i
  obtain ⟨p2, f2⟩ := fail_fl (k := 1) r1 hi h4
  refine b_X5_readToken hL (r.eT e0) _ ⟨p1, ?_⟩
  rw [k1]
  refine ⟨fun q => Kt _ r1 n1 (nI_inj (by omega) (by omega) q), fun q => ⟨p2, fun w => Bool.noConfusion (show false = true from w), fun _ => Kf _ f2 (fun e => q (by rw [e]))⟩⟩
theorem tN_le (hb : ∀ i, i < n → tp i < 256) (i : Nat) : tN tp n i ≤ 229977 := by
  unfold tN
  by_cases z : tS tp n i < n
  · rw [if_pos z]
    obtain ⟨e1, e2⟩ := eR_b (tp := tp) z
    unfold nR
    split
    · exact dv_le hb (by omega) (by omega)
    · omega
  · rw [if_neg z]; omega
theorem s_readNumber (hL : Lay T) (e0 : h0.2.2 = T) (hb : ∀ i, i < n → tp i < 256) (r : Rd tp n iE m h0 h i c s) (hi : i ≤ iE) (h4 : iE ≤ 400) {lo hh : Nat} (h1 : lo ≤ 100) (h2 : hh ≤ 100)
    (Kt : ∀ h' a, rdNum (tK tp n) (tN tp n) i lo hh = .inr a → Rd tp n iE m h0 h' (i + 1) c s → gI h' 2 7 = nI a → Q (some (.int (b2i true))) h')
    (Kf : ∀ h' e, rdNum (tK tp n) (tN tp n) i lo hh = .inl e → Fl tp n h0 h' e.1 e.2 → Q (some (.int (b2i false))) h') : Call (d + 2) MX5_readNumber [.ref 2, .int (nI lo), .int (nI hh)] h Q := by
  have nl := tN_le hb i
  unfold rdNum at Kt Kf
  refine b_X5_readNumber hL (r.eT e0) _ _ ?_
  refine s_readToken (d := d) hL e0 r hi h4 (due := 2) (by decide) (fun h' r1 n1 q => ⟨_, rfl, r1.eT e0, fun _ => ?_, fun w => absurd rfl w⟩) (fun h' f q => ⟨_, rfl, f.eT e0, fun w => absurd w (by decide), fun _ => Kf h' (1, i) (by rw [if_neg q]) f⟩)
  obtain ⟨p2, f2⟩ := fail_fl (k := 2) r1 hi h4
  rw [n1]
  rw [if_pos q] at Kt Kf
  have bad : ¬ (lo ≤ tN tp n i ∧ tN tp n i ≤ hh) → Q (some (.int (b2i false))) (w_X5_fail (nI 2) h') := fun w => Kf _ (2, i) (by rw [if_neg w]) f2
  refine ⟨fun w => ⟨p2, fun w2 => Bool.noConfusion (show false = true from w2), fun _ => bad (fun k => absurd w (nI_nlt k.1 (by omega)))⟩, fun w => ⟨fun w2 => ⟨p2, fun w3 => Bool.noConfusion (show false = true from w3), fun _ => bad (fun k => absurd w2 (nI_nlt k.2 (by omega)))⟩, fun w2 => Kt h' (tN tp n i) (by rw [if_pos ⟨Nat.le_of_not_lt (fun u => w (nI_lt u (by omega))), Nat.le_of_not_lt (fun u => w2 (nI_lt u (by omega)))⟩]) r1 n1⟩⟩
theorem append_eq {l : Nat} (hl : l ≤ 200) (h8 : gI h 8 0 = nI l) (v : Int32) : p_X5_append v h ∧ w_X5_append v h = if l < 200 then sI (sI h 9 l v) 8 0 (nI (l + 1)) else sI h 2 8 (nI 1) := by
  unfold p_X5_append w_X5_append p_X7_add r_X7_add w_X7_add
  rw [h8, nI_clamp (by omega), gI_sI_ne (by decide), h8, nI_add]
  by_cases q : l < 200
  · have q' : nI l < nI 200 := nI_lt q (by decide)
    rw [if_pos q', if_pos q', if_pos rfl, if_pos q]
    exact ⟨⟨⟨fun _ => ⟨(inB_iff (by omega)).mpr q, trivial⟩, fun _ => trivial⟩, fun _ => trivial, fun _ => trivial⟩, rfl⟩
  · have q' : ¬ nI l < nI 200 := nI_nlt (by omega) (by omega)
    rw [if_neg q', if_neg q', if_neg (by decide), if_neg q]
    exact ⟨⟨⟨fun w => absurd w q', fun _ => trivial⟩, fun _ => trivial, fun _ => trivial⟩, rfl⟩
theorem append_rd {q : Mv} (r : Rd tp n iE m h0 h i c s) (v : c.2.length = min c.1 200) : p_X5_append (nI (pk q)) h ∧ Rd tp n iE m h0 (w_X5_append (nI (pk q)) h) i (psh1 c q) s := by
  obtain ⟨⟨f1, f2⟩, r2, ⟨r3, r4⟩, r5, r6, r7, r8, r9, r10⟩ := id r
  obtain ⟨p1, p2⟩ := append_eq (h := h) (l := c.2.length) (by omega) r8 (nI (pk q))
  refine ⟨p1, ?_⟩
  rw [p2]
  unfold psh1
  by_cases z : c.2.length < 200
  · rw [if_pos z, if_pos z]
    have g : ∀ b j, b ≠ 9 → (b = 8 → j ≠ 0) → gI (sI (sI h 9 c.2.length (nI (pk q))) 8 0 (nI (c.2.length + 1))) b j = gI h b j := fun b j u w => by rw [gI_sI, if_neg (fun q => w q.1 q.2), gI_sI_ne u]
    refine ⟨⟨f1, fun b j u => by rw [g b j (by omega) (by omega)]; exact f2 b j u⟩, by rw [g _ _ (by omega) (by omega)]; exact r2, ⟨by rw [g _ _ (by omega) (by omega)]; exact r3, fun j hj => by rw [g _ _ (by omega) (by omega), g _ _ (by omega) (by omega), g _ _ (by omega) (by omega)]; exact r4 j hj⟩, ⟨by rw [g _ _ (by omega) (by omega)]; exact r5.1, by rw [g _ _ (by omega) (by omega)]; exact r5.2.1, by rw [g _ _ (by omega) (by omega)]; exact r5.2.2⟩, by rw [g _ _ (by omega) (by omega)]; exact r6, stA_tr r7 (fun k _ => ⟨g _ _ (by omega) (by omega), g _ _ (by omega) (by omega)⟩), ?_, fun x hx => ?_, ?_⟩
    · show nI (c.2.length + 1) = nI (c.2 ++ [q]).length
      rw [List.length_append, List.length_singleton]
    · have hx : x < (c.2 ++ [q]).length := hx
      rw [List.length_append, List.length_singleton] at hx
      show gI (sI (sI h 9 c.2.length (nI (pk q))) 8 0 (nI (c.2.length + 1))) 9 x = nI (pk (gM (c.2 ++ [q]) x))
      rw [gM_app, gI_sI_ne (by decide), gI_sI_at]
      by_cases w : x = c.2.length
      · rw [if_pos w, if_neg (by omega), if_pos w]
      · rw [if_neg w, if_pos (by omega)]; exact r9 x (by omega)
    · rw [g _ _ (by omega) (by omega), r10]
      rw [if_neg (by omega), if_neg (show ¬ 200 < c.1 + 1 by omega)]
  · rw [if_neg z, if_neg z]
    have g : ∀ b j, (b = 2 → j ≠ 8) → gI (sI h 2 8 (nI 1)) b j = gI h b j := fun b j w => by rw [gI_sI, if_neg (fun q => w q.1 q.2)]
    refine ⟨⟨f1, fun b j u => by rw [g b j (by omega)]; exact f2 b j u⟩, by rw [g _ _ (by omega)]; exact r2, ⟨by rw [g _ _ (by omega)]; exact r3, fun j hj => by rw [g _ _ (by omega), g _ _ (by omega), g _ _ (by omega)]; exact r4 j hj⟩, ⟨by rw [g _ _ (by omega)]; exact r5.1, by rw [g _ _ (by omega)]; exact r5.2.1, by rw [g _ _ (by omega)]; exact r5.2.2⟩, by rw [g _ _ (by omega)]; exact r6, stA_tr r7 (fun k _ => ⟨g _ _ (by omega), g _ _ (by omega)⟩), by rw [g _ _ (by omega)]; exact r8, fun x hx => by rw [g _ _ (by omega)]; exact r9 x hx, ?_⟩
    rw [if_pos (show 200 < c.1 + 1 by omega)]
    rfl
theorem s_readAsked (hL : Lay T) (e0 : h0.2.2 = T) (hb : ∀ i, i < n → tp i < 256) (hE : ∀ i, tK tp n i ≠ 0 → i < iE) (h4 : iE ≤ 400) (r : Rd tp n iE m h0 h i c s) (v : c.2.length = min c.1 200) (hi : i ≤ iE) {kd a b : Nat} (h1 : kd < 2) (ha : a < 16) (hb' : b < 16)
    (Kt : ∀ h' q, rdAsk (tK tp n) (tN tp n) kd a b i = .inr q → Rd tp n iE m h0 h' q.2 (psh1 c q.1) s → Q (some (.int (b2i true))) h')
    (Kf : ∀ h' e, rdAsk (tK tp n) (tN tp n) kd a b i = .inl e → Fl tp n h0 h' e.1 e.2 → Q (some (.int (b2i false))) h') : Call (d + 3) MX5_readAsked [.ref 2, .int (nI kd), .int (nI a), .int (nI b)] h Q := by
  obtain ⟨p1, r1, k1, n1⟩ := take_rd r hi h4
  have kl := tK_le (tp := tp) (n := n) i
  unfold rdAsk at Kt Kf
  refine b_X5_readAsked hL (r.eT e0) _ _ _ ⟨p1, ?_⟩
  rw [k1]
  refine ⟨fun z => ?_, fun z => ?_⟩
  · have z := nI_inj (by omega) (by decide) z
    have ie := hE i (by omega)
    rw [if_pos z] at Kt Kf
    refine s_readNumber (d := d) hL e0 hb r1 (by omega) h4 (lo := 0) (hh := 9) (by decide) (by decide) (fun h2 x hx r2 x2 => ⟨_, rfl, r2.eT e0, fun _ => ?_, fun w => absurd rfl w⟩) (fun h2 e he f => ⟨_, rfl, f.eT e0, fun w => absurd w (by decide), fun _ => Kf h2 e (by rw [he]) f⟩)
    obtain ⟨y1, y2, y3, y4⟩ := rdNum_ok hx
    have ie1 := hE (i + 1) (by omega)
    rw [hx] at Kt Kf
    dsimp only at Kt Kf
    obtain ⟨p3, r3, k3, n3⟩ := take_rd r2 (by omega) h4
    have kl3 := tK_le (tp := tp) (n := n) (i + 1 + 1)
    rw [k3, x2]
    have ep : r_X4_packed (nI kd) (nI a) (nI b) (nI x) = nI (pk (kd, a, b, x + 1)) := packed_pk _ (nI_add x 1) (by omega) ha hb' (by omega)
    rw [ep]
    obtain ⟨p5, r5⟩ := append_rd (q := (kd, a, b, x + 1)) r3 v
    obtain ⟨p6, f6⟩ := fail_fl (k := 1) r3 (show i + 1 + 1 ≤ iE by omega) h4
    refine ⟨p3, fun w => ⟨p5, Kt _ ((kd, a, b, x + 1), i + 3) ?_ r5⟩, fun w => ⟨p6, Kf _ (1, i + 2) ?_ f6⟩⟩
    · rw [if_pos (nI_inj (by omega) (by decide) w)]
    · rw [if_neg (fun e => w (by rw [e]))]
  · have z : tK tp n i ≠ 8 := fun e => z (by rw [e])
    rw [if_neg z] at Kt Kf
    have ep : r_X4_packed (nI kd) (nI a) (nI b) (-1) = nI (pk (kd, a, b, 0)) := packed_pk _ (by decide) (by omega) ha hb' (by omega)
    rw [ep]
    obtain ⟨p5, r5⟩ := append_rd (q := (kd, a, b, 0)) r1 v
    obtain ⟨p6, f6⟩ := fail_fl (k := 1) r1 hi h4
    refine ⟨fun w => ⟨p5, Kt _ ((kd, a, b, 0), i + 1) ?_ r5⟩, fun w => ⟨p6, Kf _ (1, i) ?_ f6⟩⟩
    · rw [if_pos (nI_inj (by omega) (by decide) w)]
    · rw [if_neg (fun e => w (by rw [e]))]
theorem s_readLift (hL : Lay T) (e0 : h0.2.2 = T) (hb : ∀ i, i < n → tp i < 256) (hE : ∀ i, tK tp n i ≠ 0 → i < iE) (h4 : iE ≤ 400) (m1 : 0 < m) (m16 : m ≤ 16) (r : Rd tp n iE m h0 h (i + 1) c s) (v : c.2.length = min c.1 200) (hi : i < iE)
    (Kt : ∀ h' q, rdMv (tK tp n) (tN tp n) m 0 i = .inr q → Rd tp n iE m h0 h' q.2 (psh1 c q.1) s → Q (some (.int (b2i true))) h')
    (Kf : ∀ h' e, rdMv (tK tp n) (tN tp n) m 0 i = .inl e → Fl tp n h0 h' e.1 e.2 → Q (some (.int (b2i false))) h') : Call (d + 4) MX5_readLift [.ref 2] h Q := by
  unfold rdMv at Kt Kf
  refine b_X5_readLift hL (r.eT e0) ?_
  rw [r.2.2.2.1.1, pk_sub (by omega)]
  refine s_readNumber (d := d + 1) hL e0 hb r (by omega) h4 (lo := 0) (hh := m - 1) (by decide) (by omega) (fun h2 a hx r2 a2 => ⟨_, rfl, r2.eT e0, fun _ => ?_, fun w => absurd rfl w⟩) (fun h2 e he f => ⟨_, rfl, f.eT e0, fun w => absurd w (by decide), fun _ => Kf h2 e (by rw [he]) f⟩)
  obtain ⟨y1, y2, y3, y4⟩ := rdNum_ok hx
  have ie1 := hE (i + 1) (by omega)
  rw [hx] at Kt Kf
  dsimp only at Kt Kf
  rw [if_pos rfl] at Kt
  rw [if_pos rfl] at Kf
  refine s_readToken (d := d + 2) hL e0 r2 (by omega) h4 (due := 7) (by decide) (fun h3 r3 n3 q => ⟨_, rfl, r3.eT e0, fun _ => ?_, fun w => absurd rfl w⟩) (fun h3 f q => ⟨_, rfl, f.eT e0, fun w => absurd w (by decide), fun _ => Kf h3 (1, i + 2) (by rw [if_neg q]) f⟩)
  rw [if_pos q] at Kt Kf
  have ie2 := hE (i + 1 + 1) (by omega)
  unfold rdSnd at Kt Kf
  rw [r3.2.2.2.1.1, pk_sub (by omega)]
  refine s_readNumber (d := d + 1) hL e0 hb r3 (by omega) h4 (lo := 0) (hh := m - 1) (by decide) (by omega) (fun h5 b hx5 r5 b5 => ⟨_, rfl, r5.eT e0, fun _ => ?_, fun w => absurd rfl w⟩) (fun h5 e he f => ⟨_, rfl, f.eT e0, fun w => absurd w (by decide), fun _ => Kf h5 e (by rw [he]) f⟩)
  obtain ⟨w1, w2, w3, w4⟩ := rdNum_ok hx5
  have ie3 := hE (i + 1 + 1 + 1) (by omega)
  rw [hx5] at Kt Kf
  rw [a2, b5]
  exact s_readAsked (d := d) (kd := 0) hL e0 hb hE h4 r5 v (by omega) (by decide) (by omega) (by omega) (fun h6 q6 hq r6 => ⟨_, rfl, r6.eT e0, Kt h6 q6 hq r6⟩) (fun h6 e he f => ⟨_, rfl, f.eT e0, Kf h6 e he f⟩)
theorem s_readSwap (hL : Lay T) (e0 : h0.2.2 = T) (hb : ∀ i, i < n → tp i < 256) (hE : ∀ i, tK tp n i ≠ 0 → i < iE) (h4 : iE ≤ 400) (m1 : 0 < m) (m16 : m ≤ 16) (r : Rd tp n iE m h0 h (i + 1) c s) (v : c.2.length = min c.1 200) (hi : i < iE)
    (Kt : ∀ h' q, rdMv (tK tp n) (tN tp n) m 1 i = .inr q → Rd tp n iE m h0 h' q.2 (psh1 c q.1) s → Q (some (.int (b2i true))) h')
    (Kf : ∀ h' e, rdMv (tK tp n) (tN tp n) m 1 i = .inl e → Fl tp n h0 h' e.1 e.2 → Q (some (.int (b2i false))) h') : Call (d + 4) MX5_readSwap [.ref 2] h Q := by
  unfold rdMv at Kt Kf
  refine b_X5_readSwap hL (r.eT e0) ?_
  rw [r.2.2.2.1.1, pk_sub (by omega)]
  refine s_readNumber (d := d + 1) hL e0 hb r (by omega) h4 (lo := 0) (hh := m - 1) (by decide) (by omega) (fun h2 a hx r2 a2 => ⟨_, rfl, r2.eT e0, fun _ => ?_, fun w => absurd rfl w⟩) (fun h2 e he f => ⟨_, rfl, f.eT e0, fun w => absurd w (by decide), fun _ => Kf h2 e (by rw [he]) f⟩)
  obtain ⟨y1, y2, y3, y4⟩ := rdNum_ok hx
  have ie1 := hE (i + 1) (by omega)
  rw [hx] at Kt Kf
  dsimp only at Kt Kf
  rw [if_neg (by decide)] at Kt
  rw [if_neg (by decide)] at Kf
  unfold rdSnd at Kt Kf
  rw [r2.2.2.2.1.1, pk_sub (by omega)]
  refine s_readNumber (d := d + 1) hL e0 hb r2 (by omega) h4 (lo := 0) (hh := m - 1) (by decide) (by omega) (fun h5 b hx5 r5 b5 => ⟨_, rfl, r5.eT e0, fun _ => ?_, fun w => absurd rfl w⟩) (fun h5 e he f => ⟨_, rfl, f.eT e0, fun w => absurd w (by decide), fun _ => Kf h5 e (by rw [he]) f⟩)
  obtain ⟨w1, w2, w3, w4⟩ := rdNum_ok hx5
  have ie3 := hE (i + 1 + 1) (by omega)
  rw [hx5] at Kt Kf
  rw [a2, b5]
  exact s_readAsked (d := d) (kd := 1) hL e0 hb hE h4 r5 v (by omega) (by decide) (by omega) (by omega) (fun h6 q6 hq r6 => ⟨_, rfl, r6.eT e0, fun _ => Kt h6 q6 hq r6, fun w => absurd rfl w⟩) (fun h6 e he f => ⟨_, rfl, f.eT e0, fun w => absurd w (by decide), fun _ => Kf h6 e he f⟩)
theorem s_readTurn (hL : Lay T) (e0 : h0.2.2 = T) (hb : ∀ i, i < n → tp i < 256) (hE : ∀ i, tK tp n i ≠ 0 → i < iE) (h4 : iE ≤ 400) (r : Rd tp n iE m h0 h (i + 1) c s) (v : c.2.length = min c.1 200) (hi : i < iE)
    (Kt : ∀ h' q, rdTn (tK tp n) (tN tp n) i = .inr q → Rd tp n iE m h0 h' q.2 (psh1 c q.1) s → Q (some (.int (b2i true))) h')
    (Kf : ∀ h' e, rdTn (tK tp n) (tN tp n) i = .inl e → Fl tp n h0 h' e.1 e.2 → Q (some (.int (b2i false))) h') : Call (d + 3) MX5_readTurn [.ref 2] h Q := by
  unfold rdTn at Kt Kf
  refine b_X5_readTurn hL (r.eT e0) ?_
  refine s_readNumber (d := d) hL e0 hb r (by omega) h4 (lo := 0) (hh := 15) (by decide) (by decide) (fun h2 a hx r2 a2 => ⟨_, rfl, r2.eT e0, fun _ => ?_, fun w => absurd rfl w⟩) (fun h2 e he f => ⟨_, rfl, f.eT e0, fun w => absurd w (by decide), fun _ => Kf h2 e (by rw [he]) f⟩)
  obtain ⟨y1, y2, y3, y4⟩ := rdNum_ok hx
  have ie1 := hE (i + 1) (by omega)
  rw [hx] at Kt Kf
  dsimp only at Kt Kf
  refine s_readToken (d := d + 1) hL e0 r2 (by omega) h4 (due := 3) (by decide) (fun h3 r3 n3 q => ⟨_, rfl, r3.eT e0, fun _ => ?_, fun w => absurd rfl w⟩) (fun h3 f q => ⟨_, rfl, f.eT e0, fun w => absurd w (by decide), fun _ => Kf h3 (1, i + 2) (by rw [if_neg q]) f⟩)
  rw [if_pos q] at Kt
  have ep : r_X4_packed (nI 2) (nI a) (nI 0) (-1) = nI (pk (2, a, 0, 0)) := packed_pk _ (by decide) (by decide) (by omega) (by decide) (by decide)
  rw [a2, ep]
  obtain ⟨p5, r5⟩ := append_rd (q := (2, a, 0, 0)) r3 v
  exact ⟨p5, Kt _ ((2, a, 0, 0), i + 3) rfl r5⟩
theorem s_readTimes (hL : Lay T) (e0 : h0.2.2 = T) (hb : ∀ i, i < n → tp i < 256) (hE : ∀ i, tK tp n i ≠ 0 → i < iE) (h4 : iE ≤ 400) (r : Rd tp n iE m h0 h (i + 1) c s) (v : c.2.length = min c.1 200) (hi : i < iE) (hs : s.length ≤ 4)
    (Kd : s.length = 4 → ∀ h', Fl tp n h0 h' 3 i → Q (some (.int (b2i false))) h')
    (Kf : s.length ≠ 4 → ∀ h' e, rdNum (tK tp n) (tN tp n) (i + 1) 1 9 = .inl e → Fl tp n h0 h' e.1 e.2 → Q (some (.int (b2i false))) h')
    (Kg : s.length ≠ 4 → ∀ h' a, rdNum (tK tp n) (tN tp n) (i + 1) 1 9 = .inr a → tK tp n (i + 2) ≠ 4 → Fl tp n h0 h' 1 (i + 2) → Q (some (.int (b2i false))) h')
    (Kt : s.length ≠ 4 → ∀ h' a, rdNum (tK tp n) (tN tp n) (i + 1) 1 9 = .inr a → tK tp n (i + 2) = 4 → Rd tp n iE m h0 h' (i + 3) c ((a, c.1) :: s) → Q (some (.int (b2i true))) h') : Call (d + 3) MX5_readTimes [.ref 2] h Q := by
  refine b_X5_readTimes hL (r.eT e0) ?_
  rw [r.2.2.2.2.1]
  obtain ⟨p6, f6⟩ := fail_fl (k := 3) r (show i ≤ iE by omega) h4
  refine ⟨fun z => ?_, fun z => ⟨p6, Kd ?_ _ f6⟩⟩
  · have z := (nI_ltI (by omega) (by decide)).mp z
    refine s_readNumber (d := d) hL e0 hb r (by omega) h4 (lo := 1) (hh := 9) (by decide) (by decide) (fun h2 a hx r2 a2 => ⟨_, rfl, r2.eT e0, fun _ => ?_, fun w => absurd rfl w⟩) (fun h2 e he f => ⟨_, rfl, f.eT e0, fun w => absurd w (by decide), fun _ => Kf (by omega) h2 e he f⟩)
    obtain ⟨y1, y2, y3, y4⟩ := rdNum_ok hx
    have ie1 := hE (i + 1) (by omega)
    obtain ⟨⟨f1, f2⟩, q2, ⟨q3, q4⟩, q5, q6, q7, q8, q9, q10⟩ := id r2
    have g9 : ∀ x w, gI (sI h2 11 x w) 2 9 = nI s.length := fun x w => by rw [gI_sI_ne (by decide)]; exact q6
    have g8 : ∀ x w, gI (sI h2 11 x w) 8 0 = nI c.2.length := fun x w => by rw [gI_sI_ne (by decide)]; exact q8
    have g9' : ∀ x w y u, gI (sI (sI h2 11 x w) 10 y u) 2 9 = nI s.length := fun x w y u => by rw [gI_sI_ne (by decide)]; exact g9 x w
    rw [q6, a2, nI_clamp (by omega), g9, g8, nI_clamp (by omega), g9', nI_add]
    have ib : inB (nI s.length) 4 = true := (inB_iff (by omega)).mpr z
    have rN : Rd tp n iE m h0 (sI (sI (sI h2 11 s.length (nI a)) 10 s.length (nI c.2.length)) 2 9 (nI (s.length + 1))) (i + 1 + 1) c ((a, c.1) :: s) := by
      have g : ∀ b j, (b = 2 → j ≠ 9) → (b = 10 → j ≠ s.length) → (b = 11 → j ≠ s.length) → gI (sI (sI (sI h2 11 s.length (nI a)) 10 s.length (nI c.2.length)) 2 9 (nI (s.length + 1))) b j = gI h2 b j := fun b j u1 u2 u3 => by rw [gI_sI, if_neg (fun q => u1 q.1 q.2), gI_sI, if_neg (fun q => u2 q.1 q.2), gI_sI, if_neg (fun q => u3 q.1 q.2)]
      refine ⟨⟨f1, fun b j u => by rw [g b j (by omega) (by omega) (by omega)]; exact f2 b j u⟩, by rw [g _ _ (by omega) (by omega) (by omega)]; exact q2, ⟨by rw [g _ _ (by omega) (by omega) (by omega)]; exact q3, fun j hj => by rw [g _ _ (by omega) (by omega) (by omega), g _ _ (by omega) (by omega) (by omega), g _ _ (by omega) (by omega) (by omega)]; exact q4 j hj⟩, ⟨by rw [g _ _ (by omega) (by omega) (by omega)]; exact q5.1, by rw [g _ _ (by omega) (by omega) (by omega)]; exact q5.2.1, by rw [g _ _ (by omega) (by omega) (by omega)]; exact q5.2.2⟩, by rw [List.length_cons]; rfl, ⟨?_, ?_, stA_tr q7 (fun k hk => ⟨g _ _ (by omega) (by omega) (by omega), g _ _ (by omega) (by omega) (by omega)⟩)⟩, by rw [g _ _ (by omega) (by omega) (by omega)]; exact q8, fun x hx => by rw [g _ _ (by omega) (by omega) (by omega)]; exact q9 x hx, by rw [g _ _ (by omega) (by omega) (by omega)]; exact q10⟩
      · rw [gI_sI_ne (by decide), gI_sI_ne (by decide), gI_sI_at, if_pos rfl]
      · rw [gI_sI_ne (by decide), gI_sI_at, if_pos rfl, v]
    refine ⟨ib, ib, s_readToken (d := d + 1) hL e0 rN (by omega) h4 (due := 4) (by decide) (fun h3 r3 n3 q => ⟨_, rfl, r3.eT e0, Kt (by omega) h3 a hx q r3⟩) (fun h3 f q => ⟨_, rfl, f.eT e0, Kg (by omega) h3 a hx q f⟩)⟩
  · have : ¬ s.length < 4 := fun u => z (nI_lt u (by decide))
    omega
/-- repeats written out -/
theorem s_readClosing (hL : Lay T) (e0 : h0.2.2 = T) (h4 : iE ≤ 400) {rr fr : Nat} (r : Rd tp n iE m h0 h (i + 1) c ((rr, fr) :: s)) (v : c.2.length = min c.1 200) (hs : s.length ≤ 3) (hf : fr ≤ c.1) (h1 : 1 ≤ rr) (h9 : rr ≤ 9)
    (Kt : ∀ h', Rd tp n iE m h0 h' (i + 1) (cls1 c fr rr) s → Q (some (.int (b2i true))) h') : Call (d + 2) MX5_readClosing [.ref 2] h Q := by
  obtain ⟨⟨f1, f2⟩, q2, ⟨q3, q4⟩, q5, q6, ⟨q7, q71, q72⟩, q8, q9, q10⟩ := id r
  dsimp only at q7 q71
  rw [List.length_cons] at q6
  refine b_X5_readClosing hL (r.eT e0) ?_
  rw [q6, pk_sub (by omega), show s.length + 1 - 1 = s.length by omega, gI_sI_ne (by decide), q8]
  refine ⟨fun z => by have := (nI_eq0 (by omega)).mp z; omega, fun _ => ?_⟩
  -- the state of the loops: t moves written so far
  have base : ∀ (h' : Hp) (c' : Mk), Fb h0 h' → (∀ b j, b ≠ 8 → b ≠ 9 → (b = 2 → j ≠ 8) → gI h' b j = gI (sI h 2 9 (nI s.length)) b j) → DR h' c' → Rd tp n iE m h0 h' (i + 1) c' s := fun h' c' fb g dr => by
    have g' : ∀ b j, b ≠ 8 → b ≠ 9 → (b = 2 → j ≠ 8 ∧ j ≠ 9) → gI h' b j = gI h b j := fun b j u1 u2 u3 => by rw [g b j u1 u2 (fun k => (u3 k).1), gI_sI, if_neg (fun k => (u3 k.1).2 k.2)]
    refine ⟨fb, by rw [g' _ _ (by decide) (by decide) (by omega)]; exact q2, ⟨by rw [g' _ _ (by decide) (by decide) (by omega)]; exact q3, fun j hj => by rw [g' _ _ (by decide) (by decide) (by omega), g' _ _ (by decide) (by decide) (by omega), g' _ _ (by decide) (by decide) (by omega)]; exact q4 j hj⟩, ⟨by rw [g' _ _ (by decide) (by decide) (by omega)]; exact q5.1, by rw [g' _ _ (by decide) (by decide) (by omega)]; exact q5.2.1, by rw [g' _ _ (by decide) (by decide) (by omega)]; exact q5.2.2⟩, ?_, stA_tr q72 (fun k hk => ⟨g' _ _ (by decide) (by decide) (by omega), g' _ _ (by decide) (by decide) (by omega)⟩), dr⟩
    rw [g _ _ (by decide) (by decide) (by omega)]; rfl
  have x11 : ∀ h', (∀ b j, b ≠ 8 → b ≠ 9 → (b = 2 → j ≠ 8) → gI h' b j = gI (sI h 2 9 (nI s.length)) b j) → gI h' 11 s.length = nI rr ∧ gI h' 10 s.length = nI (min fr 200) ∧ gI h' 2 9 = nI s.length := fun h' g => ⟨by rw [g _ _ (by decide) (by decide) (by omega), gI_sI_ne (by decide)]; exact q7, by rw [g _ _ (by decide) (by decide) (by omega), gI_sI_ne (by decide)]; exact q71, by rw [g _ _ (by decide) (by decide) (by omega)]; rfl⟩
  have ib : inB (nI s.length) 4 = true := (inB_iff (by omega)).mpr (by omega)
  have fb0 : Fb h0 (sI h 2 9 (nI s.length)) := ⟨f1, fun b j u => by rw [gI_sI_ne (by omega)]; exact f2 b j u⟩
  by_cases big : c.1 ≤ 200
  · -- nothing was left out
    have el : c.2.length = c.1 := by omega
    rw [el] at q8 q9 ⊢
    have emin : min fr 200 = fr := by omega
    rw [emin] at x11
    have dr0 : DR (sI h 2 9 (nI s.length)) (c.1 + 0, cpy c.2 fr 0) := ⟨by rw [gI_sI_ne (by decide)]; show gI h 8 0 = nI c.2.length; rw [el]; exact q8, fun x hx => by rw [gI_sI_ne (by decide)]; exact q9 x (by have hx : x < c.2.length := hx; omega), by rw [gI_sI_at, if_neg (by decide)]; exact q10⟩
    refine upto rr (fun y h' => 1 ≤ y ∧ Fb h0 h' ∧ (∀ b j, b ≠ 8 → b ≠ 9 → (b = 2 → j ≠ 8) → gI h' b j = gI (sI h 2 9 (nI s.length)) b j) ∧ DR h' (c.1 + (c.1 - fr) * (y - 1), cpy c.2 fr ((c.1 - fr) * (y - 1)))) (fun y h' => L_X5_readClosing_33 d (nI c.1) (nI y) h' Q) ?_ ?_ 1 (sI h 2 9 (nI s.length)) h1 ⟨Nat.le_refl _, fb0, fun _ _ _ _ _ => rfl, dr0⟩
    · rintro y h' hy ⟨y1, fb, g, dr⟩ ih
      obtain ⟨u1, u2, u3⟩ := x11 h' g
      refine b_X5_readClosing_33 hL (by rw [fb.1]; exact e0) _ _ ?_
      rw [u3, nI_clamp (by omega), u1, u2]
      refine ⟨ib, fun _ => ⟨ib, ?_⟩, fun z => absurd (nI_lt hy (by omega)) z⟩
      refine upto c.1 (fun x h2 => fr ≤ x ∧ Fb h0 h2 ∧ (∀ b j, b ≠ 8 → b ≠ 9 → (b = 2 → j ≠ 8) → gI h2 b j = gI (sI h 2 9 (nI s.length)) b j) ∧ DR h2 (c.1 + ((c.1 - fr) * (y - 1) + (x - fr)), cpy c.2 fr ((c.1 - fr) * (y - 1) + (x - fr)))) (fun x h2 => L_X5_readClosing_56 d (nI c.1) (nI y) (nI x) h2 Q) ?_ ?_ fr h' hf ⟨Nat.le_refl _, fb, g, by rw [Nat.sub_self, Nat.add_zero]; exact dr⟩
      · rintro x h2 hx ⟨lx, fb2, g2, dr2⟩ ih2
        obtain ⟨d1, d2, d3⟩ := id dr2
        dsimp only at d1 d2 d3
        have hl := cpy_len (fr := fr) (show c.2.length ≤ 200 by omega) ((c.1 - fr) * (y - 1) + (x - fr))
        have ex : gI h2 9 x = nI (pk (gM c.2 x)) := by rw [d2 x (by omega), cpy_lo (by omega) _ x (by omega)]
        obtain ⟨p1, p2⟩ := append_eq (h := h2) (l := (cpy c.2 fr ((c.1 - fr) * (y - 1) + (x - fr))).length) (by omega) d1 (nI (pk (gM c.2 x)))
        refine b_X5_readClosing_56 hL (by rw [fb2.1]; exact e0) _ _ _ ?_
        rw [nI_clamp (by omega), ex, p2, nI_add x 1]
        refine ⟨fun _ => ⟨(inB_iff (by omega)).mpr (by omega), p1, ih2 _ ⟨by omega, ?_⟩⟩, fun z => absurd (nI_lt hx (by omega)) z⟩
        have et : (c.1 - fr) * (y - 1) + (x + 1 - fr) = (c.1 - fr) * (y - 1) + (x - fr) + 1 := by omega
        rw [et]
        have eg : gM (cpy c.2 fr ((c.1 - fr) * (y - 1) + (x - fr))) (fr + ((c.1 - fr) * (y - 1) + (x - fr))) = gM c.2 x ∨ ¬ (cpy c.2 fr ((c.1 - fr) * (y - 1) + (x - fr))).length < 200 := by
          by_cases w : (cpy c.2 fr ((c.1 - fr) * (y - 1) + (x - fr))).length < 200
          · left
            rw [cpy_get (by omega) (by omega) _ _ (by omega) (by omega), el, show fr + ((c.1 - fr) * (y - 1) + (x - fr)) - fr = (x - fr) + (c.1 - fr) * (y - 1) by omega, Nat.add_mul_mod_self_left, Nat.mod_eq_of_lt (by omega), show fr + (x - fr) = x by omega]
          · exact Or.inr w
        generalize (c.1 - fr) * (y - 1) + (x - fr) = t at *
        have es : cpy c.2 fr (t + 1) = if (cpy c.2 fr t).length < 200 then cpy c.2 fr t ++ [gM (cpy c.2 fr t) (fr + t)] else cpy c.2 fr t := rfl
        rw [es]
        by_cases w : (cpy c.2 fr t).length < 200
        · rw [if_pos w, if_pos w]
          have eg := eg.resolve_right (fun k => k w)
          rw [eg]
          refine ⟨⟨fb2.1, fun b j u => by rw [gI_sI_ne (by omega), gI_sI_ne (by omega)]; exact fb2.2 b j u⟩, fun b j k1 k2 k3 => by rw [gI_sI_ne k1, gI_sI_ne k2]; exact g2 b j k1 k2 k3, ?_, fun z hz => ?_, ?_⟩
          · show nI ((cpy c.2 fr t).length + 1) = nI (cpy c.2 fr t ++ [gM c.2 x]).length
            rw [List.length_append, List.length_singleton]
          · have hz : z < (cpy c.2 fr t ++ [gM c.2 x]).length := hz
            rw [List.length_append, List.length_singleton] at hz
            show gI _ 9 z = nI (pk (gM (cpy c.2 fr t ++ [gM c.2 x]) z))
            rw [gM_app, gI_sI_ne (by decide), gI_sI_at]
            by_cases k : z = (cpy c.2 fr t).length
            · rw [if_pos k, if_neg (by omega), if_pos k]
            · rw [if_neg k, if_pos (by omega)]; exact d2 z (by omega)
          · show gI _ 2 8 = nI (if 200 < c.1 + (t + 1) then 1 else 0)
            rw [gI_sI_ne (by decide), gI_sI_ne (by decide), d3, if_neg (by omega), if_neg (by omega)]
        · rw [if_neg w, if_neg w]
          refine ⟨⟨fb2.1, fun b j u => by rw [gI_sI_ne (by omega)]; exact fb2.2 b j u⟩, fun b j k1 k2 k3 => by rw [gI_sI, if_neg (fun q => k3 q.1 q.2)]; exact g2 b j k1 k2 k3, by rw [gI_sI_ne (by decide)]; exact d1, fun z hz => by rw [gI_sI_ne (by decide)]; exact d2 z hz, ?_⟩
          show nI 1 = nI (if 200 < c.1 + (t + 1) then 1 else 0)
          rw [if_pos (by omega)]
      · rintro h2 ⟨lx, fb2, g2, dr2⟩
        refine b_X5_readClosing_56 hL (by rw [fb2.1]; exact e0) _ _ _ ⟨fun z => absurd z (nI_nlt (Nat.le_refl _) (by omega)), fun _ => ?_⟩
        rw [nI_add y 1]
        refine ih h2 ⟨by omega, fb2, g2, ?_⟩
        have e : (c.1 - fr) * (y - 1) + (c.1 - fr) = (c.1 - fr) * (y + 1 - 1) := by rw [← Nat.mul_succ, show (y - 1).succ = y + 1 - 1 by omega]
        rw [e] at dr2
        exact dr2
    · rintro h' ⟨y1, fb, g, dr⟩
      obtain ⟨u1, u2, u3⟩ := x11 h' g
      refine b_X5_readClosing_33 hL (by rw [fb.1]; exact e0) _ _ ?_
      rw [u3, nI_clamp (by omega), u1]
      exact ⟨ib, fun z => absurd z (nI_nlt (Nat.le_refl _) (by omega)), fun _ => Kt h' (base h' _ fb g dr)⟩
  · -- there are too many already
    have el : c.2.length = 200 := by omega
    rw [el] at q8 q9 ⊢
    rw [if_pos (by omega)] at q10
    refine upto rr (fun y h' => 1 ≤ y ∧ Fb h0 h' ∧ (∀ b j, b ≠ 8 → b ≠ 9 → (b = 2 → j ≠ 8) → gI h' b j = gI (sI h 2 9 (nI s.length)) b j) ∧ DR h' c) (fun y h' => L_X5_readClosing_33 d (nI 200) (nI y) h' Q) ?_ ?_ 1 (sI h 2 9 (nI s.length)) h1 ⟨Nat.le_refl _, fb0, fun _ _ _ _ _ => rfl, by rw [gI_sI_ne (by decide), el]; exact q8, fun x hx => by rw [gI_sI_ne (by decide)]; exact q9 x (by omega), by rw [gI_sI_at, if_neg (by decide), if_pos (by omega)]; exact q10⟩
    · rintro y h' hy ⟨y1, fb, g, dr⟩ ih
      obtain ⟨u1, u2, u3⟩ := x11 h' g
      refine b_X5_readClosing_33 hL (by rw [fb.1]; exact e0) _ _ ?_
      rw [u3, nI_clamp (by omega), u1, u2]
      refine ⟨ib, fun _ => ⟨ib, ?_⟩, fun z => absurd (nI_lt hy (by omega)) z⟩
      refine upto 200 (fun x h2 => Fb h0 h2 ∧ (∀ b j, b ≠ 8 → b ≠ 9 → (b = 2 → j ≠ 8) → gI h2 b j = gI (sI h 2 9 (nI s.length)) b j) ∧ DR h2 c) (fun x h2 => L_X5_readClosing_56 d (nI 200) (nI y) (nI x) h2 Q) ?_ ?_ (min fr 200) h' (by omega) ⟨fb, g, dr⟩
      · rintro x h2 hx ⟨fb2, g2, dr2⟩ ih2
        obtain ⟨d1, d2, d3⟩ := id dr2
        obtain ⟨p1, p2⟩ := append_eq (h := h2) (l := 200) (by omega) (by rw [d1, el]) (gI h2 9 x)
        refine b_X5_readClosing_56 hL (by rw [fb2.1]; exact e0) _ _ _ ?_
        rw [nI_clamp (by omega), p2, nI_add x 1, if_neg (by decide)]
        refine ⟨fun _ => ⟨(inB_iff (by omega)).mpr (by omega), p1, ih2 _ ⟨⟨fb2.1, fun b j u => by rw [gI_sI_ne (by omega)]; exact fb2.2 b j u⟩, fun b j k1 k2 k3 => by rw [gI_sI, if_neg (fun q => k3 q.1 q.2)]; exact g2 b j k1 k2 k3, by rw [gI_sI_ne (by decide)]; exact d1, fun z hz => by rw [gI_sI_ne (by decide)]; exact d2 z hz, ?_⟩⟩, fun z => absurd (nI_lt hx (by omega)) z⟩
        rw [if_pos (by omega)]; rfl
      · rintro h2 ⟨fb2, g2, dr2⟩
        refine b_X5_readClosing_56 hL (by rw [fb2.1]; exact e0) _ _ _ ⟨fun z => absurd z (nI_nlt (Nat.le_refl _) (by omega)), fun _ => ?_⟩
        rw [nI_add y 1]
        exact ih h2 ⟨by omega, fb2, g2, dr2⟩
    · rintro h' ⟨y1, fb, g, dr⟩
      obtain ⟨u1, u2, u3⟩ := x11 h' g
      refine b_X5_readClosing_33 hL (by rw [fb.1]; exact e0) _ _ ?_
      rw [u3, nI_clamp (by omega), u1]
      refine ⟨ib, fun z => absurd z (nI_nlt (Nat.le_refl _) (by omega)), fun _ => Kt h' (base h' _ fb g ?_)⟩
      obtain ⟨d1, d2, d3⟩ := dr
      unfold cls1
      rw [cpy_full el]
      refine ⟨d1, d2, ?_⟩
      show gI h' 2 8 = nI (if 200 < c.1 + (c.1 - fr) * (rr - 1) then 1 else 0)
      rw [d3, if_pos (by omega), if_pos (by omega)]
end Reader
