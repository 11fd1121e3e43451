-- the model's moves and singings
def dm : Mv := (0, 0, 0, 0)
def gM (s : List Mv) (i : Nat) : Mv := s.getD i dm
theorem gM_mem {s : List Mv} {i : Nat} (hi : i < s.length) : gM s i ∈ s := by
  unfold gM
  rw [List.getD_eq_getElem?_getD, List.getElem?_eq_getElem hi]
  exact List.getElem_mem hi
theorem take_succ_gM {s : List Mv} {i : Nat} (hi : i < s.length) : s.take (i + 1) = s.take i ++ [gM s i] := by
  unfold gM
  rw [List.getD_eq_getElem?_getD, List.take_succ, List.getElem?_eq_getElem hi]
  rfl
/-- song k of the row w (of the model's shape) is s -/
def MG (h : Hp) (w k : Nat) (s : List Mv) : Prop := s.length ≤ 200 ∧ gI h w (975 + k) = nI s.length ∧ ∀ i, i < s.length → gI h w (980 + 800 * k + 4 * i) = nI (gM s i).1 ∧ gI h w (980 + 800 * k + 4 * i + 1) = nI (gM s i).2.1 ∧ gI h w (980 + 800 * k + 4 * i + 2) = nI (gM s i).2.2.1 ∧ gI h w (980 + 800 * k + 4 * i + 3) = nI (gM s i).2.2.2 - nI 1
def MC (h : Hp) (w : Nat) (c : List Nat) : Prop := ∀ s, s < 16 → gI h w (10 + s) = nI (c.getD s 0)
theorem ofMove_eq {k i f : Nat} (hk : k < 4) (hi : i < 200) (hf : f < 4) (h : Hp) : p_X11_ofMove (nI k) (nI i) (nI f) h ∧ r_X11_ofMove (nI k) (nI i) (nI f) h = gI h 60 (980 + 800 * k + 4 * i + f) := by
  unfold p_X11_ofMove r_X11_ofMove
  simp (disch := omega) only [nI_add, pk_mul, pk_sub, nI_clamp, nI_ltI, nI_leI, nI_eq, irem_nI, inB_iff, nI_lt0, nI_eq0, nI_gt0]
  refine ⟨⟨by omega, trivial⟩, ?_⟩
  congr 1
  omega
def mir (n : Nat) (m : Mv) : Mv := if m.1 = 2 then (2, (n - m.2.1 % n) % n, 0, 0) else (m.1, n - 1 - m.2.1, n - 1 - m.2.2.1, m.2.2.2)
theorem mir_ok {n : Nat} {m : Mv} (h : mvN n m) (hn : 0 < n) (h16 : n ≤ 16) : mvN n (mir n m) := by
  obtain ⟨h1, h2, h3, h4⟩ := h
  unfold mir
  split
  · rename_i q
    have : (n - m.2.1 % n) % n < n := Nat.mod_lt _ hn
    exact ⟨Nat.le_refl _, Nat.zero_le _, fun z => absurd z (by show ¬ (2 < 2); decide), fun _ => ⟨by show (n - m.2.1 % n) % n < 16; omega, rfl, rfl⟩⟩
  · rename_i q
    have := h3 (by omega)
    exact ⟨h1, h2, fun _ => ⟨by show n - 1 - m.2.1 < n; omega, by show n - 1 - m.2.2.1 < n; omega⟩, fun z => absurd z q⟩
def passM (l : List Nat) (m : Mv) (y : Nat) : Prop := (m.1 = 0 ∧ passed l m.2.1 m.2.2.1 y) ∨ (m.1 ≠ 0 ∧ m.2.1 ≠ m.2.2.1 ∧ y = l.getD m.2.2.1 0)
section MMoves
variable {d : Nat} {T : HT} {h : Hp} {Q : Option Value → Hp → Prop}
theorem OvC.congr {h h' : Hp} {x c : Nat} {Y Z : Nat → Prop} (o : OvC h h' x Y c) (e : ∀ y, Y y ↔ Z y) : OvC h h' x Z c := ⟨o.1, fun u y hu hy => ⟨fun q => (o.2 u y hu hy).1 ⟨q.1, (e y).mpr q.2⟩, fun q => (o.2 u y hu hy).2 (fun z => q ⟨z.1, (e y).mp z.2⟩)⟩⟩
/-- a lift or swap that is made -/
theorem s_moves_153 (hL : Lay T) (eT : h.2.2 = T) {l : List Nat} (hs : MS h l) (hsm : sm l) (hnd : nd l) (h16 : l.length ≤ 16) {m : Mv} (hm : mvN l.length m) (h2 : m.1 ≠ 2) {ct : Nat} (hct : ct < 2) (x : Int32)
    (K : ∀ h' : Hp, h'.2 = h.2 → (∀ x j, x ≠ 60 → x ≠ 65 → gI h' x j = gI h x j) → MS h' (mk1 l m) → OvC h h' (l.getD m.2.1 0) (passM l m) ct → Q (some (.int x)) h') : L_X11_moves_153 d (nI ct) (nI m.1) (nI m.2.1) (nI m.2.2.1) x h Q := by
  have hab := hm.2.2.1 (by have := hm.1; omega)
  refine b_X11_moves_153 hL eT _ _ _ _ _ ?_
  by_cases q : m.1 = 0
  · rw [q]
    refine ⟨fun _ => s_lifts (d := d) hL eT hs hsm hnd h16 hab.1 hab.2 hct (fun h' e2 g1 g2 g3 => ⟨rfl, e2T e2 eT, K h' e2 (fun x j h1 h2 => g1 x j h2 h1) ?_ ?_⟩), fun z => absurd rfl z⟩
    · unfold mk1; rw [if_neg (by omega), if_pos q]; exact g2
    · exact g3.congr (fun y => ⟨fun z => Or.inl ⟨q, z⟩, fun z => z.elim (fun w => w.2) (fun w => absurd q w.1)⟩)
  · obtain ⟨p1, p2, p3, p4, p5⟩ := swaps_eq hs hsm hnd h16 hab.1 hab.2 hct
    refine ⟨fun z => absurd ((nI_eq0 (by have := hm.1; omega)).mp z) q, fun _ => ⟨p1, K _ p2 (fun x j h1 h2 => p3 x j h2 h1) ?_ ?_⟩⟩
    · unfold mk1; rw [if_neg h2, if_neg q]; exact p4
    · exact p5.congr (fun y => ⟨fun z => Or.inr ⟨q, z⟩, fun z => z.elim (fun w => absurd w.1 q) (fun w => w.2)⟩)
theorem s_moves_100 (hL : Lay T) (eT : h.2.2 = T) {l c : List Nat} (hs : MS h l) (hC : MC h 60 c) (hcs : sm c) (hsm : sm l) (hnd : nd l) (h16 : l.length ≤ 16) {k i : Nat} (hk : k < 4) (hi : i < 200) {m : Mv} (hm : mvN l.length m) (h2 : m.1 ≠ 2) (ha3 : gI h 60 (980 + 800 * k + 4 * i + 3) = nI m.2.2.2 - nI 1) {ak ct dr : Nat} (hct : ct < 2) {x5 : Int32} (hx5 : ∀ v, v < 16 → (nI v = x5 ↔ v = dr)) (hak : ak < 2)
    (Kn : (l.getD m.2.1 0 = dr ∨ (ak = 1 ∧ ¬ fits1 l c m = true)) → Q (some (.int (-1))) h)
    (Km : l.getD m.2.1 0 ≠ dr → (ak = 1 → fits1 l c m = true) → ∀ h' : Hp, h'.2 = h.2 → (∀ x j, x ≠ 60 → x ≠ 65 → gI h' x j = gI h x j) → MS h' (mk1 l m) → OvC h h' (l.getD m.2.1 0) (passM l m) ct → Q (some (.int (nI (l.getD m.2.1 0)))) h') : L_X11_moves_100 d (nI k) (nI i) (nI ak) x5 (nI ct) (nI m.1) (nI m.2.1) (nI m.2.2.1) h Q := by
  have hab := hm.2.2.1 (by have := hm.1; omega)
  have hx := sm_getD hsm m.2.1
  have hcx := sm_getD hcs (l.getD m.2.1 0)
  obtain ⟨p1, p2⟩ := ofMove_eq (f := 3) hk hi (by decide) h
  refine b_X11_moves_100 hL eT _ _ _ _ _ _ _ _ ?_
  rw [p2, ha3, nI_clamp (by omega), hs _ hab.1, nI_add, nI_clamp (by omega), hC _ hx]
  refine ⟨(inB_iff (by omega)).mpr (by omega), p1, fun q => Kn (Or.inl ((hx5 _ hx).mp q)), fun q => ?_⟩
  have hne : l.getD m.2.1 0 ≠ dr := fun z => q ((hx5 _ hx).mpr z)
  have mk := fun (hf : ak = 1 → fits1 l c m = true) => s_moves_153 (d := d) hL eT hs hsm hnd h16 hm h2 hct (nI (l.getD m.2.1 0)) (Km hne hf)
  refine ⟨fun z => mk (fun w => absurd ((nI_eq0 (by omega)).mp z) (by omega)), fun z => ⟨fun w => mk (fun _ => ?_), fun w => ⟨(inB_iff (by omega)).mpr (by omega), fun v => mk (fun _ => ?_), fun v => Kn (Or.inr ⟨?_, ?_⟩)⟩⟩⟩
  · unfold fits1
    rw [decide_eq_true ((ask_m1 hm.2.1).mp w), Bool.true_or]
  · have h0 : m.2.2.2 ≠ 0 := fun u => w ((ask_m1 hm.2.1).mpr u)
    have h10 := hm.2.1
    rw [pk_sub (by omega)] at v
    have := nI_inj (by omega) (by omega) v
    unfold fits1
    rw [decide_eq_true (show c.getD (l.getD m.2.1 0) 0 + 1 = m.2.2.2 by omega), Bool.or_true]
  · have : ¬ ak = 0 := fun u => z (by rw [u]; rfl)
    omega
  · have h0 : m.2.2.2 ≠ 0 := fun u => w ((ask_m1 hm.2.1).mpr u)
    have h10 := hm.2.1
    intro u
    unfold fits1 at u
    rw [decide_eq_false h0, Bool.false_or, decide_eq_true_iff] at u
    apply v
    rw [pk_sub (by omega), ← u]
    rfl
theorem s_moves (hL : Lay T) (eT : h.2.2 = T) {l c : List Nat} (hn : gI h 60 0 = nI l.length) (h0 : 0 < l.length) (hs : MS h l) (hC : MC h 60 c) (hcs : sm c) (hsm : sm l) (hnd : nd l) (h16 : l.length ≤ 16) {k i : Nat} (hk : k < 4) {s : List Mv} (hG : MG h 60 k s) (hN : sgN l.length s) (hi : i < s.length) {mi ak ct dr : Nat} (hmi : mi < 2) (hct : ct < 2) {x5 : Int32} (hx5 : ∀ v, v < 16 → (nI v = x5 ↔ v = dr)) (hak : ak < 2) {m : Mv} (em : m = if mi = 1 then mir l.length (gM s i) else gM s i)
    (Kt : m.1 = 2 → ∀ h' : Hp, h'.2 = h.2 → (∀ x j, x ≠ 65 → x ≠ 66 → gI h' x j = gI h x j) → MS h' (mk1 l m) → Q (some (.int (-1))) h')
    (Kn : m.1 ≠ 2 → (l.getD m.2.1 0 = dr ∨ (ak = 1 ∧ ¬ fits1 l c m = true)) → Q (some (.int (-1))) h)
    (Km : m.1 ≠ 2 → l.getD m.2.1 0 ≠ dr → (ak = 1 → fits1 l c m = true) → ∀ h' : Hp, h'.2 = h.2 → (∀ x j, x ≠ 60 → x ≠ 65 → gI h' x j = gI h x j) → MS h' (mk1 l m) → OvC h h' (l.getD m.2.1 0) (passM l m) ct → Q (some (.int (nI (l.getD m.2.1 0)))) h') : Call (d + 2) MX11_moves [.ref 59, .int (nI k), .int (nI i), .int (nI mi), .int (nI ak), .int x5, .int (nI ct)] h Q := by
  have h200 := hG.1
  obtain ⟨f0, f1, f2, f3⟩ := hG.2.2 i hi
  have hm0 := hN _ (gM_mem hi)
  obtain ⟨b1, b2, b3, b4, b5⟩ := mv_b hm0 h16
  obtain ⟨p0, q0⟩ := ofMove_eq (f := 0) hk (show i < 200 by omega) (by decide) h
  obtain ⟨p1, q1⟩ := ofMove_eq (f := 1) hk (show i < 200 by omega) (by decide) h
  obtain ⟨p2, q2⟩ := ofMove_eq (f := 2) hk (show i < 200 by omega) (by decide) h
  have hml : (gM s i).2.1 % l.length < l.length := Nat.mod_lt _ h0
  refine b_X11_moves hL eT _ _ _ _ _ _ ?_
  rw [q0, q1, q2, Nat.add_zero, f0, f1, f2, hn, irem_nI (by omega) h0 (by omega), pk_sub (by omega), irem_nI (by omega) h0 (by omega), pk_sub (by omega)]
  refine ⟨p0, p1, fun q => ?_, fun q => ⟨p2, fun z => ?_, fun z => ?_⟩⟩
  · have q : (gM s i).1 = 2 := nI_inj (by omega) (by omega) q
    refine ⟨fun z => ⟨fun w => by have := (nI_eq0 (by omega)).mp w; omega, ?_⟩, fun z => ⟨fun w => by have := (nI_eq0 (by omega)).mp w; omega, fun w => by have := (nI_eq0 (by omega)).mp w; omega, ?_⟩⟩
    · have hz : mi = 0 := (nI_eq0 (by omega)).mp z
      rw [hz, if_neg (by decide)] at em
      subst em
      refine s_turns (d := d + 1) hL eT hn hs h0 h16 hml (fun h' e2 g1 g2 => ⟨rfl, e2T e2 eT, Kt q h' e2 g1 ?_⟩)
      unfold mk1; rw [if_pos q]; exact g2
    · have hz : mi = 1 := by have : ¬ mi = 0 := fun w => z (by rw [w]; rfl)
                             omega
      rw [hz, if_pos rfl] at em
      have e1 : m = (2, (l.length - (gM s i).2.1 % l.length) % l.length, 0, 0) := by rw [em]; unfold mir; rw [if_pos q]
      refine s_turns (d := d + 1) hL eT hn hs h0 h16 (Nat.mod_lt _ h0) (fun h' e2 g1 g2 => ⟨rfl, e2T e2 eT, Kt (by rw [e1]) h' e2 g1 ?_⟩)
      unfold mk1
      rw [e1, if_pos rfl]
      rw [Nat.mod_mod]
      exact g2
  · have q : (gM s i).1 ≠ 2 := fun w => q (by rw [w])
    have hz : mi = 0 := (nI_eq0 (by omega)).mp z
    rw [hz, if_neg (by decide)] at em
    subst em
    exact s_moves_100 hL eT hs hC hcs hsm hnd h16 hk (by omega) hm0 q f3 hct hx5 hak (Kn q) (Km q)
  · have q : (gM s i).1 ≠ 2 := fun w => q (by rw [w])
    have hz : mi = 1 := by have : ¬ mi = 0 := fun w => z (by rw [w]; rfl)
                           omega
    rw [hz, if_pos rfl] at em
    have e1 : m = ((gM s i).1, l.length - 1 - (gM s i).2.1, l.length - 1 - (gM s i).2.2.1, (gM s i).2.2.2) := by rw [em]; unfold mir; rw [if_neg q]
    have hm' : mvN l.length m := by rw [em]; exact mir_ok hm0 h0 h16
    have hab := hm0.2.2.1 (by have := hm0.1; omega)
    rw [pk_sub (by omega), pk_sub (by omega)]
    have := s_moves_100 (d := d) (Q := Q) hL eT hs hC hcs hsm hnd h16 hk (show i < 200 by omega) hm' (by rw [e1]; exact q) (by rw [e1]; exact f3) hct hx5 hak (Kn (by rw [e1]; exact q)) (Km (by rw [e1]; exact q))
    rw [e1] at this
    exact this
end MMoves
