-- THE WHOLE RELATION between both objects
def BK (h : Hp) (j n sl : Nat) (c : List Nat) (u : Cd) : Prop := gI h 62 (316 * j) = nI n ∧ gI h 62 (316 * j + 1) = nI sl ∧ gI h 62 (316 * j + 2) = u.1 ∧ gI h 62 (316 * j + 3) = nI u.2.2.2.2.2.length ∧ gI h 62 (316 * j + 4) = u.2.1 ∧ (∀ s, s < 16 → gI h 62 (316 * j + (10 + s)) = nI (c.getD s 0)) ∧ (∀ s, s < 16 → gI h 62 (316 * j + (26 + s)) = u.2.2.1 s) ∧ (∀ s, s < n → gI h 62 (316 * j + (42 + s)) = nI (u.2.2.2.1.getD s 0)) ∧ ∀ i, i < 256 → gI h 62 (316 * j + (60 + i)) = u.2.2.2.2.1 i
def HC (h : Hp) (k nx : Nat) (us : Nat → Cd) : Prop := k ≤ 6 ∧ nx < 6 ∧ gI h 28 0 = nI k ∧ gI h 28 1 = nI nx ∧ ∀ j, j < k → CC h (30 + 3 * ((nx + 6 - k + j) % 6)) (us j) ∧ gI h (30 + 3 * ((nx + 6 - k + j) % 6)) 3 = nI (us j).2.2.2.2.2.length
def HM (h : Hp) (n sl : Nat) (c : List Nat) (k : Nat) (us : Nat → Cd) : Prop := gI h 59 3 = nI k ∧ ∀ j, j < k → BK h j n sl c (us j)
def HV (n : Nat) (w : Cd) (k : Nat) (us : Nat → Cd) : Prop := (∀ j, j < k → VW n (us j)) ∧ (∀ i j, i ≤ j → j < k → (us i).2.2.2.2.2 <+: (us j).2.2.2.2.2) ∧ ∀ j, j < k → (us j).2.2.2.2.2 <+: w.2.2.2.2.2
def HS (h : Hp) (n sl : Nat) (c : List Nat) (w : Cd) : Prop := ∃ k nx us, HC h k nx us ∧ HM h n sl c k us ∧ HV n w k us
def TP (h : Hp) : Prop := ∃ (L : Nat) (tp : Nat → Nat), L ≤ 400 ∧ gI h 3 0 = nI L ∧ gI h 59 8 = nI L ∧ ∀ i, i < L → tp i < 256 ∧ gI h 7 i = (nI (tp i)).toInt8.toInt32 ∧ gI h 64 i = nI (tp i)
def FL (h : Hp) : Prop := gI h 2 0 = gI h 59 15 ∧ gI h 2 1 = gI h 59 16
def LZ (h : Hp) : Prop := ∀ j, j < 8 → gI h 49 j = 0 ∧ gI h 49 (8 * j) = 0
def k61 (h : Hp) : Hp := (fun b j => if b = 60 then h.1 61 j else h.1 b j, h.2)
theorem gI_k61 (h : Hp) (j : Nat) : gI (k61 h) 60 j = gI h 61 j := rfl
def IM (h : Hp) : Prop := (gR h 1 7 = none ∧ gI h 59 4 = 0) ∨ (gR h 1 7 = some 77 ∧ gI h 59 4 = nI 1 ∧ IsX8 h.2.2 77 ∧ ∃ n sl c q nm sg w, VS n sl c q nm sg w ∧ RC h 77 n sl c q nm sg w ∧ RM (k61 h) n sl c q nm sg w)
def SZ (L : Nat) (h : Hp) : Prop := (gR h 1 7 = none ∧ nxt h = 77 ∧ tot h ≤ L + 100000) ∨ (gR h 1 7 = some 77 ∧ nxt h ≤ 200 ∧ tot h ≤ L + 200000)
def SC (L : Nat) (xs : Nat → Int32) (h : Hp) : Prop := shp h 0 = (0, L) ∧ ∀ j, j < L → gI h 0 j = xs j
def Core (h : Hp) : Prop := ∃ n sl c q nm sg w, VS n sl c q nm sg w ∧ RC h 12 n sl c q nm sg w ∧ RM h n sl c q nm sg w ∧ HS h n sl c w
def Rest (L : Nat) (xs : Nat → Int32) (h : Hp) : Prop := Lay h.2.2 ∧ TP h ∧ FL h ∧ LZ h ∧ IM h ∧ SZ L h ∧ SC L xs h
def Inv (L : Nat) (xs : Nat → Int32) (h : Hp) : Prop := Rest L xs h ∧ Core h
section Tr
variable {h h' : Hp} {n sl : Nat} {c q : List Nat} {nm : Nat → Int32} {sg : Nat → List Mv} {w : Cd}
theorem CC.tr {a : Nat} (k : CC h a w) (g : ∀ b j, a ≤ b → b < a + 3 → gI h' b j = gI h b j) (gj : gJ h' a 0 = gJ h a 0) : CC h' a w := by
  obtain ⟨k1, k2, k3, k4, k5⟩ := k
  refine ⟨by rw [gj]; exact k1, by rw [g _ _ (by omega) (by omega)]; exact k2, by rw [g _ _ (by omega) (by omega)]; exact k3, fun s hs => by rw [g _ _ (by omega) (by omega)]; exact k4 s hs, fun j hj => by rw [g _ _ (by omega) (by omega)]; exact k5 j hj⟩
theorem SG.tr {a : Nat} {s : List Mv} (k : SG h a s) (g : ∀ b j, a ≤ b → b < a + 2 → gI h' b j = gI h b j) : SG h' a s := by
  obtain ⟨k1, k2, k3⟩ := k
  exact ⟨k1, by rw [g _ _ (by omega) (by omega)]; exact k2, fun i hi => by rw [g _ _ (by omega) (by omega)]; exact k3 i hi⟩
theorem CR.tr {a : Nat} {R : List (Nat × Nat)} (k : CR h a R) (g3 : gI h' (a + 3) 3 = gI h (a + 3) 3) (g6 : ∀ j, gI h' (a + 6) j = gI h (a + 6) j) : CR h' a R := by
  obtain ⟨k1, k2, k3⟩ := k
  exact ⟨k1, by rw [g3]; exact k2, fun i hi => by rw [g6]; exact k3 i hi⟩
theorem RC.tr {a : Nat} (r : RC h a n sl c q nm sg w) (g : ∀ b j, a ≤ b → b < a + 16 → b ≠ a + 7 → gI h' b j = gI h b j) (gj : ∀ b j, a ≤ b → b < a + 16 → gJ h' b j = gJ h b j) : RC h' a n sl c q nm sg w := by
  obtain ⟨r1, r2, r3, r4, r5, r6, r7, r8⟩ := r
  refine ⟨by rw [g _ _ (by omega) (by omega) (by omega)]; exact r1, by rw [g _ _ (by omega) (by omega) (by omega)]; exact r2, by rw [gj _ _ (by omega) (by omega)]; exact r3, by rw [gj _ _ (by omega) (by omega)]; exact r4, fun i hi => by rw [g _ _ (by omega) (by omega) (by omega)]; exact r5 i hi, fun k hk => (r6 k hk).tr (fun b j u v => g b j (by omega) (by omega) (by omega)), r7.tr (fun b j u v => g b j (by omega) (by omega) (by omega)) (gj _ _ (by omega) (by omega)), r8.tr (g _ _ (by omega) (by omega) (by omega)) (fun j => g _ _ (by omega) (by omega) (by omega))⟩
theorem MG.tr {a k : Nat} {s : List Mv} (m : MG h a k s) (g : ∀ j, gI h' a j = gI h a j) : MG h' a k s := by
  obtain ⟨m1, m2, m3⟩ := m
  refine ⟨m1, by rw [g]; exact m2, fun i hi => ?_⟩
  rw [g, g, g, g]
  exact m3 i hi
theorem RM.tr (r : RM h n sl c q nm sg w) (g : ∀ j, gI h' 60 j = gI h 60 j) : RM h' n sl c q nm sg w := by
  obtain ⟨r1, r2, r3, r4, r5, r6, r7, r8⟩ := r
  exact ⟨by rw [g]; exact r1, by rw [g]; exact r2, fun s hs => by rw [g]; exact r3 s hs, fun s hs => by rw [g]; exact r4 s hs, fun s hs => by rw [g]; exact r5 s hs, fun k hk => (r6 k hk).tr g, r7.congr (fun j _ => g j), fun s hs => by rw [g]; exact r8 s hs⟩
theorem BK.tr {j : Nat} {u : Cd} (b : BK h j n sl c u) (g : ∀ i, gI h' 62 i = gI h 62 i) : BK h' j n sl c u := by
  obtain ⟨b1, b2, b3, b4, b5, b6, b7, b8, b9⟩ := b
  exact ⟨by rw [g]; exact b1, by rw [g]; exact b2, by rw [g]; exact b3, by rw [g]; exact b4, by rw [g]; exact b5, fun s hs => by rw [g]; exact b6 s hs, fun s hs => by rw [g]; exact b7 s hs, fun s hs => by rw [g]; exact b8 s hs, fun s hs => by rw [g]; exact b9 s hs⟩
theorem HC.tr {k nx : Nat} {us : Nat → Cd} (x : HC h k nx us) (g : ∀ b j, 28 ≤ b → b < 48 → gI h' b j = gI h b j) (gj : ∀ b j, 28 ≤ b → b < 48 → gJ h' b j = gJ h b j) : HC h' k nx us := by
  obtain ⟨k1, k2, k3, k4, k5⟩ := x
  refine ⟨k1, k2, by rw [g _ _ (by omega) (by omega)]; exact k3, by rw [g _ _ (by omega) (by omega)]; exact k4, fun j hj => ?_⟩
  obtain ⟨u3, u4⟩ := k5 j hj
  exact ⟨u3.tr (fun b j x y => g b j (by omega) (by omega)) (gj _ _ (by omega) (by omega)), by rw [g _ _ (by omega) (by omega)]; exact u4⟩
theorem HM.tr {k : Nat} {us : Nat → Cd} (x : HM h n sl c k us) (g62 : ∀ i, gI h' 62 i = gI h 62 i) (g59 : gI h' 59 3 = gI h 59 3) : HM h' n sl c k us := ⟨by rw [g59]; exact x.1, fun j hj => (x.2 j hj).tr g62⟩
theorem HS.tr (k : HS h n sl c w) (g : ∀ b j, 28 ≤ b → b < 48 → gI h' b j = gI h b j) (gj : ∀ b j, 28 ≤ b → b < 48 → gJ h' b j = gJ h b j) (g62 : ∀ i, gI h' 62 i = gI h 62 i) (g59 : gI h' 59 3 = gI h 59 3) : HS h' n sl c w := by
  obtain ⟨k, nx, us, x1, x2, x3⟩ := k
  exact ⟨k, nx, us, x1.tr g gj, x2.tr g62 g59, x3⟩
theorem HS.none (g28 : gI h 28 0 = nI 0) (g59 : gI h 59 3 = nI 0) {nx : Nat} (hn : nx < 6) (g1 : gI h 28 1 = nI nx) : HS h n sl c w := ⟨0, nx, fun _ => w, ⟨by omega, hn, g28, g1, fun j hj => by omega⟩, ⟨g59, fun j hj => by omega⟩, fun j hj => by omega, fun i j _ hj => by omega, fun j hj => by omega⟩
theorem HS.nx (k : HS h n sl c w) : ∃ nx, nx < 6 ∧ gI h 28 1 = nI nx := by
  obtain ⟨k, nx, us, x1, _, _⟩ := k
  exact ⟨nx, x1.2.1, x1.2.2.2.1⟩
theorem TP.tr (t : TP h) (g : ∀ j, gI h' 3 j = gI h 3 j) (g7 : ∀ j, gI h' 7 j = gI h 7 j) (g64 : ∀ j, gI h' 64 j = gI h 64 j) (g59 : gI h' 59 8 = gI h 59 8) : TP h' := by
  obtain ⟨L, tp, t1, t2, t3, t4⟩ := t
  refine ⟨L, tp, t1, by rw [g]; exact t2, by rw [g59]; exact t3, fun i hi => ?_⟩
  rw [g7, g64]
  exact t4 i hi
theorem nxt_e {h h' : Hp} (e : h'.2.2 = h.2.2) : nxt h' = nxt h := by unfold nxt; rw [e]
theorem tot_e {h h' : Hp} (e : h'.2.2 = h.2.2) : tot h' = tot h := by unfold tot; rw [e]
theorem gR_e {h h' : Hp} (e : h'.2.2 = h.2.2) (a k : Nat) : gR h' a k = gR h a k := by unfold gR; rw [e]
theorem shp_e {h h' : Hp} (e : h'.2.2 = h.2.2) (a : Nat) : shp h' a = shp h a := by unfold shp; rw [e]
theorem SZ.tr {L : Nat} (s : SZ L h) (e : h'.2.2 = h.2.2) : SZ L h' := by
  unfold SZ
  rw [nxt_e e, tot_e e, gR_e e]
  exact s
theorem IM.tr (i : IM h) (e : h'.2.2 = h.2.2) (g : ∀ b j, 77 ≤ b → gI h' b j = gI h b j) (gj : ∀ b j, 77 ≤ b → gJ h' b j = gJ h b j) (g61 : ∀ j, gI h' 61 j = gI h 61 j) (g59 : gI h' 59 4 = gI h 59 4) : IM h' := by
  unfold IM
  rw [gR_e e, g59, e]
  rcases i with i | ⟨i1, i2, i3, n, sl, c, q, nm, sg, w, v, rc, rm⟩
  · exact Or.inl i
  · exact Or.inr ⟨i1, i2, i3, n, sl, c, q, nm, sg, w, v, rc.tr (fun b j u _ _ => g b j u) (fun b j u _ => gj b j u), rm.tr (fun j => g61 j)⟩
theorem SC.tr {L : Nat} {xs : Nat → Int32} (s : SC L xs h) (e : h'.2.2 = h.2.2) (g : ∀ j, gI h' 0 j = gI h 0 j) : SC L xs h' := ⟨by rw [shp_e e]; exact s.1, fun j hj => by rw [g]; exact s.2 j hj⟩
theorem Rest.tr {L : Nat} {xs : Nat → Int32} (r : Rest L xs h) (e : h'.2.2 = h.2.2) (g : ∀ b j, (b < 12 ∨ b = 49 ∨ b = 61 ∨ b = 64 ∨ 77 ≤ b) → gI h' b j = gI h b j) (gj : ∀ b j, 77 ≤ b → gJ h' b j = gJ h b j) (g59 : ∀ j, j ≠ 3 → j < 17 → gI h' 59 j = gI h 59 j) : Rest L xs h' := by
  obtain ⟨r1, r2, r3, r4, r5, r6, r7⟩ := r
  refine ⟨by rw [e]; exact r1, r2.tr (fun j => g _ _ (by omega)) (fun j => g _ _ (by omega)) (fun j => g _ _ (by omega)) (g59 _ (by omega) (by omega)), ?_, fun j hj => ?_, r5.tr e (fun b j u => g _ _ (by omega)) gj (fun j => g _ _ (by omega)) (g59 _ (by omega) (by omega)), r6.tr e, r7.tr e (fun j => g _ _ (by omega))⟩
  · unfold FL
    rw [g 2 0 (by omega), g 2 1 (by omega), g59 15 (by omega) (by omega), g59 16 (by omega) (by omega)]
    exact r3
  · rw [g _ _ (by omega), g _ _ (by omega)]
    exact r4 j hj
theorem Core.tr (k : Core h) (g : ∀ b j, ((12 ≤ b ∧ b < 48 ∧ b ≠ 19) ∨ b = 60 ∨ b = 62) → gI h' b j = gI h b j) (gj : ∀ b j, 12 ≤ b → b < 48 → gJ h' b j = gJ h b j) (g59 : gI h' 59 3 = gI h 59 3) : Core h' := by
  obtain ⟨n, sl, c, q, nm, sg, w, v, rc, rm, hs⟩ := k
  exact ⟨n, sl, c, q, nm, sg, w, v, rc.tr (fun b j u v z => g b j (by omega)) (fun b j u v => gj b j (by omega) (by omega)), rm.tr (fun j => g _ _ (by omega)), hs.tr (fun b j u v => g b j (by omega)) (fun b j u v => gj b j (by omega) (by omega)) (fun i => g _ _ (by omega)) g59⟩
theorem Inv.scr {L : Nat} {xs : Nat → Int32} (i : Inv L xs h) (s : Scr h h') : Inv L xs h' := by
  obtain ⟨s1, s2, s3⟩ := s
  refine ⟨i.1.tr s1 (fun b j u => s2 b j (by omega) (by omega) (by omega) (by omega)) (fun b j u => s3 b j (by omega)) (fun j _ u => s2 _ _ (by omega) (by omega) (by omega) (by omega)), i.2.tr (fun b j u => s2 b j (by omega) (by omega) (by omega) (by omega)) (fun b j u v => s3 b j (by omega)) (s2 _ _ (by omega) (by omega) (by omega) (by omega))⟩
end Tr
section Easy
variable {L : Nat} {xs : Nat → Int32} {h : Hp}
theorem w_forget (h : Hp) (b j : Nat) : gI (w_X2_forget h) b j = if b = 28 ∧ j = 0 then nI 0 else gI h b j := rfl
theorem CdM.st {h h' : Hp} {w : Cd} (m : CdM h w) (x : Int32) (e : gI h' 60 2 = x) (g : ∀ j, j ≠ 2 → gI h' 60 j = gI h 60 j) : CdM h' (x, w.2) := by
  obtain ⟨m1, m2, m3, m4, m5, m6, m7⟩ := m
  refine ⟨e, by rw [g _ (by omega)]; exact m2, fun s hs => by rw [g _ (by omega)]; exact m3 s hs, fun j hj => by rw [g _ (by omega)]; exact m4 j hj, m5, by rw [g _ (by omega)]; exact m6, fun i hi => ?_⟩
  rw [g _ (by omega), g _ (by omega)]
  exact m7 i hi
theorem op_state (I : Inv L xs h) (x : Int32) : Op MX10_state MX11_state [.int x] h (Inv L xs) := by
  obtain ⟨R, n, sl, c, q, nm, sg, w, v, rc, rm, hs⟩ := I
  have hL := R.1
  have e1 : gI h 15 1 = gI h 60 2 := (rc.2.2.2.2.2.2.1.2.1).trans rm.2.2.2.2.2.2.1.1.symm
  refine c_X10_state (d := 38) hL rfl x ⟨_, rfl, c_X11_state (d := 39) (h := w_X10_state x h) hL rfl x ⟨?_, ?_⟩⟩
  · show some (Value.int (gI (w_X10_state x h) 60 2)) = some (Value.int (gI h 15 1))
    rw [e1]; rfl
  · have g : ∀ b j, (b = 15 → j ≠ 1) → (b = 28 → j ≠ 0) → (b = 60 → j ≠ 2) → (b = 59 → j ≠ 3) → gI (w_X11_state x (w_X10_state x h)) b j = gI h b j := by
      intro b j f1 f2 f3 f4
      unfold w_X11_state w_X10_state
      rw [gI_sI, if_neg (fun z => f4 z.1 z.2), gI_sI, if_neg (fun z => f3 z.1 z.2), w_forget, if_neg (fun z => f2 z.1 z.2), gI_sI, if_neg (fun z => f1 z.1 z.2)]
    refine ⟨R.tr rfl (fun b j u => g b j (by omega) (by omega) (by omega) (by omega)) (fun _ _ _ => rfl) (fun j u _ => g _ _ (by omega) (by omega) (by omega) (fun _ => u)), n, sl, c, q, nm, sg, (x, w.2), v, ?_, ?_, ?_⟩
    · obtain ⟨r1, r2, r3, r4, r5, r6, ⟨k1, k2, k3, k4, k5⟩, r8⟩ := rc
      refine ⟨by rw [g _ _ (by omega) (by omega) (by omega) (by omega)]; exact r1, by rw [g _ _ (by omega) (by omega) (by omega) (by omega)]; exact r2, r3, r4, fun i hi => by rw [g _ _ (by omega) (by omega) (by omega) (by omega)]; exact r5 i hi, fun k hk => (r6 k hk).tr (fun b j u v => g b j (by omega) (by omega) (by omega) (by omega)), ⟨k1, rfl, ?_, fun s hs => by rw [g _ _ (by omega) (by omega) (by omega) (by omega)]; exact k4 s hs, fun s hs => by rw [g _ _ (by omega) (by omega) (by omega) (by omega)]; exact k5 s hs⟩, r8.tr (g _ _ (by omega) (by omega) (by omega) (by omega)) (fun j => g _ _ (by omega) (by omega) (by omega) (by omega))⟩
      rw [g _ _ (by omega) (by omega) (by omega) (by omega)]
      exact k3
    · obtain ⟨r1, r2, r3, r4, r5, r6, r7, r8⟩ := rm
      refine ⟨by rw [g _ _ (by omega) (by omega) (by omega) (by omega)]; exact r1, by rw [g _ _ (by omega) (by omega) (by omega) (by omega)]; exact r2, fun s hs => by rw [g _ _ (by omega) (by omega) (by omega) (by omega)]; exact r3 s hs, fun s hs => by rw [g _ _ (by omega) (by omega) (by omega) (by omega)]; exact r4 s hs, fun s hs => by rw [g _ _ (by omega) (by omega) (by omega) (by omega)]; exact r5 s hs, fun k hk => ?_, r7.st x rfl (fun j hj => g _ _ (by omega) (by omega) (by omega) (by omega)), fun s hs => by rw [g _ _ (by omega) (by omega) (by omega) (by omega)]; exact r8 s hs⟩
      obtain ⟨a1, a2, a3⟩ := r6 k hk
      refine ⟨a1, by rw [g _ _ (by omega) (by omega) (by omega) (by omega)]; exact a2, fun i hi => ?_⟩
      rw [g _ _ (by omega) (by omega) (by omega) (by omega), g _ _ (by omega) (by omega) (by omega) (by omega), g _ _ (by omega) (by omega) (by omega) (by omega), g _ _ (by omega) (by omega) (by omega) (by omega)]
      exact a3 i hi
    · obtain ⟨nx, u1, u2⟩ := hs.nx
      exact HS.none rfl rfl u1 u2
/-- the model's row but for one part of it -/
theorem MG.tr2 {h h' : Hp} {k : Nat} {s : List Mv} (m : MG h 60 k s) (g : ∀ j, 975 ≤ j → gI h' 60 j = gI h 60 j) : MG h' 60 k s := by
  obtain ⟨m1, m2, m3⟩ := m
  refine ⟨m1, by rw [g _ (by omega)]; exact m2, fun i hi => ?_⟩
  rw [g _ (by omega), g _ (by omega), g _ (by omega), g _ (by omega)]
  exact m3 i hi
theorem cls3 (x : Int32) : (r_X10_isColour x = true) ↔ r_X11_isIn x (nI 0) (nI 9) = true := by
  rw [isColC_iff, isIn_iff (by decide)]
  exact ⟨fun ⟨v, a, b⟩ => ⟨v, by omega, b⟩, fun ⟨v, a, b⟩ => ⟨v, by omega, b⟩⟩
theorem VL_set {n : Nat} {c : List Nat} (v : VL n c) {s x : Nat} (hs : s < n) (h16 : n ≤ 16) (hx : x < 10) : VL n (c.set s x) := by
  obtain ⟨v1, v2, v3⟩ := v
  refine ⟨by rw [List.length_set]; exact v1, fun i => ?_, fun i hi => ?_⟩
  · rw [set_get (by omega)]
    split
    · exact hx
    · exact v2 i
  · rw [set_get (by omega), if_neg (by omega)]
    exact v3 i hi
theorem op_colour (I : Inv L xs h) (x y : Int32) : Op MX10_colour MX11_colour [.int x, .int y] h (Inv L xs) := by
  obtain ⟨R, n, sl, c, q, nm, sg, w, v, rc, rm, hs⟩ := id I
  have hL := R.1
  obtain ⟨⟨v1, v2⟩, v3, v4, v5, v6, v7, v8⟩ := id v
  have sC := isSlotC_iff (x := x) rc.1 v2
  have sM := isSlotM_iff (x := x) rm.1 (by omega) v2
  have iC := isColC_iff (x := y)
  have iM := (cls3 y).symm.trans iC
  have no : ¬ ((∃ v, v < n ∧ x = nI v) ∧ ∃ v, v < 10 ∧ y = nI v) → Op MX10_colour MX11_colour [.int x, .int y] h (Inv L xs) := by
    intro z
    have eC : r_X10_colour x y h = false ∧ w_X10_colour x y h = h := by
      unfold r_X10_colour w_X10_colour
      by_cases z1 : r_X10_isSlot x h = true
      · have z2 : ¬ r_X10_isColour y = true := fun k => z ⟨sC.mp z1, iC.mp k⟩
        rw [if_pos z1, if_pos z1, if_neg z2, if_neg z2]; exact ⟨rfl, rfl⟩
      · rw [if_neg z1, if_neg z1]; exact ⟨rfl, rfl⟩
    have eM : p_X11_colour x y h ∧ r_X11_colour x y h = false ∧ w_X11_colour x y h = h := by
      unfold r_X11_colour w_X11_colour p_X11_colour
      by_cases z1 : r_X11_isSlot x h = true
      · have z2 : ¬ r_X11_isIn y (nI 0) (nI 9) = true := fun k => z ⟨sM.mp z1, iM.mp k⟩
        rw [if_pos z1, if_pos z1, if_neg z2, if_neg z2]; exact ⟨⟨fun _ => ⟨fun k => absurd k z2, fun _ => trivial⟩, fun _ => trivial⟩, rfl, rfl⟩
      · rw [if_neg z1, if_neg z1]; exact ⟨⟨fun k => absurd k z1, fun _ => trivial⟩, rfl, rfl⟩
    refine c_X10_colour (d := 38) hL rfl x y ⟨_, rfl, ?_⟩
    rw [eC.2, eC.1]
    refine c_X11_colour (d := 37) hL rfl x y eM.1 ⟨?_, ?_⟩
    · rw [eM.2.1]
    · rw [eM.2.2]; exact I
  by_cases z1 : ∃ v, v < n ∧ x = nI v
  · by_cases z2 : ∃ v, v < 10 ∧ y = nI v
    · obtain ⟨s, hs', e1⟩ := id z1
      obtain ⟨k, hk, e2⟩ := id z2
      have eC : r_X10_colour x y h = true ∧ w_X10_colour x y h = w_X2_forget (sJ h 12 2 (lN (enc (c.set s k)))) := by
        unfold r_X10_colour w_X10_colour
        rw [if_pos (sC.mpr z1), if_pos (iC.mpr z2), if_pos (sC.mpr z1), if_pos (iC.mpr z2), rc.2.2.1, e1, e2, with_enc (VL_sm v4) (by have := v4.1; omega) (by have := v4.1; omega) (by omega)]
        exact ⟨rfl, rfl⟩
      have sM2 : r_X11_isSlot x (w_X10_colour x y h) = true := by rw [eC.2]; exact sM.mpr z1
      have ea : (nI 10 + x).toNatClampNeg = 10 + s := by rw [e1, nI_add, nI_clamp (by omega)]
      refine c_X10_colour (d := 38) hL rfl x y ⟨_, rfl, c_X11_colour (d := 37) (h := w_X10_colour x y h) (by rw [eC.2]; exact hL) rfl x y ⟨fun _ => ⟨fun _ => ⟨?_, trivial⟩, fun _ => trivial⟩, fun k => absurd sM2 k⟩ ⟨?_, ?_⟩⟩
      · rw [e1, nI_add]; exact (inB_iff (by omega)).mpr (by omega)
      · unfold r_X11_colour
        rw [if_pos sM2, if_pos (iM.mpr z2), eC.1]
      · have ew : w_X11_colour x y (w_X10_colour x y h) = sI (sI (w_X2_forget (sJ h 12 2 (lN (enc (c.set s k))))) 60 (10 + s) y) 59 3 (nI 0) := by
          unfold w_X11_colour
          rw [if_pos sM2, if_pos (iM.mpr z2), ea, eC.2]
        rw [ew]
        have g : ∀ b j, (b = 28 → j ≠ 0) → (b = 60 → j ≠ 10 + s) → (b = 59 → j ≠ 3) → gI (sI (sI (w_X2_forget (sJ h 12 2 (lN (enc (c.set s k))))) 60 (10 + s) y) 59 3 (nI 0)) b j = gI h b j := by
          intro b j f2 f3 f4
          rw [gI_sI, if_neg (fun z => f4 z.1 z.2), gI_sI, if_neg (fun z => f3 z.1 z.2), w_forget, if_neg (fun z => f2 z.1 z.2), gI_sJ]
        have gj : ∀ b j, ¬ (b = 12 ∧ j = 2) → gJ (sI (sI (w_X2_forget (sJ h 12 2 (lN (enc (c.set s k))))) 60 (10 + s) y) 59 3 (nI 0)) b j = gJ h b j := by
          intro b j f
          show gJ (sJ h 12 2 (lN (enc (c.set s k)))) b j = _
          rw [gJ_sJ, if_neg f]
        have gc : gI (sI (sI (w_X2_forget (sJ h 12 2 (lN (enc (c.set s k))))) 60 (10 + s) y) 59 3 (nI 0)) 60 (10 + s) = y := by
          rw [gI_sI_ne (by decide), gI_sI_at, if_pos rfl]
        have g0 : gI (sI (sI (w_X2_forget (sJ h 12 2 (lN (enc (c.set s k))))) 60 (10 + s) y) 59 3 (nI 0)) 28 0 = nI 0 := rfl
        have g1 : gI (sI (sI (w_X2_forget (sJ h 12 2 (lN (enc (c.set s k))))) 60 (10 + s) y) 59 3 (nI 0)) 59 3 = nI 0 := rfl
        have gd : gJ (sI (sI (w_X2_forget (sJ h 12 2 (lN (enc (c.set s k))))) 60 (10 + s) y) 59 3 (nI 0)) 12 2 = lN (enc (c.set s k)) := rfl
        have gt : (sI (sI (w_X2_forget (sJ h 12 2 (lN (enc (c.set s k))))) 60 (10 + s) y) 59 3 (nI 0)).2.2 = h.2.2 := rfl
        generalize sI (sI (w_X2_forget (sJ h 12 2 (lN (enc (c.set s k))))) 60 (10 + s) y) 59 3 (nI 0) = hh at *
        refine ⟨R.tr gt (fun b j u => g b j (by omega) (by omega) (by omega)) (fun b j u => gj _ _ (by omega)) (fun j u _ => g _ _ (by omega) (by omega) (fun _ => u)), n, sl, c.set s k, q, nm, sg, w, ⟨⟨v1, v2⟩, v3, VL_set v4 hs' v2 hk, v5, v6, v7, v8⟩, ?_, ?_, ?_⟩
        · obtain ⟨r1, r2, r3, r4, r5, r6, r7, r8⟩ := rc
          refine ⟨by rw [g _ _ (by omega) (by omega) (by omega)]; exact r1, by rw [g _ _ (by omega) (by omega) (by omega)]; exact r2, gd, by rw [gj _ _ (by omega)]; exact r4, fun i hi => by rw [g _ _ (by omega) (by omega) (by omega)]; exact r5 i hi, fun k hk => (r6 k hk).tr (fun b j u v => g b j (by omega) (by omega) (by omega)), r7.tr (fun b j u v => g b j (by omega) (by omega) (by omega)) (gj _ _ (by omega)), r8.tr (g _ _ (by omega) (by omega) (by omega)) (fun j => g _ _ (by omega) (by omega) (by omega))⟩
        · obtain ⟨r1, r2, r3, r4, r5, r6, r7, r8⟩ := rm
          refine ⟨by rw [g _ _ (by omega) (by omega) (by omega)]; exact r1, by rw [g _ _ (by omega) (by omega) (by omega)]; exact r2, fun t ht => ?_, fun s hs => by rw [g _ _ (by omega) (by omega) (by omega)]; exact r4 s hs, fun s hs => by rw [g _ _ (by omega) (by omega) (by omega)]; exact r5 s hs, fun k hk => (r6 k hk).tr2 (fun j hj => g _ _ (by omega) (by omega) (by omega)), r7.congr (fun j hj => g _ _ (by omega) (by unfold tch at hj; omega) (by omega)), fun t ht => by have := v8.1.1; rw [g _ _ (by omega) (by omega) (by omega)]; exact r8 t ht⟩
          rw [set_get (by have := v4.1; omega)]
          by_cases k2 : t = s
          · rw [if_pos k2, k2, gc, e2]
          · rw [if_neg k2, g _ _ (by omega) (by omega) (by omega)]; exact r3 t ht
        · obtain ⟨nx, u1, u2⟩ := hs.nx
          exact HS.none g0 g1 u1 (by rw [g _ _ (by omega) (by omega) (by omega)]; exact u2)
    · exact no (fun k => z2 k.2)
  · exact no (fun k => z1 k.1)
end Easy
