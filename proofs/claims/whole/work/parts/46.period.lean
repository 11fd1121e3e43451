-- after how many rows the outside comes again
def prt (y : Nat) (p : Nat × Nat) : Nat := if y = 0 then p.1 else p.2
def agn (R : List (Nat × Nat)) (y p : Nat) : Prop := ∀ i, i + p < R.length → prt y (gQ R i) = prt y (gQ R (i + p))
def Per (R : List (Nat × Nat)) (y : Nat) (r : Int32) : Prop := ∃ m, r = nI m ∧ ((R.length = 0 ∧ m = 0) ∨ (1 ≤ m ∧ m ≤ R.length ∧ agn R y m ∧ ∀ j, 1 ≤ j → j < m → ¬ agn R y j))
theorem Per_uniq {R : List (Nat × Nat)} {y : Nat} {r r' : Int32} (a : Per R y r) (b : Per R y r') : r' = r := by
  obtain ⟨m, rfl, a⟩ := a
  obtain ⟨k, rfl, b⟩ := b
  rcases a with ⟨a1, a2⟩ | ⟨a1, a2, a3, a4⟩
  · rcases b with ⟨b1, b2⟩ | ⟨b1, b2, b3, b4⟩
    · rw [a2, b2]
    · omega
  · rcases b with ⟨b1, b2⟩ | ⟨b1, b2, b3, b4⟩
    · omega
    · have : m = k := by
        rcases Nat.lt_trichotomy m k with u | u | u
        · exact absurd a3 (b4 m a1 u)
        · exact u
        · exact absurd b3 (a4 k b1 u)
      rw [this]
section Period
variable {d : Nat} {T : HT} {h : Hp} {Q : Option Value → Hp → Prop} {R : List (Nat × Nat)}
theorem rowPart_eq {y i : Nat} (hR : CR h 12 R) (hi : i < R.length) (hy : y ≤ 1) : p_X8_rowPart 12 (nI i) (nI y) h ∧ r_X8_rowPart 12 (nI i) (nI y) h = nI (prt y (gQ R i)) := by
  obtain ⟨r1, r2, r3⟩ := hR
  obtain ⟨⟨q1, q2⟩, r3⟩ := r3 i hi
  have ib : inB (nI i) 300 = true := (inB_iff (by omega)).mpr (by omega)
  refine ⟨⟨fun _ => ⟨ib, trivial⟩, fun _ => ⟨ib, trivial⟩⟩, ?_⟩
  unfold r_X8_rowPart prt
  rw [nI_clamp (by omega), r3, and15, shr4 q1 q2]
  by_cases z : y = 0
  · rw [if_pos (by rw [z]; rfl), if_pos z]
    congr 1
    omega
  · rw [if_neg (fun k => z ((nI_eq0 (by omega)).mp k)), if_neg z]
theorem prt_lt {y i : Nat} (hR : CR h 12 R) (hi : i < R.length) : prt y (gQ R i) < 16 := by
  obtain ⟨⟨q1, q2⟩, _⟩ := hR.2.2 i hi
  unfold prt
  split <;> assumption
theorem s_rowsCome (hL : Lay T) (eT : h.2.2 = T) (hR : CR h 12 R) {p y : Nat} (hp : p ≤ R.length) (hy : y ≤ 1) (K : ∀ r : Bool, (r = true ↔ agn R y p) → Q (some (.int (b2i r))) h) : Call (d + 1) MX8_rowsComeAgain [.ref 12, .int (nI p), .int (nI y)] h Q := by
  have h300 := hR.1
  refine b_X8_rowsComeAgain hL eT _ _ _ (isX8_12 hL) ?_
  refine upto (R.length - p) (fun i h1 => h1 = h ∧ ∀ j, j < i → prt y (gQ R j) = prt y (gQ R (j + p))) (fun i h1 => L_X8_rowsComeAgain_2 d 12 (nI p) (nI y) (nI i) h1 Q) ?_ ?_ 0 h (Nat.zero_le _) ⟨rfl, fun j hj => by omega⟩
  · rintro i h1 hi ⟨rfl, al⟩ ih
    refine b_X8_rowsComeAgain_2 hL eT _ _ _ _ (isX8_12 hL) ?_
    obtain ⟨p1, p2⟩ := rowPart_eq (i := i) hR (by omega) hy
    obtain ⟨p3, p4⟩ := rowPart_eq (i := i + p) hR (by omega) hy
    have l1 := prt_lt (y := y) (i := i) hR (by omega)
    have l2 := prt_lt (y := y) (i := i + p) hR (by omega)
    rw [hR.2.1, nI_add, p2, p4, nI_add]
    refine ⟨fun _ => ⟨p1, p3, fun z => ih _ ⟨rfl, fun j hj => ?_⟩, fun z => K false ⟨fun k => absurd k (by decide), fun k => absurd (by rw [k i (by omega)]) z⟩⟩, fun z => absurd (nI_lt (by omega) (by omega)) z⟩
    by_cases v : j = i
    · rw [v]; exact nI_inj (by omega) (by omega) z
    · exact al j (by omega)
  · rintro h1 ⟨rfl, al⟩
    refine b_X8_rowsComeAgain_2 hL eT _ _ _ _ (isX8_12 hL) ?_
    rw [hR.2.1, nI_add]
    exact ⟨fun z => absurd z (nI_nlt (by omega) (by omega)), fun _ => K true ⟨fun _ i hi => al i (by omega), fun _ => rfl⟩⟩
theorem s_comesAgain (hL : Lay T) (eT : h.2.2 = T) (hR : CR h 12 R) (m3 : gI h 60 3 = nI R.length) (m4 : ∀ i, i < R.length → gI h 60 (320 + 2 * i) = nI (gQ R i).1 ∧ gI h 60 (320 + 2 * i + 1) = nI (gQ R i).2) {p y : Nat} (hp : p ≤ R.length) (hy : y ≤ 1) (K : ∀ r : Bool, (r = true ↔ agn R y p) → Q (some (.int (b2i r))) h) : Call (d + 0) MX11_comesAgain [.ref 59, .int (nI p), .int (nI y)] h Q := by
  have h300 := hR.1
  have mm : ∀ i, i < R.length → gI h 60 (320 + 2 * i + y) = nI (prt y (gQ R i)) := fun i hi => by
    unfold prt
    by_cases z : y = 0
    · rw [z, if_pos rfl, Nat.add_zero]; exact (m4 i hi).1
    · rw [show y = 1 by omega, if_neg (by decide)]; exact (m4 i hi).2
  refine b_X11_comesAgain hL eT _ _ ?_
  refine upto (R.length - p) (fun i h1 => h1 = h ∧ ∀ j, j < i → prt y (gQ R j) = prt y (gQ R (j + p))) (fun i h1 => L_X11_comesAgain_2 d (nI p) (nI y) (nI i) h1 Q) ?_ ?_ 0 h (Nat.zero_le _) ⟨rfl, fun j hj => by omega⟩
  · rintro i h1 hi ⟨rfl, al⟩ ih
    refine b_X11_comesAgain_2 hL eT _ _ _ ?_
    have l1 := prt_lt (y := y) (i := i) hR (by omega)
    have l2 := prt_lt (y := y) (i := i + p) hR (by omega)
    have e1 : nI 320 + nI 2 * nI i + nI y = nI (320 + 2 * i + y) := by rw [pk_mul, nI_add, nI_add]
    have e2 : nI 320 + nI 2 * (nI i + nI p) + nI y = nI (320 + 2 * (i + p) + y) := by rw [nI_add, pk_mul, nI_add, nI_add]
    rw [m3, e1, e2, nI_add, nI_clamp (by omega), nI_clamp (by omega), mm i (by omega), mm (i + p) (by omega), nI_add]
    refine ⟨fun _ => ⟨(inB_iff (by omega)).mpr (by omega), (inB_iff (by omega)).mpr (by omega), fun z => ih _ ⟨rfl, fun j hj => ?_⟩, fun z => K false ⟨fun k => absurd k (by decide), fun k => absurd (by rw [k i (by omega)]) z⟩⟩, fun z => absurd (nI_lt (by omega) (by omega)) z⟩
    by_cases v : j = i
    · rw [v]; exact nI_inj (by omega) (by omega) z
    · exact al j (by omega)
  · rintro h1 ⟨rfl, al⟩
    refine b_X11_comesAgain_2 hL eT _ _ _ ?_
    rw [m3, nI_add]
    exact ⟨fun z => absurd z (nI_nlt (by omega) (by omega)), fun _ => K true ⟨fun _ i hi => al i (by omega), fun _ => rfl⟩⟩
theorem s_periodC (hL : Lay T) (eT : h.2.2 = T) (hR : CR h 12 R) {y : Nat} (hy : y ≤ 1) (K : ∀ r, Per R y r → Q (some (.int r)) h) : Call (d + 2) MX10_period [.ref 1, .int (nI y)] h Q := by
  have h300 := hR.1
  have hr : gI h 15 3 = nI R.length := hR.2.1
  refine b_X10_period hL eT _ ⟨fun z => absurd z (nI_pos (by omega)), fun _ => ⟨fun z => absurd z (nI_nlt hy (by decide)), fun _ => ?_⟩⟩
  by_cases r0 : R.length = 0
  · refine b_X10_period_13 hL eT _ _ ?_
    rw [hr]
    exact ⟨fun z => absurd z (nI_nlt (by omega) (by omega)), fun _ => K _ ⟨0, by rw [r0], Or.inl ⟨r0, rfl⟩⟩⟩
  · refine upto R.length (fun i h1 => h1 = h ∧ 1 ≤ i ∧ ∀ j, 1 ≤ j → j < i → ¬ agn R y j) (fun i h1 => L_X10_period_13 d (nI y) (nI i) h1 Q) ?_ ?_ 1 h (by omega) ⟨rfl, Nat.le_refl _, fun j a b => by omega⟩
    · rintro i h1 hi ⟨rfl, i1, al⟩ ih
      refine b_X10_period_13 hL eT _ _ ?_
      rw [hr, nI_add]
      refine ⟨fun _ => s_rowsCome (d := d) hL eT hR (by omega) hy (fun r er => ⟨_, rfl, eT, fun z => ?_, fun z => ?_⟩), fun z => absurd (nI_lt hi (by omega)) z⟩
      · exact K _ ⟨i, rfl, Or.inr ⟨i1, by omega, er.mp z, al⟩⟩
      · refine ih _ ⟨rfl, by omega, fun j a b => ?_⟩
        by_cases v : j = i
        · rw [v]; exact fun k => z (er.mpr k)
        · exact al j a (by omega)
    · rintro h1 ⟨rfl, i1, al⟩
      refine b_X10_period_13 hL eT _ _ ?_
      rw [hr]
      exact ⟨fun z => absurd z (nI_nlt (by omega) (by omega)), fun _ => K _ ⟨_, rfl, Or.inr ⟨i1, Nat.le_refl _, fun i hi => by omega, al⟩⟩⟩
theorem s_periodM (hL : Lay T) (eT : h.2.2 = T) (hR : CR h 12 R) (m3 : gI h 60 3 = nI R.length) (m4 : ∀ i, i < R.length → gI h 60 (320 + 2 * i) = nI (gQ R i).1 ∧ gI h 60 (320 + 2 * i + 1) = nI (gQ R i).2) {y : Nat} (hy : y ≤ 1) (K : ∀ r, Per R y r → Q (some (.int r)) h) : Call (d + 1) MX11_period [.ref 59, .int (nI y)] h Q := by
  have h300 := hR.1
  refine b_X11_period hL eT _ ⟨fun _ => ?_, fun z => absurd ((isIn_iff (by decide)).mpr ⟨y, hy, rfl⟩) z⟩
  rw [m3]
  refine ⟨fun z => ?_, fun z => ?_⟩
  · have r0 : R.length = 0 := (nI_eq0 (by omega)).mp z
    refine b_X11_period_26 hL eT _ _ ⟨fun k => absurd k (by decide), fun _ => K _ ⟨0, rfl, Or.inl ⟨r0, rfl⟩⟩⟩
  · have r0 : R.length ≠ 0 := fun k => z (by rw [k]; rfl)
    refine upto R.length (fun i h1 => h1 = h ∧ 1 ≤ i ∧ ∀ j, 1 ≤ j → j < i → ¬ agn R y j) (fun i h1 => L_X11_period_26 d (nI y) (nI i) h1 Q) ?_ ?_ 1 h (by omega) ⟨rfl, Nat.le_refl _, fun j a b => by omega⟩
    · rintro i h1 hi ⟨rfl, i1, al⟩ ih
      refine b_X11_period_26 hL eT _ _ ?_
      rw [nI_add]
      refine ⟨fun _ => s_comesAgain (d := d) hL eT hR m3 m4 (by omega) hy (fun r er => ⟨_, rfl, eT, fun z => ?_, fun z => ?_⟩), fun z => absurd ((nI_gt0 (by omega)).mpr (by omega)) z⟩
      · exact K _ ⟨i, rfl, Or.inr ⟨i1, by omega, er.mp z, al⟩⟩
      · refine ih _ ⟨rfl, by omega, fun j a b => ?_⟩
        by_cases v : j = i
        · rw [v]; exact fun k => z (er.mpr k)
        · exact al j a (by omega)
    · rintro h1 ⟨rfl, i1, al⟩
      refine b_X11_period_26 hL eT _ _ ?_
      refine ⟨fun _ => s_comesAgain (d := d) hL eT hR m3 m4 (Nat.le_refl _) hy (fun r er => ⟨_, rfl, eT, fun z => ?_, fun z => absurd (er.mpr (fun i hi => by omega)) z⟩), fun z => absurd ((nI_gt0 (by omega)).mpr (by omega)) z⟩
      exact K _ ⟨_, rfl, Or.inr ⟨i1, Nat.le_refl _, er.mp z, al⟩⟩
theorem op_period {L : Nat} {xs : Nat → Int32} (I : Inv L xs h) (x : Int32) : Op MX10_period MX11_period [.int x] h (Inv L xs) := by
  obtain ⟨R, n, sl, c, q, nm, sg, w, v, rc, rm, hs⟩ := id I
  have hL := R.1
  have m4 := rm.2.2.2.2.2.2.1.2.2.2.2
  by_cases z : ∃ v, v ≤ 1 ∧ x = nI v
  · obtain ⟨y, hy, e⟩ := z
    subst e
    exact s_periodC (d := 37) hL rfl rc.2.2.2.2.2.2.2 hy (fun r pr => ⟨_, rfl, s_periodM (d := 38) hL rfl rc.2.2.2.2.2.2.2 m4.2.1 m4.2.2 hy (fun r' pr' => ⟨by rw [Per_uniq pr pr'], I⟩)⟩)
  · have nM : ¬ r_X11_isIn x (nI 0) (nI 1) = true := fun k => z ((isIn_iff (by decide)).mp k)
    refine b_X10_period (d := 37) hL rfl _ ⟨fun _ => ?_, fun k1 => ⟨fun _ => ?_, fun k2 => ?_⟩⟩
    case refine_3 =>
      obtain ⟨t, ht, e⟩ := nI_of k1
      subst e
      exact absurd ⟨t, Nat.le_of_not_lt (fun u => k2 (nI_lt u ht)), rfl⟩ z
    all_goals
      refine ⟨_, rfl, b_X11_period (d := 38) hL rfl _ ⟨fun k => absurd k nM, fun _ => ⟨rfl, I⟩⟩⟩
end Period
