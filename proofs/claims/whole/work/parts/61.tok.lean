-- signs and tokens
def isLn (b : Nat) : Bool := decide ((97 ≤ b ∧ b ≤ 122) ∨ (65 ≤ b ∧ b ≤ 90))
def isDn (b : Nat) : Bool := decide (48 ≤ b ∧ b ≤ 57)
def isBn (b : Nat) : Bool := decide (b = 32 ∨ b = 10)
def sb (b : Nat) : Int32 := (nI b).toInt8.toInt32
theorem sb_all : ∀ b : Fin 256, r_X9_isLetter (sb b.val) = isLn b.val ∧ r_X9_isDigit (sb b.val) = isDn b.val ∧ r_X9_isBlank (sb b.val) = isBn b.val ∧ r_X11_isLetter (nI b.val) = isLn b.val ∧ r_X11_isDigit (nI b.val) = isDn b.val ∧ (128 ≤ b.val → sb b.val < 0) := by decide +kernel
theorem sb_L {b : Nat} (h : b < 256) : r_X9_isLetter (sb b) = isLn b := (sb_all ⟨b, h⟩).1
theorem sb_D {b : Nat} (h : b < 256) : r_X9_isDigit (sb b) = isDn b := (sb_all ⟨b, h⟩).2.1
theorem sb_B {b : Nat} (h : b < 256) : r_X9_isBlank (sb b) = isBn b := (sb_all ⟨b, h⟩).2.2.1
theorem mb_L {b : Nat} (h : b < 256) : r_X11_isLetter (nI b) = isLn b := (sb_all ⟨b, h⟩).2.2.2.1
theorem mb_D {b : Nat} (h : b < 256) : r_X11_isDigit (nI b) = isDn b := (sb_all ⟨b, h⟩).2.2.2.2.1
theorem sb_eq {b c : Nat} (h : b < 256) (hc : c < 128) : (sb b = nI c) ↔ b = c := by
  by_cases z : b < 128
  · rw [show sb b = nI b from fa_byte_small z]
    exact ⟨fun e => nI_inj (by omega) (by omega) e, fun e => by rw [e]⟩
  · have := (sb_all ⟨b, h⟩).2.2.2.2.2 (by show 128 ≤ b; omega)
    have this : sb b < 0 := this
    refine ⟨fun e => ?_, fun e => by omega⟩
    rw [e] at this
    exact absurd this (nI_pos (by omega))
def strN (w : Nat) : List Nat := [[108, 105, 102, 116], [116, 111], [105, 102], [115, 119, 97, 112], [116, 117, 114, 110], [116, 105, 109, 101, 115]].getD w []
theorem str_eq : ∀ w : Fin 6, (strT.getD w.val []).length = (strN w.val).length ∧ (strN w.val).length ≤ 5 ∧ ∀ i : Fin 5, i.val < (strN w.val).length → (strT.getD w.val []).getD i.val 0 = nI ((strN w.val).getD i.val 0) ∧ (strN w.val).getD i.val 0 < 128 := by decide +kernel
/-- the end of the run that begins at f -/
def eR (tp : Nat → Nat) (n f : Nat) : Nat := if isLn (tp f) = true then f + 1 + fa_first (fun x => !(isLn (tp (f + 1 + x)))) (n - (f + 1)) else if isDn (tp f) = true then f + 1 + fa_first (fun x => !(isDn (tp (f + 1 + x)))) (n - (f + 1)) else f + 1
def isW (tp : Nat → Nat) (f e w : Nat) : Bool := decide (e = f + (strN w).length) && (List.range (strN w).length).all (fun i => decide (tp (f + i) = (strN w).getD i 0))
def kW (tp : Nat → Nat) (f e : Nat) : Nat := if isW tp f e 0 = true then 6 else if isW tp f e 1 = true then 7 else if isW tp f e 2 = true then 8 else if isW tp f e 3 = true then 9 else if isW tp f e 4 = true then 10 else if isW tp f e 5 = true then 11 else 1
def kR (tp : Nat → Nat) (f e : Nat) : Nat := if isLn (tp f) = true then kW tp f e else if isDn (tp f) = true then (if e - f ≤ 4 then 2 else 1) else if tp f = 59 then 3 else if tp f = 40 then 4 else if tp f = 41 then 5 else 1
def dv (tp : Nat → Nat) (f : Nat) : Nat → Nat
  | 0 => 0
  | i + 1 => dv tp f i * 10 + (tp (f + i) - 48)
def nR (tp : Nat → Nat) (f e : Nat) : Nat := if isDn (tp f) = true then dv tp f (min (e - f) 4) else 0
def sk (tp : Nat → Nat) (n p : Nat) : Nat := p + fa_first (fun x => !(isBn (tp (p + x)))) (n - p)
def ps (tp : Nat → Nat) (n : Nat) : Nat → Nat
  | 0 => 0
  | i + 1 => if sk tp n (ps tp n i) < n then eR tp n (sk tp n (ps tp n i)) else n
def tS (tp : Nat → Nat) (n i : Nat) : Nat := sk tp n (ps tp n i)
def tK (tp : Nat → Nat) (n i : Nat) : Nat := if tS tp n i < n then kR tp (tS tp n i) (eR tp n (tS tp n i)) else 0
def tN (tp : Nat → Nat) (n i : Nat) : Nat := if tS tp n i < n then nR tp (tS tp n i) (eR tp n (tS tp n i)) else 0
section Tok
variable {tp : Nat → Nat} {n : Nat}
theorem eR_b {f : Nat} (hf : f < n) : f < eR tp n f ∧ eR tp n f ≤ n := by
  unfold eR
  have a := fa_first_le (fun x => !(isLn (tp (f + 1 + x)))) (n - (f + 1))
  have b := fa_first_le (fun x => !(isDn (tp (f + 1 + x)))) (n - (f + 1))
  split
  · omega
  · split <;> omega
theorem sk_b {p : Nat} (hp : p ≤ n) : p ≤ sk tp n p ∧ sk tp n p ≤ n := by
  have := fa_first_le (fun x => !(isBn (tp (p + x)))) (n - p)
  unfold sk
  omega
theorem sk_in {p f : Nat} (h1 : p ≤ f) (h2 : f < sk tp n p) : isBn (tp f) = true := by
  have := fa_first_no (fun x => !(isBn (tp (p + x)))) (n - p) (f - p) (by unfold sk at h2; omega)
  rw [show p + (f - p) = f by omega] at this
  cases hb : isBn (tp f) with
  | true => rfl
  | false => rw [hb] at this; exact absurd this (by decide)
theorem sk_at {p : Nat} (h : sk tp n p < n) : isBn (tp (sk tp n p)) = false := by
  have := fa_first_yes (fun x => !(isBn (tp (p + x)))) (n - p) (by unfold sk at h; omega)
  show isBn (tp (p + fa_first (fun x => !(isBn (tp (p + x)))) (n - p))) = false
  cases hb : isBn (tp (p + fa_first (fun x => !(isBn (tp (p + x)))) (n - p))) with
  | false => rfl
  | true =>
    rw [hb] at this
    exact absurd this (by decide)
theorem ps_b : ∀ i, ps tp n i ≤ n
  | 0 => Nat.zero_le _
  | i + 1 => by
    unfold ps
    split
    · exact (eR_b (by assumption)).2
    · exact Nat.le_refl _
theorem tS_b (i : Nat) : ps tp n i ≤ tS tp n i ∧ tS tp n i ≤ n := sk_b (ps_b i)
theorem ps_succ {i : Nat} (h : tS tp n i < n) : ps tp n (i + 1) = eR tp n (tS tp n i) := by
  have h' : sk tp n (ps tp n i) < n := h
  show (if sk tp n (ps tp n i) < n then _ else _) = _
  rw [if_pos h']
  rfl
theorem ps_end {i : Nat} (h : ¬ tS tp n i < n) : ps tp n (i + 1) = n := by
  have h' : ¬ sk tp n (ps tp n i) < n := h
  show (if sk tp n (ps tp n i) < n then _ else _) = _
  rw [if_neg h']
theorem tS_end {i : Nat} (h : tS tp n i = n) : ∀ k, tS tp n (i + k) = n
  | 0 => h
  | k + 1 => by
    have ih := tS_end h k
    have e : ps tp n (i + k + 1) = n := ps_end (by omega)
    have := tS_b (tp := tp) (n := n) (i + k + 1)
    show tS tp n (i + k + 1) = n
    omega
theorem ps_ge : ∀ i, (∀ j, j < i → tS tp n j < n) → i ≤ ps tp n i
  | 0, _ => Nat.zero_le _
  | i + 1, h => by
    have ih := ps_ge i (fun j hj => h j (by omega))
    rw [ps_succ (h i (by omega))]
    have := (eR_b (tp := tp) (h i (by omega))).1
    have := (tS_b (tp := tp) (n := n) i).1
    omega
theorem kW_le (f e : Nat) : kW tp f e ≤ 11 := by
  unfold kW
  repeat' split
  all_goals omega
theorem kR_le (f e : Nat) : kR tp f e ≤ 11 := by
  unfold kR
  have := kW_le (tp := tp) f e
  repeat' split
  all_goals omega
theorem kR_pos (f e : Nat) : kR tp f e ≠ 0 := by
  unfold kR kW
  repeat' split
  all_goals omega
theorem tK_le (i : Nat) : tK tp n i ≤ 11 := by
  unfold tK
  split
  · exact kR_le _ _
  · omega
theorem tK_0 {i : Nat} : tK tp n i = 0 ↔ tS tp n i = n := by
  unfold tK
  have := (tS_b (tp := tp) (n := n) i).2
  constructor
  · intro q
    by_cases z : tS tp n i < n
    · rw [if_pos z] at q; exact absurd q (kR_pos _ _)
    · omega
  · intro q
    rw [if_neg (by omega)]
theorem dv_le (hb : ∀ i, i < n → tp i < 256) {f i : Nat} (h1 : f + i ≤ n) (h2 : i ≤ 4) : dv tp f i ≤ 229977 := by
  have a0 : dv tp f 0 = 0 := rfl
  have a1 : dv tp f 1 = dv tp f 0 * 10 + (tp (f + 0) - 48) := rfl
  have a2 : dv tp f 2 = dv tp f 1 * 10 + (tp (f + 1) - 48) := rfl
  have a3 : dv tp f 3 = dv tp f 2 * 10 + (tp (f + 2) - 48) := rfl
  have a4 : dv tp f 4 = dv tp f 3 * 10 + (tp (f + 3) - 48) := rfl
  have b0 : 1 ≤ i → tp (f + 0) < 256 := fun q => hb _ (by omega)
  have b1 : 2 ≤ i → tp (f + 1) < 256 := fun q => hb _ (by omega)
  have b2 : 3 ≤ i → tp (f + 2) < 256 := fun q => hb _ (by omega)
  have b3 : 4 ≤ i → tp (f + 3) < 256 := fun q => hb _ (by omega)
  have : i = 0 ∨ i = 1 ∨ i = 2 ∨ i = 3 ∨ i = 4 := by omega
  rcases this with e | e | e | e | e
  · subst e; omega
  · subst e; have := b0 (by omega); omega
  · subst e; have := b0 (by omega); have := b1 (by omega); omega
  · subst e; have := b0 (by omega); have := b1 (by omega); have := b2 (by omega); omega
  · subst e; have := b0 (by omega); have := b1 (by omega); have := b2 (by omega); have := b3 (by omega); omega
end Tok
section TokC
variable {d : Nat} {T : HT} {h : Hp} {Q : Option Value → Hp → Prop} {tp : Nat → Nat} {n : Nat}
/-- the tape of the class -/
def TC (h : Hp) (tp : Nat → Nat) (n : Nat) : Prop := n ≤ 400 ∧ gI h 3 0 = nI n ∧ (∀ i, i < n → tp i < 256) ∧ ∀ i, i < n → gI h 7 i = sb (tp i)
theorem s_endOfRun (hL : Lay T) (eT : h.2.2 = T) (t : TC h tp n) {f : Nat} (hf : f < n) (K : Q (some (.int (nI (eR tp n f)))) h) : Call (d + 1) MX9_endOfRun [.ref 3, .int (nI f)] h Q := by
  obtain ⟨t1, t2, t3, t4⟩ := t
  refine b_X9_endOfRun hL eT _ ?_
  rw [nI_clamp (by omega), t4 f hf, sb_L (t3 f hf), sb_D (t3 f hf), nI_add]
  have ib : inB (nI f) 400 = true := (inB_iff (by omega)).mpr (by omega)
  refine ⟨ib, fun z => ?_, fun z => ⟨ib, fun y => ?_, fun y => ?_⟩⟩
  · have e : eR tp n f = f + 1 + fa_first (fun x => !(isLn (tp (f + 1 + x)))) (n - (f + 1)) := by unfold eR; rw [if_pos z]
    rw [e] at K
    have le := fa_first_le (fun x => !(isLn (tp (f + 1 + x)))) (n - (f + 1))
    have no := fa_first_no (fun x => !(isLn (tp (f + 1 + x)))) (n - (f + 1))
    have yes := fa_first_yes (fun x => !(isLn (tp (f + 1 + x)))) (n - (f + 1))
    generalize fa_first (fun x => !(isLn (tp (f + 1 + x)))) (n - (f + 1)) = m at *
    refine upto (f + 1 + m) (fun x h1 => h1 = h ∧ f + 1 ≤ x) (fun x h1 => L_X9_endOfRun_16 d (nI x) h1 Q) ?_ ?_ (f + 1) h (by omega) ⟨rfl, Nat.le_refl _⟩
    · rintro x h1 hx ⟨rfl, lx⟩ ih
      refine b_X9_endOfRun_16 hL eT _ ?_
      rw [t2, nI_clamp (by omega), t4 x (by omega), sb_L (t3 x (by omega)), nI_add]
      refine ⟨fun _ => ⟨(inB_iff (by omega)).mpr (by omega), fun _ => ih _ ⟨rfl, by omega⟩, fun w => ?_⟩, fun w => absurd (nI_lt (by omega) (by omega)) w⟩
      have := no (x - (f + 1)) (by omega)
      rw [show f + 1 + (x - (f + 1)) = x by omega, Bool.eq_false_iff.mpr w] at this
      exact absurd this (by decide)
    · rintro h1 ⟨rfl, lx⟩
      refine b_X9_endOfRun_16 hL eT _ ?_
      rw [t2]
      refine ⟨fun w => ?_, fun _ => K⟩
      have w := (nI_ltI (by omega) (by omega)).mp w
      rw [nI_clamp (by omega), t4 _ w, sb_L (t3 _ w)]
      refine ⟨(inB_iff (by omega)).mpr (by omega), fun v => ?_, fun _ => K⟩
      have := yes (by omega)
      rw [v] at this
      exact absurd this (by decide)
  · have e : eR tp n f = f + 1 + fa_first (fun x => !(isDn (tp (f + 1 + x)))) (n - (f + 1)) := by unfold eR; rw [if_neg z, if_pos y]
    rw [e] at K
    have le := fa_first_le (fun x => !(isDn (tp (f + 1 + x)))) (n - (f + 1))
    have no := fa_first_no (fun x => !(isDn (tp (f + 1 + x)))) (n - (f + 1))
    have yes := fa_first_yes (fun x => !(isDn (tp (f + 1 + x)))) (n - (f + 1))
    generalize fa_first (fun x => !(isDn (tp (f + 1 + x)))) (n - (f + 1)) = m at *
    refine upto (f + 1 + m) (fun x h1 => h1 = h ∧ f + 1 ≤ x) (fun x h1 => L_X9_endOfRun_54 d (nI x) h1 Q) ?_ ?_ (f + 1) h (by omega) ⟨rfl, Nat.le_refl _⟩
    · rintro x h1 hx ⟨rfl, lx⟩ ih
      refine b_X9_endOfRun_54 hL eT _ ?_
      rw [t2, nI_clamp (by omega), t4 x (by omega), sb_D (t3 x (by omega)), nI_add]
      refine ⟨fun _ => ⟨(inB_iff (by omega)).mpr (by omega), fun _ => ih _ ⟨rfl, by omega⟩, fun w => ?_⟩, fun w => absurd (nI_lt (by omega) (by omega)) w⟩
      have := no (x - (f + 1)) (by omega)
      rw [show f + 1 + (x - (f + 1)) = x by omega, Bool.eq_false_iff.mpr w] at this
      exact absurd this (by decide)
    · rintro h1 ⟨rfl, lx⟩
      refine b_X9_endOfRun_54 hL eT _ ?_
      rw [t2]
      refine ⟨fun w => ?_, fun _ => K⟩
      have w := (nI_ltI (by omega) (by omega)).mp w
      rw [nI_clamp (by omega), t4 _ w, sb_D (t3 _ w)]
      refine ⟨(inB_iff (by omega)).mpr (by omega), fun v => ?_, fun _ => K⟩
      have := yes (by omega)
      rw [v] at this
      exact absurd this (by decide)
  · have e : eR tp n f = f + 1 := by unfold eR; rw [if_neg z, if_neg y]
    rw [e] at K
    exact K
theorem s_isWord (hL : Lay T) (eT : h.2.2 = T) (t : TC h tp n) {f e w : Nat} (hw : w < 6) (hf : f < e) (he : e ≤ n) (K : Q (some (.int (b2i (isW tp f e w)))) h) : Call (d + 0) MX9_isWord [.ref 3, .ref (1000000 + w), .int (nI f), .int (nI e)] h Q := by
  obtain ⟨t1, t2, t3, t4⟩ := t
  obtain ⟨l1, l2, l3⟩ := str_eq ⟨w, hw⟩
  dsimp only at l1 l2 l3
  refine b_X9_isWord hL eT _ _ _ hw ?_
  rw [pk_sub (by omega), l1]
  refine ⟨fun z => ?_, fun z => ?_⟩
  · have z := nI_inj (by omega) (by omega) z
    have ze : e = f + (strN w).length := by omega
    refine upto (strN w).length (fun i h1 => h1 = h ∧ ∀ j, j < i → tp (f + j) = (strN w).getD j 0) (fun i h1 => L_X9_isWord_15 d w (nI f) (nI i) h1 Q) ?_ ?_ 0 h (Nat.zero_le _) ⟨rfl, fun j hj => by omega⟩
    · rintro i h1 hi ⟨rfl, al⟩ ih
      obtain ⟨c1, c2⟩ := l3 ⟨i, by omega⟩ hi
      dsimp only at c1 c2
      refine b_X9_isWord_15 hL eT _ _ _ hw ?_
      rw [l1, nI_add, nI_clamp (by omega), nI_clamp (by omega), t4 _ (by omega), c1, sb_eq (t3 _ (by omega)) c2, nI_add]
      refine ⟨fun _ => ⟨(inB_iff (by omega)).mpr (by omega), (inB_iff (by omega)).mpr hi, fun q => ih _ ⟨rfl, fun j hj => ?_⟩, fun q => ?_⟩, fun q => absurd (nI_lt hi (by omega)) q⟩
      · by_cases v : j = i
        · rw [v]; exact q
        · exact al j (by omega)
      · have : isW tp f e w = false := by
          unfold isW
          rw [decide_eq_true ze, Bool.true_and]
          refine Bool.eq_false_iff.mpr (fun k => q ?_)
          exact of_decide_eq_true (List.all_eq_true.mp k i (List.mem_range.mpr hi))
        rw [this] at K
        exact K
    · rintro h1 ⟨rfl, al⟩
      refine b_X9_isWord_15 hL eT _ _ _ hw ?_
      rw [l1]
      have : isW tp f e w = true := by
        unfold isW
        rw [decide_eq_true ze, Bool.true_and]
        exact List.all_eq_true.mpr (fun i hi => decide_eq_true (al i (List.mem_range.mp hi)))
      rw [this] at K
      exact ⟨fun q => absurd q (nI_nlt (Nat.le_refl _) (by omega)), fun _ => K⟩
  · have : isW tp f e w = false := by
      unfold isW
      rw [decide_eq_false (fun k => z (by rw [show e - f = (strN w).length by omega])), Bool.false_and]
    rw [this] at K
    exact K
theorem s_kindOfWord (hL : Lay T) (eT : h.2.2 = T) (t : TC h tp n) {f e : Nat} (hf : f < e) (he : e ≤ n) (K : Q (some (.int (nI (kW tp f e)))) h) : Call (d + 1) MX9_kindOfWord [.ref 3, .int (nI f), .int (nI e)] h Q := by
  unfold kW at K
  refine b_X9_kindOfWord hL eT _ _ ?_
  refine s_isWord (d := d) hL eT t (w := 0) (by decide) hf he ⟨_, rfl, eT, fun z => by rw [if_pos z] at K; exact K, fun z0 => ?_⟩
  rw [if_neg z0] at K
  refine s_isWord (d := d) hL eT t (w := 1) (by decide) hf he ⟨_, rfl, eT, fun z => by rw [if_pos z] at K; exact K, fun z1 => ?_⟩
  rw [if_neg z1] at K
  refine s_isWord (d := d) hL eT t (w := 2) (by decide) hf he ⟨_, rfl, eT, fun z => by rw [if_pos z] at K; exact K, fun z2 => ?_⟩
  rw [if_neg z2] at K
  refine s_isWord (d := d) hL eT t (w := 3) (by decide) hf he ⟨_, rfl, eT, fun z => by rw [if_pos z] at K; exact K, fun z3 => ?_⟩
  rw [if_neg z3] at K
  refine s_isWord (d := d) hL eT t (w := 4) (by decide) hf he ⟨_, rfl, eT, fun z => by rw [if_pos z] at K; exact K, fun z4 => ?_⟩
  rw [if_neg z4] at K
  exact s_isWord (d := d) hL eT t (w := 5) (by decide) hf he ⟨_, rfl, eT, fun z => by rw [if_pos z] at K; exact K, fun z => by rw [if_neg z] at K; exact K⟩
theorem sw_all : ∀ b : Fin 256, Op.lookupswitch.offset [(40, 36), (41, 38), (59, 34)] 40 (sb b.val).toInt = if b.val = 59 then 34 else if b.val = 40 then 36 else if b.val = 41 then 38 else 40 := by decide +kernel
theorem s_kindOfRun (hL : Lay T) (eT : h.2.2 = T) (t : TC h tp n) {f e : Nat} (hf : f < e) (he : e ≤ n) (K : Q (some (.int (nI (kR tp f e)))) h) : Call (d + 2) MX9_kindOfRun [.ref 3, .int (nI f), .int (nI e)] h Q := by
  obtain ⟨t1, t2, t3, t4⟩ := id t
  have ib : inB (nI f) 400 = true := (inB_iff (by omega)).mpr (by omega)
  have eg : gI h 7 (nI f).toNatClampNeg = sb (tp f) := by rw [nI_clamp (by omega)]; exact t4 f (by omega)
  have hb := t3 f (by omega)
  show At (d + 2) MX9_kindOfRun 0 [.ref 3, .int (nI f), .int (nI e)] [] h Q
  refine At_aload_n (pc' := 1) iX9_kindOfRun_0 rfl rfl ?_
  refine At_getR (pc' := 4) iX9_kindOfRun_1 rfl f_9_28 (kdK eT (kd_3 hL)) (by decide) (rfH eT (rf_3_5 hL)) ?_
  refine At_iload_n (pc' := 5) iX9_kindOfRun_4 rfl rfl ?_
  refine At_bald (pc' := 6) iX9_kindOfRun_5 rfl (kdH eT (kd_7 hL)) ib (show At (d + 2) MX9_kindOfRun 6 [.ref 3, .int (nI f), .int (nI e)] [.int (gI h 7 (nI f).toNatClampNeg)] h Q from ?_)
  rw [eg]
  refine At_stat (pc' := 9) iX9_kindOfRun_6 rfl m_9_51 rfl rfl (Nat.le_of_ble_eq_true rfl) (Nat.le_of_ble_eq_true rfl) (Nat.le_of_ble_eq_true rfl) ?_
  refine c_X9_isLetter (h := h) (sb (tp f)) (show At (d + 2) MX9_kindOfRun 9 [.ref 3, .int (nI f), .int (nI e)] [.int (b2i (r_X9_isLetter (sb (tp f))))] h Q from ?_)
  rw [sb_L hb]
  unfold kR at K
  refine At_zeq (t := 19) (pc' := 12) iX9_kindOfRun_9 (by decide) rfl (fun c1 => ?_) (fun c1 => ?_)
  · rw [if_neg c1] at K
    refine At_aload_n (pc' := 20) iX9_kindOfRun_19 rfl rfl ?_
    refine At_getR (pc' := 23) iX9_kindOfRun_20 rfl f_9_28 (kdK eT (kd_3 hL)) (by decide) (rfH eT (rf_3_5 hL)) ?_
    refine At_iload_n (pc' := 24) iX9_kindOfRun_23 rfl rfl ?_
    refine At_bald (pc' := 25) iX9_kindOfRun_24 rfl (kdH eT (kd_7 hL)) ib (show At (d + 2) MX9_kindOfRun 25 [.ref 3, .int (nI f), .int (nI e)] [.int (gI h 7 (nI f).toNatClampNeg)] h Q from ?_)
    rw [eg]
    refine At_stat (pc' := 28) iX9_kindOfRun_25 rfl m_9_54 rfl rfl (Nat.le_of_ble_eq_true rfl) (Nat.le_of_ble_eq_true rfl) (Nat.le_of_ble_eq_true rfl) ?_
    refine c_X9_isDigit (h := h) (sb (tp f)) (show At (d + 2) MX9_kindOfRun 28 [.ref 3, .int (nI f), .int (nI e)] [.int (b2i (r_X9_isDigit (sb (tp f))))] h Q from ?_)
    rw [sb_D hb]
    refine At_zeq (t := 44) (pc' := 31) iX9_kindOfRun_28 (by decide) rfl (fun c2 => ?_) (fun c2 => ?_)
    · rw [if_neg c2] at K
      refine At_aload_n (pc' := 45) iX9_kindOfRun_44 rfl rfl ?_
      refine At_getR (pc' := 48) iX9_kindOfRun_45 rfl f_9_28 (kdK eT (kd_3 hL)) (by decide) (rfH eT (rf_3_5 hL)) ?_
      refine At_iload_n (pc' := 49) iX9_kindOfRun_48 rfl rfl ?_
      refine At_bald (pc' := 50) iX9_kindOfRun_49 rfl (kdH eT (kd_7 hL)) ib (show At (d + 2) MX9_kindOfRun 50 [.ref 3, .int (nI f), .int (nI e)] [.int (gI h 7 (nI f).toNatClampNeg)] h Q from ?_)
      rw [eg]
      have so := sw_all ⟨tp f, hb⟩
      dsimp only at so
      by_cases z1 : tp f = 59
      · rw [if_pos z1] at so K
        refine At_lookup (t := 84) iX9_kindOfRun_50 (by decide) so (by decide) ?_
        refine At_iconst (v := nI 3) (pc' := 85) iX9_kindOfRun_84 rfl (by decide) ?_
        exact At_retI iX9_kindOfRun_85 rfl K
      · rw [if_neg z1] at so K
        by_cases z2 : tp f = 40
        · rw [if_pos z2] at so K
          refine At_lookup (t := 86) iX9_kindOfRun_50 (by decide) so (by decide) ?_
          refine At_iconst (v := nI 4) (pc' := 87) iX9_kindOfRun_86 rfl (by decide) ?_
          exact At_retI iX9_kindOfRun_87 rfl K
        · rw [if_neg z2] at so K
          by_cases z3 : tp f = 41
          · rw [if_pos z3] at so K
            refine At_lookup (t := 88) iX9_kindOfRun_50 (by decide) so (by decide) ?_
            refine At_iconst (v := nI 5) (pc' := 89) iX9_kindOfRun_88 rfl (by decide) ?_
            exact At_retI iX9_kindOfRun_89 rfl K
          · rw [if_neg z3] at so K
            refine At_lookup (t := 90) iX9_kindOfRun_50 (by decide) so (by decide) ?_
            refine At_iconst (v := nI 1) (pc' := 91) iX9_kindOfRun_90 rfl (by decide) ?_
            exact At_retI iX9_kindOfRun_91 rfl K
    · rw [if_pos c2] at K
      refine At_iload_n (pc' := 32) iX9_kindOfRun_31 rfl rfl ?_
      refine At_iload_n (pc' := 33) iX9_kindOfRun_32 rfl rfl ?_
      refine At_isub (pc' := 34) iX9_kindOfRun_33 rfl ?_
      refine At_iconst (v := nI 4) (pc' := 35) iX9_kindOfRun_34 rfl (by decide) ?_
      rw [pk_sub (by omega)]
      refine At_icmp_gt (t := 42) (pc' := 38) iX9_kindOfRun_35 (by decide) rfl (fun c3 => ?_) (fun c3 => ?_)
      · have c3 := (nI_ltI (by omega) (by omega)).mp c3
        rw [if_neg (by omega)] at K
        refine At_iconst (v := nI 1) (pc' := 43) iX9_kindOfRun_42 rfl (by decide) ?_
        exact At_retI iX9_kindOfRun_43 rfl K
      · have c3 : ¬ 4 < e - f := fun u => c3 (nI_lt u (by omega))
        rw [if_pos (by omega)] at K
        refine At_iconst (v := nI 2) (pc' := 39) iX9_kindOfRun_38 rfl (by decide) ?_
        refine At_goto (t := 43) iX9_kindOfRun_39 (by decide) ?_
        exact At_retI iX9_kindOfRun_43 rfl K
  · rw [if_pos c1] at K
    refine At_aload_n (pc' := 13) iX9_kindOfRun_12 rfl rfl ?_
    refine At_iload_n (pc' := 14) iX9_kindOfRun_13 rfl rfl ?_
    refine At_iload_n (pc' := 15) iX9_kindOfRun_14 rfl rfl ?_
    refine At_virt (pc' := 18) iX9_kindOfRun_15 rfl m_9_57 rfl rfl (kdK eT (kd_3 hL)) (Nat.le_of_ble_eq_true rfl) (Nat.le_of_ble_eq_true rfl) ?_
    refine s_kindOfWord (d := d) hL eT t hf he (show At (d + 2) MX9_kindOfRun 18 [.ref 3, .int (nI f), .int (nI e)] [.int (nI (kW tp f e))] h Q from ?_)
    exact At_retI iX9_kindOfRun_18 rfl K
end TokC
