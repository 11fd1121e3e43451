-- how many bits are set
def pop (t : Nat) : Nat := fa_cnt (fun j => t.testBit j) 16
def bcN (t : Nat) : Nat :=
  let a := t - (t / 2 &&& 1431655765)
  let b := (a &&& 858993459) + (a / 4 &&& 858993459)
  let c := (b + b / 16) &&& 252645135
  let e := c + c / 256
  (e + e / 65536) &&& 63
def pop8 (t : Nat) : Nat := fa_cnt (fun j => t.testBit j) 8
theorem cnt_split (p : Nat → Bool) (a : Nat) : ∀ b, fa_cnt p (a + b) = fa_cnt p a + fa_cnt (fun j => p (a + j)) b
  | 0 => rfl
  | b + 1 => by
    show fa_cnt p (a + b) + (if p (a + b) then 1 else 0) = fa_cnt p a + (fa_cnt (fun j => p (a + j)) b + (if p (a + b) then 1 else 0))
    rw [cnt_split p a b, Nat.add_assoc]
theorem pop_split {a b : Nat} (hb : b < 256) : pop (256 * a + b) = pop8 a + pop8 b := by
  unfold pop pop8
  rw [show (16 : Nat) = 8 + 8 from rfl, cnt_split, Nat.add_comm]
  have tb (j : Nat) := Nat.testBit_two_pow_mul_add a (show b < 2 ^ 8 by omega) j
  have e1 : fa_cnt (fun j => (256 * a + b).testBit (8 + j)) 8 = fa_cnt (fun j => a.testBit j) 8 := fa_cnt_cong (fun k hk => by
    have := tb (8 + k)
    rw [if_neg (by omega), show 8 + k - 8 = k by omega] at this
    exact this)
  have e2 : fa_cnt (fun j => (256 * a + b).testBit j) 8 = fa_cnt (fun j => b.testBit j) 8 := fa_cnt_cong (fun k hk => by
    have := tb k
    rw [if_pos hk] at this
    exact this)
  rw [e1, e2]
theorem and_split (x m : Nat) : x &&& m = 256 * (x / 256 &&& m / 256) + (x % 256 &&& m % 256) := by
  have h1 := Nat.and_div_two_pow (a := x) (b := m) (n := 8)
  have h2 := Nat.and_mod_two_pow (a := x) (b := m) (n := 8)
  have h3 := Nat.div_add_mod (x &&& m) (2 ^ 8)
  rw [h1, h2] at h3
  exact h3.symm
def by1 (a : Nat) : Nat := a - (a / 2 &&& 85)
def by2 (a : Nat) : Nat := (a &&& 51) + (a / 4 &&& 51)
def by3 (a : Nat) : Nat := (a + a / 16) % 16
theorem by_all : ∀ a : Fin 256, (by1 a.val < 256 ∧ a.val / 2 &&& 85 ≤ a.val) ∧ (by2 (by1 a.val) ≤ 68 ∧ by2 (by1 a.val) % 16 ≤ 4) ∧ by3 (by2 (by1 a.val)) ≤ 8 ∧ by3 (by2 (by1 a.val)) = pop8 a.val := by decide +kernel
theorem by_m1 : ∀ c : Fin 2, ∀ a : Fin 128, (128 * c.val + a.val) &&& 85 = a.val &&& 85 := by decide +kernel
theorem by_m2 : ∀ c : Fin 4, ∀ a : Fin 64, (64 * c.val + a.val) &&& 51 = a.val &&& 51 := by decide +kernel
theorem and_small {a : Nat} (h : a < 256) (m : Nat) : a &&& m = a &&& m % 256 := by
  have := and_split a m
  rw [Nat.div_eq_of_lt h, Nat.mod_eq_of_lt h, Nat.zero_and, Nat.mul_zero, Nat.zero_add] at this
  exact this
theorem bc_all {t : Nat} (ht : t < 65536) : bcN t = pop t := by
  obtain ⟨a, b, ha, hb, rfl⟩ : ∃ a b, a < 256 ∧ b < 256 ∧ t = 256 * a + b := ⟨t / 256, t % 256, by omega, by omega, by omega⟩
  obtain ⟨⟨a1, a0⟩, ⟨a2, a3⟩, a4, a5⟩ := by_all ⟨a, ha⟩
  obtain ⟨⟨b1, b0⟩, ⟨b2, b3⟩, b4, b5⟩ := by_all ⟨b, hb⟩
  dsimp only at a0 a1 a2 a3 a4 a5 b0 b1 b2 b3 b4 b5
  have s1 : 256 * a + b - ((256 * a + b) / 2 &&& 1431655765) = 256 * by1 a + by1 b := by
    have e := and_split ((256 * a + b) / 2) 1431655765
    have m := by_m1 ⟨a % 2, by omega⟩ ⟨b / 2, by omega⟩
    dsimp only at m
    rw [show (256 * a + b) / 2 / 256 = a / 2 by omega, show (256 * a + b) / 2 % 256 = 128 * (a % 2) + b / 2 by omega, show 1431655765 % 256 = 85 from rfl, m, and_small (show a / 2 < 256 by omega), show 1431655765 / 256 % 256 = 85 from rfl] at e
    rw [e]
    unfold by1
    omega
  have s2 : ∀ p q, p < 256 → q < 256 → (256 * p + q &&& 858993459) + ((256 * p + q) / 4 &&& 858993459) = 256 * by2 p + by2 q := by
    intro p q hp hq
    have e1 := and_split (256 * p + q) 858993459
    have e2 := and_split ((256 * p + q) / 4) 858993459
    have m := by_m2 ⟨p % 4, by omega⟩ ⟨q / 4, by omega⟩
    dsimp only at m
    rw [show (256 * p + q) / 256 = p by omega, show (256 * p + q) % 256 = q by omega, show 858993459 % 256 = 51 from rfl, and_small hp, show 858993459 / 256 % 256 = 51 from rfl] at e1
    rw [show (256 * p + q) / 4 / 256 = p / 4 by omega, show (256 * p + q) / 4 % 256 = 64 * (p % 4) + q / 4 by omega, show 858993459 % 256 = 51 from rfl, m, and_small (show p / 4 < 256 by omega), show 858993459 / 256 % 256 = 51 from rfl] at e2
    rw [e1, e2]
    unfold by2
    omega
  have s3 : ∀ p q, p ≤ 68 → p % 16 ≤ 4 → q ≤ 68 → q % 16 ≤ 4 → (256 * p + q + (256 * p + q) / 16) &&& 252645135 = 256 * by3 p + by3 q := by
    intro p q hp hp2 hq hq2
    have e := and_split (256 * p + q + (256 * p + q) / 16) 252645135
    have mm : ∀ x, x &&& 15 = x % 16 := fun x => Nat.and_two_pow_sub_one_eq_mod x 4
    rw [and_small (show (256 * p + q + (256 * p + q) / 16) / 256 < 256 by omega), show 252645135 / 256 % 256 = 15 from rfl, mm, mm] at e
    rw [e]
    unfold by3
    have e1 : (256 * p + q) / 16 = 16 * p + q / 16 := by omega
    have e2 : (256 * p + q + (16 * p + q / 16)) / 256 = p + p / 16 := by omega
    have e3 : (256 * p + q + (16 * p + q / 16)) % 256 = 16 * (p % 16) + (q + q / 16) := by omega
    rw [e1, e2, e3, Nat.mul_add_mod]
  have fin : ∀ p q, p ≤ 8 → q ≤ 8 → (256 * p + q + (256 * p + q) / 256 + (256 * p + q + (256 * p + q) / 256) / 65536) &&& 63 = p + q := by
    intro p q hp hq
    have mm : ∀ x, x &&& 63 = x % 64 := fun x => Nat.and_two_pow_sub_one_eq_mod x 6
    rw [mm, show (256 * p + q) / 256 = p by omega, show (256 * p + q + p) / 65536 = 0 by omega]
    omega
  have e : bcN (256 * a + b) = by3 (by2 (by1 a)) + by3 (by2 (by1 b)) := by
    unfold bcN
    dsimp only
    rw [s1, s2 _ _ a1 b1, s3 _ _ a2 a3 b2 b3, fin _ _ a4 b4]
  rw [e, a5, b5, pop_split hb]
def bc1 (x : Int32) : Int32 := x - ((ushr x (nI 1)) &&& (nI 1431655765))
def bc2 (x : Int32) : Int32 := (x &&& (nI 858993459)) + ((ushr x (nI 2)) &&& (nI 858993459))
def bc3 (x : Int32) : Int32 := (x + (ushr x (nI 4))) &&& (nI 252645135)
def bc4 (x : Int32) : Int32 := x + (ushr x (nI 8))
def bc5 (x : Int32) : Int32 := x + (ushr x (nI 16))
theorem bc_def (x : Int32) : r_J6_bitCount_0f7a4 x = bc5 (bc4 (bc3 (bc2 (bc1 x)))) &&& nI 63 := rfl
theorem bitCount_nI {t : Nat} (ht : t < 65536) : r_J6_bitCount_0f7a4 (nI t) = nI (pop t) := by
  have h1 : bc1 (nI t) = nI (t - (t / 2 &&& 1431655765)) := by
    unfold bc1
    rw [ushrN (by omega) (by decide), fa_and, pk_sub]
    have : t / 2 ^ 1 &&& 1431655765 ≤ t / 2 ^ 1 := Nat.and_le_left
    omega
  have l1 : t - (t / 2 &&& 1431655765) < 65536 := by omega
  have h2 : ∀ a, a < 65536 → bc2 (nI a) = nI ((a &&& 858993459) + (a / 4 &&& 858993459)) ∧ (a &&& 858993459) + (a / 4 &&& 858993459) < 131072 := by
    intro a ha
    unfold bc2
    rw [ushrN (by omega) (by decide), fa_and, fa_and, nI_add]
    have u1 : a &&& 858993459 ≤ a := Nat.and_le_left
    have u2 : a / 4 &&& 858993459 ≤ a / 4 := Nat.and_le_left
    exact ⟨rfl, by omega⟩
  have h3 : ∀ a, a < 131072 → bc3 (nI a) = nI ((a + a / 16) &&& 252645135) ∧ (a + a / 16) &&& 252645135 < 262144 := by
    intro a ha
    unfold bc3
    rw [ushrN (by omega) (by decide), nI_add, fa_and]
    have u1 : (a + a / 16) &&& 252645135 ≤ a + a / 16 := Nat.and_le_left
    exact ⟨rfl, by omega⟩
  have h4 : ∀ a, a < 262144 → bc4 (nI a) = nI (a + a / 256) ∧ a + a / 256 < 524288 := by
    intro a ha
    unfold bc4
    rw [ushrN (by omega) (by decide), nI_add]
    exact ⟨rfl, by omega⟩
  have h5 : ∀ a, a < 524288 → bc5 (nI a) = nI (a + a / 65536) := by
    intro a ha
    unfold bc5
    rw [ushrN (by omega) (by decide), nI_add]
  have fin := bc_all ht
  rw [bc_def, h1]
  obtain ⟨e2, l2⟩ := h2 _ l1
  rw [e2]
  obtain ⟨e3, l3⟩ := h3 _ l2
  rw [e3]
  obtain ⟨e4, l4⟩ := h4 _ l3
  rw [e4, h5 _ l4, fa_and]
  rw [← fin]
  rfl
theorem cnt_add1 {p q : Nat → Bool} {a : Nat} (e : ∀ k, k ≠ a → q k = p k) (pa : p a = false) (qa : q a = true) : ∀ n, fa_cnt q n = fa_cnt p n + (if a < n then 1 else 0)
  | 0 => rfl
  | n + 1 => by
    have ih := cnt_add1 e pa qa n
    by_cases z : n = a
    · subst z
      rw [if_neg (Nat.lt_irrefl n)] at ih
      rw [fa_cnt_yes qa, fa_cnt_no pa, if_pos (Nat.lt_succ_self n), ih]
    · have e1 : fa_cnt q (n + 1) = fa_cnt q n + if p n then 1 else 0 := by rw [← e n z]; rfl
      have e2 : fa_cnt p (n + 1) = fa_cnt p n + if p n then 1 else 0 := rfl
      rw [e1, e2, ih]
      by_cases u : a < n
      · rw [if_pos u, if_pos (Nat.lt_succ_of_lt u)]; omega
      · rw [if_neg u, if_neg (show ¬ a < n + 1 by omega)]; omega
theorem cnt_below {p : Nat → Bool} {m : Nat} (e : ∀ k, m ≤ k → p k = false) : ∀ n, fa_cnt p n ≤ m
  | 0 => Nat.zero_le _
  | n + 1 => by
    have ih := cnt_below e n
    by_cases z : m ≤ n
    · rw [fa_cnt_no (e n z)]; exact ih
    · have := fa_cnt_le p (n + 1)
      omega
theorem pop_add {t a : Nat} (ha : a < 16) (hb : t.testBit a = false) : pop (t ||| 2 ^ a) = pop t + 1 := by
  have e1 : ∀ k, k ≠ a → (fun j => (t ||| 2 ^ a).testBit j) k = (fun j => t.testBit j) k := fun k hk => by
    show (t ||| 2 ^ a).testBit k = t.testBit k
    rw [Nat.testBit_or, Nat.testBit_two_pow, decide_eq_false (fun z => hk z.symm), Bool.or_false]
  have e2 : (fun j => (t ||| 2 ^ a).testBit j) a = true := by
    show (t ||| 2 ^ a).testBit a = true
    rw [Nat.testBit_or, Nat.testBit_two_pow_self, Bool.or_true]
  have := cnt_add1 e1 hb e2 16
  rw [if_pos ha] at this
  exact this
