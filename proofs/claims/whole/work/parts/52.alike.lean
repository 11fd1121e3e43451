-- two songs alike
def thS (c : List Nat) (w : Cd) (s : List Mv) : Cd := s.foldl (fun w m => (tm1 c w m).1) w
theorem thS_succ {c : List Nat} {w : Cd} {s : List Mv} {i : Nat} (hi : i < s.length) : thS c w (s.take (i + 1)) = (tm1 c (thS c w (s.take i)) (gM s i)).1 := by
  unfold thS
  rw [take_succ_gM hi, List.foldl_append]
  rfl
theorem tm1_so {c : List Nat} {w w' : Cd} (m : Mv) (e1 : w.2.2.2.1 = w'.2.2.2.1) (e2 : w.2.2.2.2.1 = w'.2.2.2.2.1) : (tm1 c w m).1.2.2.2.1 = (tm1 c w' m).1.2.2.2.1 ∧ (tm1 c w m).1.2.2.2.2.1 = (tm1 c w' m).1.2.2.2.2.1 := by
  unfold tm1
  rw [e1, e2]
  by_cases q : m.1 = 2
  · rw [if_pos q, if_pos q]; exact ⟨rfl, rfl⟩
  · rw [if_neg q, if_neg q]
    by_cases z : fits1 w'.2.2.2.1 c m = true
    · rw [if_pos z, if_pos z]; exact ⟨rfl, rfl⟩
    · rw [if_neg z, if_neg z]; exact ⟨e1, e2⟩
theorem thS_so {c : List Nat} : ∀ {s : List Mv} {w w' : Cd}, w.2.2.2.1 = w'.2.2.2.1 → w.2.2.2.2.1 = w'.2.2.2.2.1 → (thS c w s).2.2.2.1 = (thS c w' s).2.2.2.1 ∧ (thS c w s).2.2.2.2.1 = (thS c w' s).2.2.2.2.1
  | [], _, _, e1, e2 => ⟨e1, e2⟩
  | m :: s, w, w', e1, e2 => by
    obtain ⟨a, b⟩ := tm1_so (c := c) m e1 e2
    exact thS_so (s := s) a b
theorem pm_thS {n : Nat} {c : List Nat} {w : Cd} {s : List Mv} (hp : pm n w.2.2.2.1) (h0 : 0 < n) (hs : sgN n s) : ∀ i, i ≤ s.length → pm n (thS c w (s.take i)).2.2.2.1
  | 0, _ => hp
  | i + 1, h => by
    rw [thS_succ (by omega)]
    exact pm_tm1 (pm_thS hp h0 hs i (by omega)) h0 (hs _ (gM_mem (by omega)))
def w00 (x : Int32) (n : Nat) : Cd := (x, nI 0, fun _ => 0, List.range n, fun _ => 0, [])
def Alk (sa sb : List Nat) (oa ob : Nat → Int32) (r : Int32) : Prop := (sa ≠ sb ∧ r = nI 0) ∨ (sa = sb ∧ (∀ j, j < 256 → oa j = ob j) ∧ r = nI 2) ∨ (sa = sb ∧ ¬ (∀ j, j < 256 → oa j = ob j) ∧ r = nI 1)
theorem Alk_uniq {sa sb : List Nat} {oa ob : Nat → Int32} {r r' : Int32} (a : Alk sa sb oa ob r) (b : Alk sa sb oa ob r') : r' = r := by
  rcases a with ⟨a1, a2⟩ | ⟨a1, a2, a3⟩ | ⟨a1, a2, a3⟩
  · rcases b with ⟨b1, b2⟩ | ⟨b1, b2, b3⟩ | ⟨b1, b2, b3⟩
    · rw [a2, b2]
    · exact absurd b1 a1
    · exact absurd b1 a1
  · rcases b with ⟨b1, b2⟩ | ⟨b1, b2, b3⟩ | ⟨b1, b2, b3⟩
    · exact absurd a1 b1
    · rw [a3, b3]
    · exact absurd a2 b2
  · rcases b with ⟨b1, b2⟩ | ⟨b1, b2, b3⟩ | ⟨b1, b2, b3⟩
    · exact absurd a1 b1
    · exact absurd b2 a2
    · rw [a3, b3]
section Alike
variable {d : Nat} {T : HT} {h : Hp} {Q : Option Value → Hp → Prop} {n : Nat}
theorem s_fill (hL : Lay T) (eT : h.2.2 = T) {a m : Nat} (hk : kd T a = (1, m)) (hm : m < 2 ^ 31) (x : Int32) (K : ∀ h' : Hp, h'.2 = h.2 → (∀ b j, gI h' b j = if b = a ∧ j < m then x else gI h b j) → Q none h') : Call (d + 0) MJ7_fill_53178 [.ref a, .int x] h Q := by
  refine b_J7_fill_53178 hL eT _ _ _ hk ?_
  refine upto m (fun i h1 => h1.2 = h.2 ∧ ∀ b j, gI h1 b j = if b = a ∧ j < i then x else gI h b j) (fun i h1 => L_J7_fill_53178_5 d a m x (nI i) (nI m) h1 Q) ?_ ?_ 0 h (Nat.zero_le _) ⟨rfl, fun b j => by rw [if_neg (by omega)]⟩
  · rintro i h1 hi ⟨e2, g⟩ ih
    refine b_J7_fill_53178_5 hL (e2T e2 eT) _ _ _ _ _ hk ?_
    rw [nI_add, nI_clamp (by omega)]
    refine ⟨fun _ => ⟨(inB_iff (by omega)).mpr hi, ih _ ⟨e2, fun b j => ?_⟩⟩, fun z => absurd (nI_lt hi hm) z⟩
    rw [gI_sI, g]
    by_cases z : b = a ∧ j = i
    · rw [if_pos z, if_pos ⟨z.1, by omega⟩]
    · rw [if_neg z]
      by_cases y : b = a ∧ j < i
      · rw [if_pos y, if_pos ⟨y.1, by omega⟩]
      · rw [if_neg y, if_neg (fun k => by
          by_cases w : j = i
          · exact z ⟨k.1, w⟩
          · exact y ⟨k.1, by omega⟩)]
  · rintro h1 ⟨e2, g⟩
    exact b_J7_fill_53178_5 hL (e2T e2 eT) _ _ _ _ _ hk ⟨fun z => absurd z (nI_nlt (Nat.le_refl _) hm), fun _ => K h1 e2 g⟩
theorem s_startCord (hL : Lay T) (eT : h.2.2 = T) {a : Nat} (hA : IsX1 T a) (h16 : n ≤ 16) (K : ∀ h' : Hp, h'.2.2 = h.2.2 → (∀ b j, (b = a → j ≠ 2 ∧ j ≠ 3) → b ≠ a + 1 → b ≠ a + 2 → gI h' b j = gI h b j) → (∀ b j, ¬ (b = a ∧ j = 0) → gJ h' b j = gJ h b j) → CC h' a (w00 (gI h a 1) n) → gI h' a 3 = nI 0 → Q none h') : Call (d + 2) MX1_startAnew [.ref a, .int (nI n)] h Q := by
  refine b_X1_startAnew hL eT _ _ hA ?_
  rw [home_enc h16]
  refine s_fill (d := d + 1) (h := sI (sI (sJ h a 0 (lN (enc (List.range n)))) a 2 (nI 0)) a 3 (nI 0)) hL eT (X1_k1 hA) (by decide) _ (fun h1 e1 g1 => ⟨rfl, e2T e1 eT, ?_⟩)
  refine s_fill (d := d + 1) hL (e2T e1 eT) (X1_k2 hA) (by decide) _ (fun h2 e2 g2 => ⟨rfl, e2T (e2.trans e1) eT, ?_⟩)
  have ej : ∀ b j, gJ h2 b j = gJ (sJ h a 0 (lN (enc (List.range n)))) b j := fun b j => by rw [gJ_e2 e2, gJ_e2 e1]; rfl
  refine K h2 (by rw [e2, e1]; rfl) (fun b j u v z => ?_) (fun b j u => ?_) ⟨?_, ?_, ?_, fun s hs => ?_, fun j hj => ?_⟩ ?_
  · rw [g2, if_neg (fun k => z k.1), g1, if_neg (fun k => v k.1), gI_sI, if_neg (fun k => (u k.1).2 k.2), gI_sI, if_neg (fun k => (u k.1).1 k.2), gI_sJ]
  · rw [ej, gJ_sJ, if_neg u]
  · rw [ej, gJ_sJ_at, if_pos rfl]; rfl
  · rw [g2, if_neg (by omega), g1, if_neg (by omega), gI_sI_at, if_neg (by decide), gI_sI_at, if_neg (by decide)]; rfl
  · rw [g2, if_neg (by omega), g1, if_neg (by omega), gI_sI_at, if_neg (by decide), gI_sI_at, if_pos rfl]; rfl
  · rw [g2, if_neg (by omega), g1, if_pos ⟨rfl, hs⟩]; rfl
  · rw [g2, if_pos ⟨rfl, hj⟩]; rfl
  · rw [g2, if_neg (by omega), g1, if_neg (by omega), gI_sI_at, if_pos rfl]
theorem s_inThought (hL : Lay T) (eT : h.2.2 = T) {a : Nat} (hA : IsX1 T a) (ha : 28 ≤ a) (h0 : 0 < n) (h16 : n ≤ 16) {c : List Nat} (hc : sm c) (hc16 : c.length ≤ 16) {w : Cd} (hp : pm n w.2.2.2.1) (hC : CC h a w) {k : Nat} (hk : k < 4) {s : List Mv} (hG : SG h (20 + 2 * k) s) (hN : sgN n s)
    (K : ∀ h' : Hp, h'.2.2 = h.2.2 → (∀ b j, b ≠ a + 1 → b ≠ a + 2 → (b = a → j ≠ 2) → gI h' b j = gI h b j) → (∀ b j, b ≠ a → gJ h' b j = gJ h b j) → CC h' a (thS c w s) → Q none h') : Call (d + 4) MX1_singInThought [.ref a, .ref (20 + 2 * k), .long (lN (enc c)), .int (nI n)] h Q := by
  have h200 := hG.1
  have hI7 := isX7_song hL hk
  refine b_X1_singInThought hL eT _ _ _ _ hA hI7 ?_
  refine upto s.length (fun i h1 => h1.2.2 = h.2.2 ∧ (∀ b j, b ≠ a + 1 → b ≠ a + 2 → (b = a → j ≠ 2) → gI h1 b j = gI h b j) ∧ (∀ b j, b ≠ a → gJ h1 b j = gJ h b j) ∧ CC h1 a (thS c w (s.take i))) (fun i h1 => L_X1_singInThought_3 d a (20 + 2 * k) (lN (enc c)) (nI n) (nI i) h1 Q) ?_ ?_ 0 h (Nat.zero_le _) ⟨rfl, fun _ _ _ _ _ => rfl, fun _ _ _ => rfl, hC⟩
  · rintro i h1 hi ⟨e2, g, gj, m⟩ ih
    have hpi := pm_thS (c := c) hp h0 hN i (by omega)
    have f0 : gI h1 (20 + 2 * k) 0 = nI s.length := by rw [g _ _ (by omega) (by omega) (by omega)]; exact hG.2.1
    have f1 : gI h1 (20 + 2 * k + 1) i = nI (pk (gM s i)) := by rw [g _ _ (by omega) (by omega) (by omega)]; exact hG.2.2 i hi
    refine b_X1_singInThought_3 hL (e2.trans eT) _ _ _ _ _ hA hI7 ?_
    rw [f0, nI_clamp (by omega), f1, nI_add]
    refine ⟨fun _ => ⟨(inB_iff (by omega)).mpr (by omega), ?_⟩, fun z => absurd (nI_lt hi (by omega)) z⟩
    refine s_make (d := d) hL (e2.trans eT) hA h0 h16 hc hc16 hpi m (hN _ (gM_mem hi)) (fun h2 e3 g3 j3 m3 => ⟨_, rfl, e3.trans (e2.trans eT), ih h2 ⟨e3.trans e2, fun b j u v z => by rw [g3 b j u v z, g b j u v z], fun b j u => by rw [j3 b j u, gj b j u], ?_⟩⟩)
    rw [thS_succ hi]
    exact m3
  · rintro h1 ⟨e2, g, gj, m⟩
    refine b_X1_singInThought_3 hL (e2.trans eT) _ _ _ _ _ hA hI7 ?_
    rw [g _ _ (by omega) (by omega) (by omega), hG.2.1]
    rw [List.take_length] at m
    exact ⟨fun z => absurd z (nI_nlt (Nat.le_refl _) (by omega)), fun _ => K h1 e2 g gj m⟩
theorem s_overLike (hL : Lay T) (eT : h.2.2 = T) {a b : Nat} (hA : IsX1 T a) (hB : IsX1 T b) (K : ∀ r : Bool, (r = true ↔ ∀ j, j < 256 → gI h (a + 2) j = gI h (b + 2) j) → Q (some (.int (b2i r))) h) : Call (d + 0) MX1_isOverLike [.ref a, .ref b] h Q := by
  refine b_X1_isOverLike hL eT _ _ hA hB ?_
  refine upto 256 (fun i h1 => h1 = h ∧ ∀ j, j < i → gI h (a + 2) j = gI h (b + 2) j) (fun i h1 => L_X1_isOverLike_2 d a b (nI i) h1 Q) ?_ ?_ 0 h (Nat.zero_le _) ⟨rfl, fun j hj => by omega⟩
  · rintro i h1 hi ⟨rfl, al⟩ ih
    refine b_X1_isOverLike_2 hL eT _ _ _ hA hB ?_
    rw [nI_clamp (by omega), nI_add]
    refine ⟨fun _ => ⟨(inB_iff (by omega)).mpr hi, (inB_iff (by omega)).mpr hi, fun z => ih _ ⟨rfl, fun j hj => ?_⟩, fun z => K false ⟨fun k => absurd k (by decide), fun k => absurd (k i hi) z⟩⟩, fun z => absurd (nI_lt hi (by decide)) z⟩
    by_cases v : j = i
    · rw [v]; exact z
    · exact al j (by omega)
  · rintro h1 ⟨rfl, al⟩
    exact b_X1_isOverLike_2 hL eT _ _ _ hA hB ⟨fun z => absurd z (by decide), fun _ => K true ⟨fun _ => al, fun _ => rfl⟩⟩
theorem s_alikeC (hL : Lay T) (eT : h.2.2 = T) (hn : gI h 12 0 = nI n) (h0 : 0 < n) (h16 : n ≤ 16) {c : List Nat} (hc : sm c) (hc16 : c.length ≤ 16) (hd : gJ h 12 2 = lN (enc c)) {sg : Nat → List Mv} (hG : ∀ k, k < 4 → SG h (20 + 2 * k) (sg k)) (hN : ∀ k, k < 4 → sgN n (sg k)) {a b : Nat} (ha : a < 4) (hb : b < 4)
    (K : ∀ (h' : Hp) r, Scr h h' → Alk (thS c (w00 0 n) (sg a)).2.2.2.1 (thS c (w00 0 n) (sg b)).2.2.2.1 (thS c (w00 0 n) (sg a)).2.2.2.2.1 (thS c (w00 0 n) (sg b)).2.2.2.2.1 r → Q (some (.int r)) h') : Call (d + 5) MX10_alike [.ref 1, .int (nI a), .int (nI b)] h Q := by
  refine b_X10_alike hL eT _ _ ⟨fun _ => ⟨fun _ => ?_, fun z => absurd (isSongC_iff.mpr ⟨b, hb, rfl⟩) z⟩, fun z => absurd (isSongC_iff.mpr ⟨a, ha, rfl⟩) z⟩
  rw [hn]
  refine s_startCord (d := d + 2) hL eT (isX1_53 hL) h16 (fun h1 t1 g1 j1 c1 _ => ⟨rfl, t1.trans eT, a, rfl, ha, ?_⟩)
  rw [j1 12 2 (by omega), g1 12 0 (by omega) (by omega) (by omega), hn, hd]
  refine s_inThought (d := d) hL (t1.trans eT) (isX1_53 hL) (by decide) h0 h16 hc hc16 (pm_range n) c1 ha ((hG a ha).tr (fun b j u v => g1 b j (by omega) (by omega) (by omega))) (hN a ha) (fun h2 t2 g2 j2 c2 => ⟨rfl, t2.trans (t1.trans eT), ?_⟩)
  rw [g2 12 0 (by omega) (by omega) (by omega), g1 12 0 (by omega) (by omega) (by omega), hn]
  refine s_startCord (d := d + 2) hL (t2.trans (t1.trans eT)) (isX1_56 hL) h16 (fun h3 t3 g3 j3 c3 _ => ⟨rfl, t3.trans (t2.trans (t1.trans eT)), b, rfl, hb, ?_⟩)
  rw [j3 12 2 (by omega), j2 12 2 (by omega), j1 12 2 (by omega), g3 12 0 (by omega) (by omega) (by omega), g2 12 0 (by omega) (by omega) (by omega), g1 12 0 (by omega) (by omega) (by omega), hn, hd]
  refine s_inThought (d := d) hL (t3.trans (t2.trans (t1.trans eT))) (isX1_56 hL) (by decide) h0 h16 hc hc16 (pm_range n) c3 hb ((hG b hb).tr (fun b j u v => by rw [g3 b j (by omega) (by omega) (by omega), g2 b j (by omega) (by omega) (by omega), g1 b j (by omega) (by omega) (by omega)])) (hN b hb) (fun h4 t4 g4 j4 c4 => ⟨rfl, t4.trans (t3.trans (t2.trans (t1.trans eT))), ?_⟩)
  have scr : Scr h h4 := ⟨t4.trans (t3.trans (t2.trans t1)), fun b j _ u _ _ => by rw [g4 b j (by omega) (by omega) (by omega), g3 b j (by omega) (by omega) (by omega), g2 b j (by omega) (by omega) (by omega), g1 b j (by omega) (by omega) (by omega)], fun b j u => by rw [j4 b j (by omega), j3 b j (by omega), j2 b j (by omega), j1 b j (by omega)]⟩
  have c2' : CC h4 53 (thS c (w00 (gI h 53 1) n) (sg a)) := c2.tr (fun b j u v => by rw [g4 b j (by omega) (by omega) (by omega), g3 b j (by omega) (by omega) (by omega)]) (by rw [j4 53 0 (by omega), j3 53 0 (by omega)])
  have so1 := thS_so (c := c) (s := sg a) (w := w00 (gI h 53 1) n) (w' := w00 0 n) rfl rfl
  have so2 := thS_so (c := c) (s := sg b) (w := w00 (gI h2 56 1) n) (w' := w00 0 n) rfl rfl
  have p1 := pm_thS (c := c) (w := w00 0 n) (pm_range n) h0 (hN a ha) (sg a).length (Nat.le_refl _)
  have p2 := pm_thS (c := c) (w := w00 0 n) (pm_range n) h0 (hN b hb) (sg b).length (Nat.le_refl _)
  rw [List.take_length] at p1 p2
  have k1 : gJ h4 53 0 = lN (enc (thS c (w00 0 n) (sg a)).2.2.2.1) := by rw [← so1.1]; exact c2'.1
  have k2 : gJ h4 56 0 = lN (enc (thS c (w00 0 n) (sg b)).2.2.2.1) := by rw [← so2.1]; exact c4.1
  have o1 : ∀ j, j < 256 → gI h4 (53 + 2) j = (thS c (w00 0 n) (sg a)).2.2.2.2.1 j := fun j hj => by rw [← so1.2]; exact c2'.2.2.2.2 j hj
  have o2 : ∀ j, j < 256 → gI h4 (56 + 2) j = (thS c (w00 0 n) (sg b)).2.2.2.2.1 j := fun j hj => by rw [← so2.2]; exact c4.2.2.2.2 j hj
  rw [k1, k2, lcmp0, encL_iff (pm_sm p1 h16) (pm_sm p2 h16) (by rw [p1.1, p2.1]) (by rw [p1.1]; exact h16)]
  have eT4 := t4.trans (t3.trans (t2.trans (t1.trans eT)))
  refine ⟨fun z => s_overLike (d := d + 4) hL eT4 (isX1_53 hL) (isX1_56 hL) (fun r er => ⟨_, rfl, eT4, fun z2 => K h4 _ scr (Or.inr (Or.inl ⟨z, fun j hj => ?_, rfl⟩)), fun z2 => K h4 _ scr (Or.inr (Or.inr ⟨z, fun al => z2 (er.mpr (fun j hj => ?_)), rfl⟩))⟩), fun z => K h4 _ scr (Or.inl ⟨z, rfl⟩)⟩
  · rw [← o1 j hj, ← o2 j hj]; exact er.mp z2 j hj
  · rw [o1 j hj, o2 j hj]; exact al j hj
def ovF (b j : Nat) : Prop := b ≠ 65 ∧ b ≠ 66 ∧ (b = 60 → ¬ (60 ≤ j ∧ j < 316))
theorem s_singsAlone (hL : Lay T) (eT : h.2.2 = T) {c : List Nat} {sg : Nat → List Mv} (hb : MB h n c sg) {k : Nat} (hk : k < 4)
    (K : ∀ h' : Hp, h'.2 = h.2 → (∀ b j, ovF b j → gI h' b j = gI h b j) → MS h' (thS c (w00 0 n) (sg k)).2.2.2.1 → (∀ j, j < 256 → gI h' 60 (60 + j) = (thS c (w00 0 n) (sg k)).2.2.2.2.1 j) → Q none h') : Call (d + 3) MX11_singsAlone [.ref 59, .int (nI k)] h Q := by
  obtain ⟨c1, ⟨c2, c3⟩, ⟨c4, c5, c6⟩, c7⟩ := id hb
  obtain ⟨hG, hN⟩ := c7 k hk
  have h200 := hG.1
  refine b_X11_singsAlone hL eT _ ?_
  refine upto 256 (fun i h1 => h1.2 = h.2 ∧ (∀ b j, ovF b j → gI h1 b j = gI h b j) ∧ ∀ j, j < i → gI h1 60 (60 + j) = nI 0) (fun i h1 => L_X11_singsAlone_2 d (nI k) (nI i) h1 Q) ?_ ?_ 0 h (by decide) ⟨rfl, fun _ _ _ => rfl, fun j hj => by omega⟩
  · rintro i h1 hi ⟨e2, g, z⟩ ih
    refine b_X11_singsAlone_2 hL (e2T e2 eT) _ _ ?_
    rw [nI_add, nI_clamp (by omega), nI_add]
    refine ⟨fun _ => ⟨(inB_iff (by omega)).mpr (by omega), ih _ ⟨e2, fun b j u => ?_, fun j hj => ?_⟩⟩, fun q => absurd (nI_lt hi (by decide)) q⟩
    · rw [gI_sI, if_neg (fun q => u.2.2 q.1 (by omega))]; exact g b j u
    · rw [gI_sI_at]
      by_cases v : 60 + j = 60 + i
      · rw [if_pos v]
      · rw [if_neg v]; exact z j (by omega)
  · rintro h1 ⟨e2, g, z⟩
    refine b_X11_singsAlone_2 hL (e2T e2 eT) _ _ ⟨fun q => absurd q (by decide), fun _ => ?_⟩
    have fz : ∀ j, (j < 60 ∨ 316 ≤ j) → gI h1 60 j = gI h 60 j := fun j hj => g 60 j ⟨by decide, by decide, fun _ => by omega⟩
    refine s_sitsAtFirst (d := d + 2) hL (e2T e2 eT) (by rw [fz _ (by omega)]; exact c1) c3 (fun h0 e0 g0 s0 => ⟨rfl, e2T (e0.trans e2) eT, ?_⟩)
    refine upto (sg k).length (fun i h2 => h2.2 = h.2 ∧ (∀ b j, ovF b j → gI h2 b j = gI h b j) ∧ MS h2 (thS c (w00 0 n) ((sg k).take i)).2.2.2.1 ∧ ∀ j, j < 256 → gI h2 60 (60 + j) = (thS c (w00 0 n) ((sg k).take i)).2.2.2.2.1 j) (fun i h2 => L_X11_singsAlone_31 d (nI k) (nI i) h2 Q) ?_ ?_ 0 h0 (Nat.zero_le _) ⟨e0.trans e2, fun b j u => by rw [g0 b j u.1, g b j u], s0, fun j hj => by rw [g0 _ _ (by decide), z j hj]; rfl⟩
    · rintro i h2 hi ⟨e3, g3, s3, o3⟩ ih
      have hpi := pm_thS (c := c) (w := w00 0 n) (pm_range n) (show 0 < n by omega) hN i (by omega)
      have f3 : ∀ j, (j < 60 ∨ 316 ≤ j) → gI h2 60 j = gI h 60 j := fun j hj => g3 60 j ⟨by decide, by decide, fun _ => by omega⟩
      have hb2 : MB h2 n c sg := hb.tr (fun j q => f3 j (by omega))
      obtain ⟨d1, ⟨d2, d3⟩, ⟨d4, d5, d6⟩, d7⟩ := id hb2
      have hm := hN _ (gM_mem hi)
      rw [thS_succ hi] at ih
      generalize thS c (w00 0 n) ((sg k).take i) = w at *
      have hl := hpi.1
      refine b_X11_singsAlone_31 hL (e2T e3 eT) _ _ ?_
      rw [nI_add, nI_clamp (by omega), (d7 k hk).1.2.1, nI_add]
      refine ⟨(inB_iff (by omega)).mpr (by omega), fun _ => ?_, fun q => absurd (nI_lt hi (by omega)) q⟩
      refine s_moves (d := d) (c := c) hL (e2T e3 eT) (by rw [hl]; exact d1) (by omega) s3 d4 d5 (pm_sm hpi c3) hpi.2.1 (by omega) hk (d7 k hk).1 (by rw [hl]; exact (d7 k hk).2) hi (m := gM (sg k) i) (mi := 0) (by decide) (by decide : (1 : Nat) < 2) m1_dr (by decide : (1 : Nat) < 2) (by rw [if_neg (by decide)]) ?_ ?_ ?_
      · intro q h4 e4 g4 s4
        have e : (tm1 c w (gM (sg k) i)).1 = (w.1, w.2.1, w.2.2.1, mk1 w.2.2.2.1 (gM (sg k) i), w.2.2.2.2.1, w.2.2.2.2.2) := by unfold tm1; rw [if_pos q]
        rw [e] at ih
        exact ⟨_, rfl, e2T (e4.trans e3) eT, ih h4 ⟨e4.trans e3, fun b j u => by rw [g4 b j u.1 u.2.1, g3 b j u], s4, fun j hj => by rw [g4 _ _ (by decide) (by decide)]; exact o3 j hj⟩⟩
      · intro q y
        have hx := sm_getD (pm_sm hpi c3) (gM (sg k) i).2.1
        have e : (tm1 c w (gM (sg k) i)).1 = w := by
          unfold tm1
          rw [if_neg q, if_neg (y.elim (fun y => by omega) (fun y => y.2))]
        rw [e] at ih
        exact ⟨_, rfl, e2T e3 eT, ih h2 ⟨e3, g3, s3, o3⟩⟩
      · intro q _ y h4 e4 g4 s4 o
        have hx := sm_getD (pm_sm hpi c3) (gM (sg k) i).2.1
        have hab := hm.2.2.1 (by have := hm.1; omega)
        have e : (tm1 c w (gM (sg k) i)).1 = (w.1, w.2.1 + nI 1, inc (w.2.2.2.1.getD (gM (sg k) i).2.1 0) w.2.2.1, mk1 w.2.2.2.1 (gM (sg k) i), ovr w.2.2.2.1 (gM (sg k) i) w.2.2.2.2.1, addR c (w.2.2.2.1.getD (gM (sg k) i).2.1 0) w.2.2.2.2.2) := by unfold tm1; rw [if_neg q, if_pos (y rfl)]
        rw [e] at ih
        refine ⟨_, rfl, e2T (e4.trans e3) eT, ih h4 ⟨e4.trans e3, fun b j u => ?_, s4, fun j hj => ?_⟩⟩
        · by_cases v : b = 60
          · have := u.2.2 v
            rw [v, o.1 j (by omega), ← v, g3 b j u]
          · rw [g4 b j v u.1, g3 b j u]
        · obtain ⟨o1, o2⟩ := o.2 (j / 16) (j % 16) (by omega) (by omega)
          rw [show 60 + 16 * (j / 16) + j % 16 = 60 + j by omega] at o1 o2
          show gI h4 60 (60 + j) = ovr w.2.2.2.1 (gM (sg k) i) w.2.2.2.2.1 j
          unfold ovr
          by_cases v : j / 16 = w.2.2.2.1.getD (gM (sg k) i).2.1 0 ∧ passB w.2.2.2.1 (gM (sg k) i) (j % 16) = true
          · rw [if_pos v, o1 ⟨v.1, (passB_iff (by omega) (by omega) (by omega)).mp v.2⟩, o3 j hj]
          · rw [if_neg v, o2 (fun u => v ⟨u.1, (passB_iff (by omega) (by omega) (by omega)).mpr u.2⟩), o3 j hj]
    · rintro h2 ⟨e3, g3, s3, o3⟩
      rw [List.take_length] at s3 o3
      have f3 : ∀ j, (j < 60 ∨ 316 ≤ j) → gI h2 60 j = gI h 60 j := fun j hj => g3 60 j ⟨by decide, by decide, fun _ => by omega⟩
      refine b_X11_singsAlone_31 hL (e2T e3 eT) _ _ ?_
      rw [nI_add, nI_clamp (by omega), f3 _ (by omega), hG.2.1]
      exact ⟨(inB_iff (by omega)).mpr (by omega), fun q => absurd q (nI_nlt (Nat.le_refl _) (by omega)), fun _ => K h2 e3 g3 s3 o3⟩
end Alike
