-- the class's singing in thought
section Sung
variable {d : Nat} {T : HT} {h : Hp} {Q : Option Value → Hp → Prop}
theorem s_sungFrom (hL : Lay T) (eT : h.2.2 = T) {a : Nat} (hA : IsX7 T a) {n : Nat} (h0 : 0 < n) (h16 : n ≤ 16) {l c : List Nat} (hl : l.length = n) (hsm : sm l) (hc : sm c) (hc16 : c.length ≤ 16) {s : List Mv} (hG : SG h a s) (hN : sgN n s) {dr : Nat} {x6 : Int32} (hx : ∀ v, v < 16 → (nI v = x6 ↔ v = dr)) (K : Q (some (.long (lN (enc (singD c dr l s))))) h) : Call (d + 3) MX7_sungFrom [.ref a, .long (lN (enc l)), .long (lN (enc c)), .int (nI n), .int x6] h Q := by
  obtain ⟨g1, g2, g3⟩ := hG
  refine b_X7_sungFrom hL eT _ _ _ _ _ hA ?_
  refine upto s.length (fun _ h1 => h1 = h) (fun i h1 => L_X7_sungFrom_6 d a (lN (enc c)) (nI n) x6 (lN (enc (singD c dr l (s.take i)))) (nI i) h1 Q) ?_ ?_ 0 h (Nat.zero_le _) rfl
  · rintro i h1 hi rfl ih
    have hm := hN _ (gM_mem hi)
    obtain ⟨b1, b2, b3, b4, b5⟩ := mv_b hm h16
    obtain ⟨s1, s2⟩ := sing_ok (c := c) (dr := dr) (s := s.take i) hsm (by rw [hl]; exact fun m hm => hN m (List.mem_of_mem_take hm))
    rw [singD_succ hi] at ih
    generalize singD c dr l (s.take i) = l1 at *
    rw [hl] at s2
    obtain ⟨p1, p2⟩ := made_enc (c := c) s1 (by omega) (by omega) hc hc16 (by rw [s2]; exact hm)
    rw [s2] at p1 p2
    refine b_X7_sungFrom_6 hL eT _ _ _ _ _ _ hA ?_
    rw [g2, nI_clamp (by omega), g3 i hi, p2, from_pk b1 b2 b5, get_enc s1 (by omega) b2, hx _ (sm_getD s1 _), nI_add]
    refine ⟨fun _ => ⟨(inB_iff (by omega)).mpr (by omega), fun q => ⟨p1, ?_⟩, fun q => ⟨fun z => ?_, fun z => ⟨p1, ?_⟩⟩⟩, fun q => absurd (nI_lt hi (by omega)) q⟩
    · have q := (isTurn_pk b1).mp q
      have e : mvd c dr l1 (gM s i) = mv1 l1 c (gM s i) := by unfold mvd; rw [if_neg (fun z => z.1 q)]
      rw [e] at ih
      exact ih _ rfl
    · have q : (gM s i).1 ≠ 2 := fun z => q ((isTurn_pk b1).mpr z)
      have e : mvd c dr l1 (gM s i) = l1 := by unfold mvd; rw [if_pos ⟨q, z⟩]
      rw [e] at ih
      exact ih _ rfl
    · have e : mvd c dr l1 (gM s i) = mv1 l1 c (gM s i) := by unfold mvd; rw [if_neg (fun y => z y.2)]
      rw [e] at ih
      exact ih _ rfl
  · rintro h1 rfl
    refine b_X7_sungFrom_6 hL eT _ _ _ _ _ _ hA ?_
    rw [List.take_length, g2]
    exact ⟨fun q => absurd q (nI_nlt (Nat.le_refl _) (by omega)), fun _ => K⟩
theorem s_seen (hL : Lay T) (eT : h.2.2 = T) {a : Nat} (hA : IsX8 T a) {n : Nat} (hn : gI h a 0 = nI n) (h16 : n ≤ 16) {l c : List Nat} (hl : l.length = n) (hsm : sm l) (hc : sm c) (hc16 : c.length ≤ 16) (hd : gJ h a 2 = lN (enc c)) (K : Q (some (.long (lN (enc (l.map (fun x => c.getD x 0)))))) h) : Call (d + 1) MX8_seen [.ref a, .long (lN (enc l))] h Q := by
  refine b_X8_seen hL eT _ _ hA ?_
  refine upto n (fun _ h1 => h1 = h) (fun i h1 => L_X8_seen_5 d a (lN (enc l)) (lN (enc ((l.take i).map (fun x => c.getD x 0)))) (nI i) h1 Q) ?_ ?_ 0 h (Nat.zero_le _) rfl
  · rintro i h1 hi rfl ih
    have hlen : ((l.take i).map (fun x => c.getD x 0)).length = i := by rw [List.length_map, List.length_take]; omega
    have hsi : sm ((l.take i).map (fun x => c.getD x 0)) := fun x hx => by
      obtain ⟨y, _, e⟩ := List.mem_map.mp hx
      rw [← e]; exact sm_getD hc y
    have e1 : (l.take (i + 1)).map (fun x => c.getD x 0) = (l.take i).map (fun x => c.getD x 0) ++ [c.getD (l.getD i 0) 0] := by
      have e0 : l[i]? = some (l.getD i 0) := by
        rw [List.getD_eq_getElem?_getD, List.getElem?_eq_getElem (by omega)]; rfl
      rw [List.take_succ, List.map_append, e0]
      rfl
    have hw := with_push hsi (by omega) (sm_getD hc (l.getD i 0))
    rw [hlen, ← e1] at hw
    refine b_X8_seen_5 hL eT _ _ _ _ hA ?_
    rw [hn, hd, get_enc hsm (by omega) (by omega), get_enc hc hc16 (sm_getD hsm i), hw, nI_add]
    exact ⟨fun _ => ih _ rfl, fun q => absurd (nI_lt hi (by omega)) q⟩
  · rintro h1 rfl
    refine b_X8_seen_5 hL eT _ _ _ _ hA ?_
    rw [hn, List.take_of_length_le (by omega)]
    exact ⟨fun q => absurd q (nI_nlt (Nat.le_refl _) (by omega)), fun _ => K⟩
theorem mvd16 {l c : List Nat} (h : sm l) (m : Mv) : mvd c 16 l m = mv1 l c m := by
  have := sm_getD h m.2.1
  unfold mvd
  rw [if_neg (fun z => by omega)]
theorem mirrored_pk {n : Nat} {m : Mv} (hm : mvN n m) (h0 : 0 < n) (h16 : n ≤ 16) : p_X4_mirrored (nI (pk m)) (nI n) ∧ r_X4_mirrored (nI (pk m)) (nI n) = nI (pk (mir n m)) := by
  obtain ⟨b1, b2, b3, b4, b5⟩ := mv_b hm h16
  have hz : ¬ nI n = 0 := fun z => by have := (nI_eq0 (by omega)).mp z; omega
  constructor
  · exact ⟨fun _ => ⟨fun _ => ⟨hz, hz, trivial⟩, fun _ => trivial⟩, fun _ => trivial⟩
  · unfold r_X4_mirrored mir
    rw [kind_pk b1, from_pk b1 b2 b5, to_pk b1 b2 b3 b5, asked_pk b1 b2 b3 b5]
    by_cases q : m.1 = 2
    · have hlt : m.2.1 % n < n := Nat.mod_lt _ h0
      have hlt2 : (n - m.2.1 % n) % n < n := Nat.mod_lt _ h0
      rw [q, if_pos rfl, if_pos rfl, if_pos ((nI_gt0 (by omega)).mpr h0), irem_nI (by omega) h0 (by omega), pk_sub (by omega), irem_nI (by omega) h0 (by omega)]
      exact packed_pk _ (by decide) (by decide) (by omega) (by decide) (by decide)
    · have hab := hm.2.2.1 (by have := hm.1; omega)
      rw [if_neg (fun z => q (nI_inj (by omega) (by omega) z)), if_neg q, pk_sub (by omega), pk_sub (by omega), pk_sub (by omega)]
      refine packed_pk _ ?_ b1 (by omega) (by omega) b4
      exact Int32.sub_add_cancel _ _
theorem s_mirroredFrom (hL : Lay T) (eT : h.2.2 = T) {a : Nat} (hA : IsX7 T a) {n : Nat} (h0 : 0 < n) (h16 : n ≤ 16) {l c : List Nat} (hl : l.length = n) (hsm : sm l) (hc : sm c) (hc16 : c.length ≤ 16) {s : List Mv} (hG : SG h a s) (hN : sgN n s) (K : Q (some (.long (lN (enc (singD c 16 l (mrs n 1 s)))))) h) : Call (d + 3) MX7_mirroredFrom [.ref a, .long (lN (enc l)), .long (lN (enc c)), .int (nI n)] h Q := by
  obtain ⟨g1, g2, g3⟩ := hG
  have hN' : sgN n (mrs n 1 s) := mrs_ok hN h0 h16
  have hlm := len_mrs n 1 s
  refine b_X7_mirroredFrom hL eT _ _ _ _ hA ?_
  refine upto s.length (fun _ h1 => h1 = h) (fun i h1 => L_X7_mirroredFrom_6 d a (lN (enc c)) (nI n) (lN (enc (singD c 16 l ((mrs n 1 s).take i)))) (nI i) h1 Q) ?_ ?_ 0 h (Nat.zero_le _) rfl
  · rintro i h1 hi rfl ih
    have hm := hN _ (gM_mem hi)
    obtain ⟨q1, q2⟩ := mirrored_pk hm h0 h16
    obtain ⟨s1, s2⟩ := sing_ok (c := c) (dr := 16) (s := (mrs n 1 s).take i) hsm (by rw [hl]; exact fun m hm => hN' m (List.mem_of_mem_take hm))
    rw [singD_succ (by omega), gM_mrs hi, if_pos rfl] at ih
    generalize singD c 16 l ((mrs n 1 s).take i) = l1 at *
    rw [hl] at s2
    rw [mvd16 s1] at ih
    obtain ⟨p1, p2⟩ := made_enc (c := c) s1 (by omega) (by omega) hc hc16 (by rw [s2]; exact mir_ok hm h0 h16)
    rw [s2] at p1 p2
    refine b_X7_mirroredFrom_6 hL eT _ _ _ _ _ hA ?_
    rw [g2, nI_clamp (by omega), g3 i hi, q2, p2, nI_add]
    exact ⟨fun _ => ⟨(inB_iff (by omega)).mpr (by omega), q1, p1, ih _ rfl⟩, fun q => absurd (nI_lt hi (by omega)) q⟩
  · rintro h1 rfl
    refine b_X7_mirroredFrom_6 hL eT _ _ _ _ _ hA ?_
    rw [List.take_of_length_le (by omega), g2]
    exact ⟨fun q => absurd q (nI_nlt (Nat.le_refl _) (by omega)), fun _ => K⟩
end Sung
