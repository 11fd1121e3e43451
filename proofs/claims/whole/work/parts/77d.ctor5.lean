section Ctor5
variable {d : Nat} {h : Hp} {Q : Option Value → Hp → Prop}
def S11 : List (Nat × Nat) := [(1, 4180), (1, 4180), (1, 1896), (1, 800), (1, 400), (1, 16), (1, 16), (1, 16384), (1, 16384), (1, 5040), (1, 7), (1, 256), (1, 256), (1, 16), (1, 200), (1, 202), (1, 16)]
def R11 (h : Hp) : Prop := gR h 59 0 = some 60 ∧ gR h 59 1 = some 61 ∧ gR h 59 2 = some 62 ∧ gR h 59 5 = some 63 ∧ gR h 59 6 = some 64 ∧ gR h 59 17 = some 65 ∧ gR h 59 18 = some 66 ∧ gR h 59 19 = some 67 ∧ gR h 59 20 = some 68 ∧ gR h 59 21 = some 69 ∧ gR h 59 22 = some 70 ∧ gR h 59 24 = some 71 ∧ gR h 59 25 = some 72 ∧ gR h 59 26 = some 73 ∧ gR h 59 27 = some 74 ∧ gR h 59 28 = some 75 ∧ gR h 59 29 = some 76
theorem k_X11a (hk : shp h 59 = (19, 30)) (hz : nxt h = 60) (h0 : ∀ j, gI h 59 j = 0) (K : ∀ h' : Hp, Nw h h' 59 S11 → R11 h' → (∀ j, gI h' 59 j = if j = 16 then -1 else 0) → gI h' 60 2 = 0 → At (d + 1) MX11_init 157 [.ref 59] [] h' Q) : Call (d + 1) MX11_init [.ref 59] h Q := by
  show At (d + 1) MX11_init 0 [.ref 59] [] h Q
  refine At_aload_n (pc' := 1) iX11_init_0 rfl rfl ?_
  refine At_oinit (pc' := 4) iX11_init_1 rfl m_11_1 (Nat.le_of_ble_eq_true rfl) ?_
  refine At_aload_n (pc' := 5) iX11_init_4 rfl rfl ?_
  refine At_sipush (v := nI 4180) (pc' := 8) iX11_init_5 rfl (by decide) ?_
  refine At_newI (N := 4180) (z := 60) (pc' := 10) iX11_init_8 rfl (by decide) (by decide) (by decide) (by (try simp only [nx_new, nxt_sI, nxt_sJ, nxt_sR]); omega) (by omega) ?_
  refine At_putR (pc' := 13) iX11_init_10 rfl f_11_7 (by simp [Nat.add_assoc, sh_new, shp_sI, shp_sJ, shp_sR, nx_new, nxt_sI, nxt_sJ, nxt_sR, hz, hk]) (Or.inr ⟨rfl, rfl⟩) (by decide) (by (try simp only [nx_new, nxt_sI, nxt_sJ, nxt_sR]); omega) ?_
  refine At_aload_n (pc' := 14) iX11_init_13 rfl rfl ?_
  refine At_sipush (v := nI 4180) (pc' := 17) iX11_init_14 rfl (by decide) ?_
  refine At_newI (N := 4180) (z := 61) (pc' := 19) iX11_init_17 rfl (by decide) (by decide) (by decide) (by (try simp only [nx_new, nxt_sI, nxt_sJ, nxt_sR]); omega) (by omega) ?_
  refine At_putR (pc' := 22) iX11_init_19 rfl f_11_13 (by simp [Nat.add_assoc, sh_new, shp_sI, shp_sJ, shp_sR, nx_new, nxt_sI, nxt_sJ, nxt_sR, hz, hk]) (Or.inr ⟨rfl, rfl⟩) (by decide) (by (try simp only [nx_new, nxt_sI, nxt_sJ, nxt_sR]); omega) ?_
  refine At_aload_n (pc' := 23) iX11_init_22 rfl rfl ?_
  refine At_sipush (v := nI 1896) (pc' := 26) iX11_init_23 rfl (by decide) ?_
  refine At_newI (N := 1896) (z := 62) (pc' := 28) iX11_init_26 rfl (by decide) (by decide) (by decide) (by (try simp only [nx_new, nxt_sI, nxt_sJ, nxt_sR]); omega) (by omega) ?_
  refine At_putR (pc' := 31) iX11_init_28 rfl f_11_16 (by simp [Nat.add_assoc, sh_new, shp_sI, shp_sJ, shp_sR, nx_new, nxt_sI, nxt_sJ, nxt_sR, hz, hk]) (Or.inr ⟨rfl, rfl⟩) (by decide) (by (try simp only [nx_new, nxt_sI, nxt_sJ, nxt_sR]); omega) ?_
  refine At_aload_n (pc' := 32) iX11_init_31 rfl rfl ?_
  refine At_sipush (v := nI 800) (pc' := 35) iX11_init_32 rfl (by decide) ?_
  refine At_newI (N := 800) (z := 63) (pc' := 37) iX11_init_35 rfl (by decide) (by decide) (by decide) (by (try simp only [nx_new, nxt_sI, nxt_sJ, nxt_sR]); omega) (by omega) ?_
  refine At_putR (pc' := 40) iX11_init_37 rfl f_11_19 (by simp [Nat.add_assoc, sh_new, shp_sI, shp_sJ, shp_sR, nx_new, nxt_sI, nxt_sJ, nxt_sR, hz, hk]) (Or.inr ⟨rfl, rfl⟩) (by decide) (by (try simp only [nx_new, nxt_sI, nxt_sJ, nxt_sR]); omega) ?_
  refine At_aload_n (pc' := 41) iX11_init_40 rfl rfl ?_
  refine At_sipush (v := nI 400) (pc' := 44) iX11_init_41 rfl (by decide) ?_
  refine At_newI (N := 400) (z := 64) (pc' := 46) iX11_init_44 rfl (by decide) (by decide) (by decide) (by (try simp only [nx_new, nxt_sI, nxt_sJ, nxt_sR]); omega) (by omega) ?_
  refine At_putR (pc' := 49) iX11_init_46 rfl f_11_22 (by simp [Nat.add_assoc, sh_new, shp_sI, shp_sJ, shp_sR, nx_new, nxt_sI, nxt_sJ, nxt_sR, hz, hk]) (Or.inr ⟨rfl, rfl⟩) (by decide) (by (try simp only [nx_new, nxt_sI, nxt_sJ, nxt_sR]); omega) ?_
  refine At_aload_n (pc' := 50) iX11_init_49 rfl rfl ?_
  refine At_iconst (v := (-1)) (pc' := 51) iX11_init_50 rfl (by decide) ?_
  refine At_putI (pc' := 54) iX11_init_51 rfl f_11_25 (by simp [Nat.add_assoc, sh_new, shp_sI, shp_sJ, shp_sR, nx_new, nxt_sI, nxt_sJ, nxt_sR, hz, hk]) (Or.inr ⟨rfl, rfl⟩) (by decide) ?_
  refine At_aload_n (pc' := 55) iX11_init_54 rfl rfl ?_
  refine At_bipush (v := nI 16) (pc' := 57) iX11_init_55 rfl (by decide) ?_
  refine At_newI (N := 16) (z := 65) (pc' := 59) iX11_init_57 rfl (by decide) (by decide) (by decide) (by (try simp only [nx_new, nxt_sI, nxt_sJ, nxt_sR]); omega) (by omega) ?_
  refine At_putR (pc' := 62) iX11_init_59 rfl f_11_29 (by simp [Nat.add_assoc, sh_new, shp_sI, shp_sJ, shp_sR, nx_new, nxt_sI, nxt_sJ, nxt_sR, hz, hk]) (Or.inr ⟨rfl, rfl⟩) (by decide) (by (try simp only [nx_new, nxt_sI, nxt_sJ, nxt_sR]); omega) ?_
  refine At_aload_n (pc' := 63) iX11_init_62 rfl rfl ?_
  refine At_bipush (v := nI 16) (pc' := 65) iX11_init_63 rfl (by decide) ?_
  refine At_newI (N := 16) (z := 66) (pc' := 67) iX11_init_65 rfl (by decide) (by decide) (by decide) (by (try simp only [nx_new, nxt_sI, nxt_sJ, nxt_sR]); omega) (by omega) ?_
  refine At_putR (pc' := 70) iX11_init_67 rfl f_11_32 (by simp [Nat.add_assoc, sh_new, shp_sI, shp_sJ, shp_sR, nx_new, nxt_sI, nxt_sJ, nxt_sR, hz, hk]) (Or.inr ⟨rfl, rfl⟩) (by decide) (by (try simp only [nx_new, nxt_sI, nxt_sJ, nxt_sR]); omega) ?_
  refine At_aload_n (pc' := 71) iX11_init_70 rfl rfl ?_
  refine At_sipush (v := nI 16384) (pc' := 74) iX11_init_71 rfl (by decide) ?_
  refine At_newI (N := 16384) (z := 67) (pc' := 76) iX11_init_74 rfl (by decide) (by decide) (by decide) (by (try simp only [nx_new, nxt_sI, nxt_sJ, nxt_sR]); omega) (by omega) ?_
  refine At_putR (pc' := 79) iX11_init_76 rfl f_11_35 (by simp [Nat.add_assoc, sh_new, shp_sI, shp_sJ, shp_sR, nx_new, nxt_sI, nxt_sJ, nxt_sR, hz, hk]) (Or.inr ⟨rfl, rfl⟩) (by decide) (by (try simp only [nx_new, nxt_sI, nxt_sJ, nxt_sR]); omega) ?_
  refine At_aload_n (pc' := 80) iX11_init_79 rfl rfl ?_
  refine At_sipush (v := nI 16384) (pc' := 83) iX11_init_80 rfl (by decide) ?_
  refine At_newI (N := 16384) (z := 68) (pc' := 85) iX11_init_83 rfl (by decide) (by decide) (by decide) (by (try simp only [nx_new, nxt_sI, nxt_sJ, nxt_sR]); omega) (by omega) ?_
  refine At_putR (pc' := 88) iX11_init_85 rfl f_11_38 (by simp [Nat.add_assoc, sh_new, shp_sI, shp_sJ, shp_sR, nx_new, nxt_sI, nxt_sJ, nxt_sR, hz, hk]) (Or.inr ⟨rfl, rfl⟩) (by decide) (by (try simp only [nx_new, nxt_sI, nxt_sJ, nxt_sR]); omega) ?_
  refine At_aload_n (pc' := 89) iX11_init_88 rfl rfl ?_
  refine At_sipush (v := nI 5040) (pc' := 92) iX11_init_89 rfl (by decide) ?_
  refine At_newI (N := 5040) (z := 69) (pc' := 94) iX11_init_92 rfl (by decide) (by decide) (by decide) (by (try simp only [nx_new, nxt_sI, nxt_sJ, nxt_sR]); omega) (by omega) ?_
  refine At_putR (pc' := 97) iX11_init_94 rfl f_11_41 (by simp [Nat.add_assoc, sh_new, shp_sI, shp_sJ, shp_sR, nx_new, nxt_sI, nxt_sJ, nxt_sR, hz, hk]) (Or.inr ⟨rfl, rfl⟩) (by decide) (by (try simp only [nx_new, nxt_sI, nxt_sJ, nxt_sR]); omega) ?_
  refine At_aload_n (pc' := 98) iX11_init_97 rfl rfl ?_
  refine At_bipush (v := nI 7) (pc' := 100) iX11_init_98 rfl (by decide) ?_
  refine At_newI (N := 7) (z := 70) (pc' := 102) iX11_init_100 rfl (by decide) (by decide) (by decide) (by (try simp only [nx_new, nxt_sI, nxt_sJ, nxt_sR]); omega) (by omega) ?_
  refine At_putR (pc' := 105) iX11_init_102 rfl f_11_44 (by simp [Nat.add_assoc, sh_new, shp_sI, shp_sJ, shp_sR, nx_new, nxt_sI, nxt_sJ, nxt_sR, hz, hk]) (Or.inr ⟨rfl, rfl⟩) (by decide) (by (try simp only [nx_new, nxt_sI, nxt_sJ, nxt_sR]); omega) ?_
  refine At_aload_n (pc' := 106) iX11_init_105 rfl rfl ?_
  refine At_sipush (v := nI 256) (pc' := 109) iX11_init_106 rfl (by decide) ?_
  refine At_newI (N := 256) (z := 71) (pc' := 111) iX11_init_109 rfl (by decide) (by decide) (by decide) (by (try simp only [nx_new, nxt_sI, nxt_sJ, nxt_sR]); omega) (by omega) ?_
  refine At_putR (pc' := 114) iX11_init_111 rfl f_11_47 (by simp [Nat.add_assoc, sh_new, shp_sI, shp_sJ, shp_sR, nx_new, nxt_sI, nxt_sJ, nxt_sR, hz, hk]) (Or.inr ⟨rfl, rfl⟩) (by decide) (by (try simp only [nx_new, nxt_sI, nxt_sJ, nxt_sR]); omega) ?_
  refine At_aload_n (pc' := 115) iX11_init_114 rfl rfl ?_
  refine At_sipush (v := nI 256) (pc' := 118) iX11_init_115 rfl (by decide) ?_
  refine At_newI (N := 256) (z := 72) (pc' := 120) iX11_init_118 rfl (by decide) (by decide) (by decide) (by (try simp only [nx_new, nxt_sI, nxt_sJ, nxt_sR]); omega) (by omega) ?_
  refine At_putR (pc' := 123) iX11_init_120 rfl f_11_50 (by simp [Nat.add_assoc, sh_new, shp_sI, shp_sJ, shp_sR, nx_new, nxt_sI, nxt_sJ, nxt_sR, hz, hk]) (Or.inr ⟨rfl, rfl⟩) (by decide) (by (try simp only [nx_new, nxt_sI, nxt_sJ, nxt_sR]); omega) ?_
  refine At_aload_n (pc' := 124) iX11_init_123 rfl rfl ?_
  refine At_bipush (v := nI 16) (pc' := 126) iX11_init_124 rfl (by decide) ?_
  refine At_newI (N := 16) (z := 73) (pc' := 128) iX11_init_126 rfl (by decide) (by decide) (by decide) (by (try simp only [nx_new, nxt_sI, nxt_sJ, nxt_sR]); omega) (by omega) ?_
  refine At_putR (pc' := 131) iX11_init_128 rfl f_11_53 (by simp [Nat.add_assoc, sh_new, shp_sI, shp_sJ, shp_sR, nx_new, nxt_sI, nxt_sJ, nxt_sR, hz, hk]) (Or.inr ⟨rfl, rfl⟩) (by decide) (by (try simp only [nx_new, nxt_sI, nxt_sJ, nxt_sR]); omega) ?_
  refine At_aload_n (pc' := 132) iX11_init_131 rfl rfl ?_
  refine At_sipush (v := nI 200) (pc' := 135) iX11_init_132 rfl (by decide) ?_
  refine At_newI (N := 200) (z := 74) (pc' := 137) iX11_init_135 rfl (by decide) (by decide) (by decide) (by (try simp only [nx_new, nxt_sI, nxt_sJ, nxt_sR]); omega) (by omega) ?_
  refine At_putR (pc' := 140) iX11_init_137 rfl f_11_56 (by simp [Nat.add_assoc, sh_new, shp_sI, shp_sJ, shp_sR, nx_new, nxt_sI, nxt_sJ, nxt_sR, hz, hk]) (Or.inr ⟨rfl, rfl⟩) (by decide) (by (try simp only [nx_new, nxt_sI, nxt_sJ, nxt_sR]); omega) ?_
  refine At_aload_n (pc' := 141) iX11_init_140 rfl rfl ?_
  refine At_sipush (v := nI 202) (pc' := 144) iX11_init_141 rfl (by decide) ?_
  refine At_newI (N := 202) (z := 75) (pc' := 146) iX11_init_144 rfl (by decide) (by decide) (by decide) (by (try simp only [nx_new, nxt_sI, nxt_sJ, nxt_sR]); omega) (by omega) ?_
  refine At_putR (pc' := 149) iX11_init_146 rfl f_11_59 (by simp [Nat.add_assoc, sh_new, shp_sI, shp_sJ, shp_sR, nx_new, nxt_sI, nxt_sJ, nxt_sR, hz, hk]) (Or.inr ⟨rfl, rfl⟩) (by decide) (by (try simp only [nx_new, nxt_sI, nxt_sJ, nxt_sR]); omega) ?_
  refine At_aload_n (pc' := 150) iX11_init_149 rfl rfl ?_
  refine At_bipush (v := nI 16) (pc' := 152) iX11_init_150 rfl (by decide) ?_
  refine At_newI (N := 16) (z := 76) (pc' := 154) iX11_init_152 rfl (by decide) (by decide) (by decide) (by (try simp only [nx_new, nxt_sI, nxt_sJ, nxt_sR]); omega) (by omega) ?_
  refine At_putR (pc' := 157) iX11_init_154 rfl f_11_62 (by simp [Nat.add_assoc, sh_new, shp_sI, shp_sJ, shp_sR, nx_new, nxt_sI, nxt_sJ, nxt_sR, hz, hk]) (Or.inr ⟨rfl, rfl⟩) (by decide) (by (try simp only [nx_new, nxt_sI, nxt_sJ, nxt_sR]); omega) ?_
  refine K _ ⟨?_, fun b j hb => ?_, fun b j hb => ?_, fun b j hb => ?_⟩ ⟨?_, ?_, ?_, ?_, ?_, ?_, ?_, ?_, ?_, ?_, ?_, ?_, ?_, ?_, ?_, ?_, ?_⟩ (fun j => ?_) ?_
  · show (((((((((((((((((h.2.2.2 ++ [(1, 4180)]) ++ [(1, 4180)]) ++ [(1, 1896)]) ++ [(1, 800)]) ++ [(1, 400)]) ++ [(1, 16)]) ++ [(1, 16)]) ++ [(1, 16384)]) ++ [(1, 16384)]) ++ [(1, 5040)]) ++ [(1, 7)]) ++ [(1, 256)]) ++ [(1, 256)]) ++ [(1, 16)]) ++ [(1, 200)]) ++ [(1, 202)]) ++ [(1, 16)]) = _
    simp [S11]
  · simp [gI_new, gI_sR, gI_sI, nx_new, nxt_sR, nxt_sI, hz, show ¬ b = 59 by omega, show ¬ b = 60 by omega, show ¬ b = 61 by omega, show ¬ b = 62 by omega, show ¬ b = 63 by omega, show ¬ b = 64 by omega, show ¬ b = 65 by omega, show ¬ b = 66 by omega, show ¬ b = 67 by omega, show ¬ b = 68 by omega, show ¬ b = 69 by omega, show ¬ b = 70 by omega, show ¬ b = 71 by omega, show ¬ b = 72 by omega, show ¬ b = 73 by omega, show ¬ b = 74 by omega, show ¬ b = 75 by omega, show ¬ b = 76 by omega]
  · simp [gJ_new, gJ_sR, gJ_sI, nx_new, nxt_sR, nxt_sI, hz, show ¬ b = 59 by omega, show ¬ b = 60 by omega, show ¬ b = 61 by omega, show ¬ b = 62 by omega, show ¬ b = 63 by omega, show ¬ b = 64 by omega, show ¬ b = 65 by omega, show ¬ b = 66 by omega, show ¬ b = 67 by omega, show ¬ b = 68 by omega, show ¬ b = 69 by omega, show ¬ b = 70 by omega, show ¬ b = 71 by omega, show ¬ b = 72 by omega, show ¬ b = 73 by omega, show ¬ b = 74 by omega, show ¬ b = 75 by omega, show ¬ b = 76 by omega]
  · simp [gR_new, gR_sR, gR_sI, nx_new, nxt_sR, nxt_sI, hz, show ¬ b = 59 by omega, show ¬ b = 60 by omega, show ¬ b = 61 by omega, show ¬ b = 62 by omega, show ¬ b = 63 by omega, show ¬ b = 64 by omega, show ¬ b = 65 by omega, show ¬ b = 66 by omega, show ¬ b = 67 by omega, show ¬ b = 68 by omega, show ¬ b = 69 by omega, show ¬ b = 70 by omega, show ¬ b = 71 by omega, show ¬ b = 72 by omega, show ¬ b = 73 by omega, show ¬ b = 74 by omega, show ¬ b = 75 by omega, show ¬ b = 76 by omega]
  · simp [gR_new, gR_sR, gR_sI, nx_new, nxt_sR, nxt_sI, hz]
  · simp [gR_new, gR_sR, gR_sI, nx_new, nxt_sR, nxt_sI, hz]
  · simp [gR_new, gR_sR, gR_sI, nx_new, nxt_sR, nxt_sI, hz]
  · simp [gR_new, gR_sR, gR_sI, nx_new, nxt_sR, nxt_sI, hz]
  · simp [gR_new, gR_sR, gR_sI, nx_new, nxt_sR, nxt_sI, hz]
  · simp [gR_new, gR_sR, gR_sI, nx_new, nxt_sR, nxt_sI, hz]
  · simp [gR_new, gR_sR, gR_sI, nx_new, nxt_sR, nxt_sI, hz]
  · simp [gR_new, gR_sR, gR_sI, nx_new, nxt_sR, nxt_sI, hz]
  · simp [gR_new, gR_sR, gR_sI, nx_new, nxt_sR, nxt_sI, hz]
  · simp [gR_new, gR_sR, gR_sI, nx_new, nxt_sR, nxt_sI, hz]
  · simp [gR_new, gR_sR, gR_sI, nx_new, nxt_sR, nxt_sI, hz]
  · simp [gR_new, gR_sR, gR_sI, nx_new, nxt_sR, nxt_sI, hz]
  · simp [gR_new, gR_sR, gR_sI, nx_new, nxt_sR, nxt_sI, hz]
  · simp [gR_new, gR_sR, gR_sI, nx_new, nxt_sR, nxt_sI, hz]
  · simp [gR_new, gR_sR, gR_sI, nx_new, nxt_sR, nxt_sI, hz]
  · simp [gR_new, gR_sR, gR_sI, nx_new, nxt_sR, nxt_sI, hz]
  · simp [gR_new, gR_sR, gR_sI, nx_new, nxt_sR, nxt_sI, hz]
  · simp [gI_new, gI_sR, gI_sI, nx_new, nxt_sR, nxt_sI, hz, h0]
  · simp [gI_new, gI_sR, gI_sI, nx_new, nxt_sR, nxt_sI, hz]
end Ctor5
