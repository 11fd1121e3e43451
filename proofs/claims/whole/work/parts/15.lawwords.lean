-- words that only the law start needs
set_option maxRecDepth 20000 in
theorem w_cs_l : Cond.laysStatic "java/lang/String" "COMPACT_STRINGS" "Z" ∈ tables_1 := (tch2 (List.mem_of_getElem? (i := 153) rfl))
set_option maxRecDepth 20000 in
theorem w_str_i : Cond.initialized "java/lang/String" ∈ tables_1 := (tch1 (List.mem_of_getElem? (i := 13) rfl))
set_option maxRecDepth 20000 in
theorem w_sf_l : Cond.laysStatic "jdk/internal/util/Preconditions" "SIOOBE_FORMATTER" "Ljava/util/function/BiFunction;" ∈ tables_1 := (tch2 (List.mem_of_getElem? (i := 169) rfl))
set_option maxRecDepth 20000 in
theorem w_pre_i : Cond.initialized "jdk/internal/util/Preconditions" ∈ tables_1 := (tch1 (List.mem_of_getElem? (i := 15) rfl))
theorem nestW : ∀ e ∈ mlT, e.2.1 = 3 → Cond.methodLinkNest (clsN e.1.1) e.1.2 e.2.2.2.2.2.2.1 "RoundStool" ∈ tables_1 := by
  intro e he h3
  have h := mlW e he
  unfold PM at h
  rw [h3] at h
  exact h.2.1
theorem aoW : ∀ kd, kd = 3 ∨ kd = 4 → Cond.arrayOver (.object (aoT kd)) ∈ tables_1 := by
  intro kd h
  rcases h with rfl | rfl
  · exact (anewW ((8, 29), 3) (by decide)).2.2
  · exact (anewW ((2, 18), 4) (by decide)).2.2
