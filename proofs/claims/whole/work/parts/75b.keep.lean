-- a run keeps the script and the kinds of rows
def Keep (h h' : Hp) : Prop := nxt h ≤ nxt h' ∧ (∀ a, a < nxt h → shp h' a = shp h a) ∧ ∀ a j, a < nxt h → (shp h a).1 = 0 → gI h' a j = gI h a j
theorem Keep.refl (h : Hp) : Keep h h := ⟨Nat.le_refl _, fun _ _ => rfl, fun _ _ _ _ => rfl⟩
theorem Keep.trans {h h1 h2 : Hp} (x : Keep h h1) (y : Keep h1 h2) : Keep h h2 := ⟨Nat.le_trans x.1 y.1, fun a ha => (y.2.1 a (Nat.lt_of_lt_of_le ha x.1)).trans (x.2.1 a ha), fun a j ha hk => (y.2.2 a j (Nat.lt_of_lt_of_le ha x.1) (by rw [x.2.1 a ha]; exact hk)).trans (x.2.2 a j ha hk)⟩
theorem keep_sI {h : Hp} {a k : Nat} {v : Int32} (hk : ¬ (shp h a).1 = 0) : Keep h (sI h a k v) := ⟨Nat.le_refl _, fun _ _ => rfl, fun b j _ hb => by
  rw [gI_sI, if_neg (fun z => hk (by rw [← z.1]; exact hb))]⟩
theorem keep_sJ (h : Hp) (a k : Nat) (v : Int64) : Keep h (sJ h a k v) := ⟨Nat.le_refl _, fun _ _ => rfl, fun _ _ _ _ => rfl⟩
theorem keep_sR (h : Hp) (a k : Nat) (v : Option Nat) : Keep h (sR h a k v) := ⟨Nat.le_refl _, fun _ _ => rfl, fun _ _ _ _ => rfl⟩
theorem keep_new (h : Hp) (k n : Nat) : Keep h (newO h k n) := ⟨by rw [nxt_new]; omega, fun a ha => shp_new_old ha, fun a j ha _ => by
  show (if a = nxt h then 0 else h.1 a j) = _
  rw [if_neg (by omega)]; rfl⟩
theorem keep_cp {h : Hp} {a sp b dp n : Nat} (hk : ¬ (shp h b).1 = 0) : Keep h (cpI h a sp b dp n) := ⟨Nat.le_refl _, fun _ _ => rfl, fun x j _ hb => by
  rw [gI_cpI, if_neg (fun z => hk (by rw [← z.1]; exact hb))]⟩
theorem ld_keep {i : Instr} {L S L' S' : List Value} {h h' : Hp} (e : actLd i L S h = some (.inl (L', S', h'))) : Keep h h' := by
  unfold actLd at e
  repeat' split at e
  all_goals (cases e <;> exact Keep.refl _)
theorem cn_keep {c : Nat} {i : Instr} {L S L' S' : List Value} {h h' : Hp} (e : actCn c i L S h = some (.inl (L', S', h'))) : Keep h h' := by
  unfold actCn at e
  repeat' split at e
  all_goals (cases e <;> exact Keep.refl _)
theorem br_keep {i : Instr} {L S L' S' : List Value} {h h' : Hp} (e : actBr i L S h = some (.inl (L', S', h'))) : Keep h h' := by
  unfold actBr at e
  repeat' split at e
  all_goals (cases e <;> exact Keep.refl _)
theorem op_keep {i : Instr} {L S L' S' : List Value} {h h' : Hp} (e : actOp i L S h = some (.inl (L', S', h'))) : Keep h h' := by
  unfold actOp at e
  repeat' split at e
  all_goals (cases e <;> exact Keep.refl _)
theorem rt_keep {y : Mth} {i : Instr} {S L' S' : List Value} {h h' : Hp} (e : actRt y i S = some (.inl (L', S', h'))) : Keep h h' := by
  unfold actRt at e
  repeat' split at e
  all_goals cases e
theorem iv_keep {y : Mth} {i : Instr} {L S L' S' : List Value} {h h' : Hp} (e : actIv y i L S h = some (.inl (L', S', h'))) : Keep h h' := by
  unfold actIv at e
  repeat' split at e
  all_goals first
    | (cases e <;> exact Keep.refl _)
    | (rename_i q; cases e; exact keep_cp (fun z => by have := q.2.2.1; omega))
theorem hp_keep {y : Mth} {i : Instr} {L S L' S' : List Value} {h h' : Hp} (e : actHp y i L S h = some (.inl (L', S', h'))) : Keep h h' := by
  unfold actHp at e
  repeat' split at e
  all_goals first
    | (cases e <;> exact Keep.refl _)
    | (cases e; exact keep_new _ _ _)
    | (cases e; exact keep_sJ _ _ _ _)
    | (cases e; exact keep_sR _ _ _ _)
    | (rename_i q; cases e; exact keep_sI (fun z => by have := q.1; omega))
    | (rename_i q _ _ _; cases e; exact keep_sI (fun z => by have := q.1; omega))
    | (rename_i q _ _ _ _; cases e; exact keep_sI (fun z => by have := q.1; omega))
    | (rename_i q _ _ _ _ _; cases e; exact keep_sI (fun z => by have := q.1; omega))
theorem act_keep {y : Mth} {i : Instr} {L S L' S' : List Value} {h h' : Hp} (e : act y i L S h = some (.inl (L', S', h'))) : Keep h h' := by
  unfold act at e
  split at e
  · exact ld_keep e
  · exact cn_keep e
  · exact br_keep e
  · exact hp_keep e
  · exact rt_keep e
  · exact iv_keep e
  · exact op_keep e
theorem run_keep : ∀ (n d : Nat) (y : Mth) (pc : Nat) (L S : List Value) (h : Hp) (v : Option Value) (h' : Hp), run n d y pc L S h = some (v, h') → Keep h h' := by
  intro n
  induction n with
  | zero => intro d y pc L S h v h' hr; simp [run] at hr
  | succ n ih =>
    intro d y pc L S h v h' hr
    rw [run] at hr
    split at hr
    · split at hr
      · rename_i e
        exact (act_keep e).trans (ih _ _ _ _ _ _ _ _ hr)
      · split at hr
        · exact ih _ _ _ _ _ _ _ _ hr
        · cases hr
      · cases hr; exact Keep.refl _
      · split at hr
        · cases hr
        · split at hr
          · rename_i e
            exact (ih _ _ _ _ _ _ _ _ e).trans (ih _ _ _ _ _ _ _ _ hr)
          · cases hr
      · cases hr
    · cases hr
theorem At.keep {d : Nat} {y : Mth} {pc : Nat} {L S : List Value} {h : Hp} {Q : Option Value → Hp → Prop} (k : At d y pc L S h Q) : At d y pc L S h (fun v h' => Q v h' ∧ Keep h h') := by
  obtain ⟨n, v, h', e, q⟩ := k
  exact ⟨n, v, h', e, q, run_keep _ _ _ _ _ _ _ _ _ e⟩
