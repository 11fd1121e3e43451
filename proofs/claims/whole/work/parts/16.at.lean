-- ROWS OF THE SMALL MACHINE, an instruction each
def CallI (d : Nat) (y : Mth) (as : List Value) (h : Hp) (K : Int32 → Hp → Prop) : Prop := Call d y as h (fun v h' => ∃ r, v = some (.int r) ∧ K r h')
def CallJ (d : Nat) (y : Mth) (as : List Value) (h : Hp) (K : Int64 → Hp → Prop) : Prop := Call d y as h (fun v h' => ∃ r, v = some (.long r) ∧ K r h')
def CallV (d : Nat) (y : Mth) (as : List Value) (h : Hp) (K : Hp → Prop) : Prop := Call d y as h (fun v h' => v = none ∧ K h')
section Rows
variable {d : Nat} {y : Mth} {pc pc' : Nat} {L S : List Value} {h : Hp} {Q : Option Value → Hp → Prop}
theorem At_iconst {n : Int} {v : Int32} (hd : ins y pc = some (.iconst n, 1)) (hp : pc + 1 = pc') (hv : Int32.ofInt n = v) (k : At d y pc' L (.int v :: S) h Q) : At d y pc L S h Q := by subst hp; subst hv; exact At_ft hd rfl k
theorem At_bipush {n : Int} {v : Int32} (hd : ins y pc = some (.bipush n, 2)) (hp : pc + 2 = pc') (hv : (Int8.ofInt n).toInt32 = v) (k : At d y pc' L (.int v :: S) h Q) : At d y pc L S h Q := by subst hp; subst hv; exact At_ft hd rfl k
theorem At_sipush {n : Int} {v : Int32} (hd : ins y pc = some (.sipush n, 3)) (hp : pc + 3 = pc') (hv : (Int16.ofInt n).toInt32 = v) (k : At d y pc' L (.int v :: S) h Q) : At d y pc L S h Q := by subst hp; subst hv; exact At_ft hd rfl k
theorem At_lconst {n : Fin 2} {v : Int64} (hd : ins y pc = some (.lconst n, 1)) (hp : pc + 1 = pc') (hv : Int64.ofNat n.val = v) (k : At d y pc' L (.long v :: S) h Q) : At d y pc L S h Q := by subst hp; subst hv; exact At_ft hd rfl k
theorem At_aconst_null (hd : ins y pc = some (.aconst_null, 1)) (hp : pc + 1 = pc') (k : At d y pc' L (.null :: S) h Q) : At d y pc L S h Q := by subst hp; exact At_ft hd rfl k
theorem At_ldcI {n : Nat} {v : Int32} (hd : ins y pc = some (.ldc n, 2)) (hp : pc + 2 = pc') (hv : lkp icT y.1 n = some v) (k : At d y pc' L (.int v :: S) h Q) : At d y pc L S h Q := by subst hp; exact At_ft hd (by show actCn y.1 (.ldc n) L S h = _; simp only [actCn]; rw [hv]) k
theorem At_ldcS {n v : Nat} (hd : ins y pc = some (.ldc n, 2)) (hp : pc + 2 = pc') (hn : lkp icT y.1 n = none) (hv : lkp slT y.1 n = some v) (k : At d y pc' L (.ref (1000000 + v) :: S) h Q) : At d y pc L S h Q := by subst hp; exact At_ft hd (by show actCn y.1 (.ldc n) L S h = _; simp only [actCn]; rw [hn, hv]) k
theorem At_ldcW {n : Nat} {v : Int32} (hd : ins y pc = some (.ldc_w n, 3)) (hp : pc + 3 = pc') (hv : lkp icT y.1 n = some v) (k : At d y pc' L (.int v :: S) h Q) : At d y pc L S h Q := by subst hp; exact At_ft hd (by show actCn y.1 (.ldc_w n) L S h = _; simp only [actCn]; rw [hv]) k
theorem At_ldc2 {n : Nat} {v : Int64} (hd : ins y pc = some (.ldc2_w n, 3)) (hp : pc + 3 = pc') (hv : lkp lcT y.1 n = some v) (k : At d y pc' L (.long v :: S) h Q) : At d y pc L S h Q := by subst hp; exact At_ft hd (by show actCn y.1 (.ldc2_w n) L S h = _; simp only [actCn]; rw [hv]) k
theorem At_iload {i : Nat} {x : Int32} (hd : ins y pc = some (.iload i, 2)) (hp : pc + 2 = pc') (hv : ldL L i = .int x) (k : At d y pc' L (.int x :: S) h Q) : At d y pc L S h Q := by subst hp; exact At_ft hd (by show actLd (.iload i) L S h = _; simp only [actLd]; rw [hv]) k
theorem At_iload_n {i : Fin 4} {x : Int32} (hd : ins y pc = some (.iload_n i, 1)) (hp : pc + 1 = pc') (hv : ldL L i.val = .int x) (k : At d y pc' L (.int x :: S) h Q) : At d y pc L S h Q := by subst hp; exact At_ft hd (by show actLd (.iload_n i) L S h = _; simp only [actLd]; rw [hv]) k
theorem At_lload {i : Nat} {x : Int64} (hd : ins y pc = some (.lload i, 2)) (hp : pc + 2 = pc') (hv : ldL L i = .long x) (k : At d y pc' L (.long x :: S) h Q) : At d y pc L S h Q := by subst hp; exact At_ft hd (by show actLd (.lload i) L S h = _; simp only [actLd]; rw [hv]) k
theorem At_lload_n {i : Fin 4} {x : Int64} (hd : ins y pc = some (.lload_n i, 1)) (hp : pc + 1 = pc') (hv : ldL L i.val = .long x) (k : At d y pc' L (.long x :: S) h Q) : At d y pc L S h Q := by subst hp; exact At_ft hd (by show actLd (.lload_n i) L S h = _; simp only [actLd]; rw [hv]) k
theorem At_aload {i x : Nat} (hd : ins y pc = some (.aload i, 2)) (hp : pc + 2 = pc') (hv : ldL L i = .ref x) (k : At d y pc' L (.ref x :: S) h Q) : At d y pc L S h Q := by subst hp; exact At_ft hd (by show actLd (.aload i) L S h = _; simp only [actLd]; rw [hv]) k
theorem At_aload_n {i : Fin 4} {x : Nat} (hd : ins y pc = some (.aload_n i, 1)) (hp : pc + 1 = pc') (hv : ldL L i.val = .ref x) (k : At d y pc' L (.ref x :: S) h Q) : At d y pc L S h Q := by subst hp; exact At_ft hd (by show actLd (.aload_n i) L S h = _; simp only [actLd]; rw [hv]) k
theorem At_istore {i : Nat} {x : Int32} {L' : List Value} (hd : ins y pc = some (.istore i, 2)) (hp : pc + 2 = pc') (hi : i < L.length) (hL : stL L i (.int x) = L') (k : At d y pc' L' S h Q) : At d y pc L (.int x :: S) h Q := by subst hp; subst hL; exact At_ft hd (by show actLd (.istore i) L (.int x :: S) h = _; simp only [actLd]; rw [if_pos hi]) k
theorem At_istore_n {i : Fin 4} {x : Int32} {L' : List Value} (hd : ins y pc = some (.istore_n i, 1)) (hp : pc + 1 = pc') (hi : i.val < L.length) (hL : stL L i.val (.int x) = L') (k : At d y pc' L' S h Q) : At d y pc L (.int x :: S) h Q := by subst hp; subst hL; exact At_ft hd (by show actLd (.istore_n i) L (.int x :: S) h = _; simp only [actLd]; rw [if_pos hi]) k
theorem At_lstore {i : Nat} {x : Int64} {L' : List Value} (hd : ins y pc = some (.lstore i, 2)) (hp : pc + 2 = pc') (hi : i + 1 < L.length) (hL : stL2 L i (.long x) = L') (k : At d y pc' L' S h Q) : At d y pc L (.long x :: S) h Q := by subst hp; subst hL; exact At_ft hd (by show actLd (.lstore i) L (.long x :: S) h = _; simp only [actLd]; rw [if_pos hi]) k
theorem At_lstore_n {i : Fin 4} {x : Int64} {L' : List Value} (hd : ins y pc = some (.lstore_n i, 1)) (hp : pc + 1 = pc') (hi : i.val + 1 < L.length) (hL : stL2 L i.val (.long x) = L') (k : At d y pc' L' S h Q) : At d y pc L (.long x :: S) h Q := by subst hp; subst hL; exact At_ft hd (by show actLd (.lstore_n i) L (.long x :: S) h = _; simp only [actLd]; rw [if_pos hi]) k
theorem At_astore {i x : Nat} {L' : List Value} (hd : ins y pc = some (.astore i, 2)) (hp : pc + 2 = pc') (hi : i < L.length) (hL : stL L i (.ref x) = L') (k : At d y pc' L' S h Q) : At d y pc L (.ref x :: S) h Q := by subst hp; subst hL; exact At_ft hd (by show actLd (.astore i) L (.ref x :: S) h = _; simp only [actLd]; rw [if_pos hi]) k
theorem At_astore_n {i : Fin 4} {x : Nat} {L' : List Value} (hd : ins y pc = some (.astore_n i, 1)) (hp : pc + 1 = pc') (hi : i.val < L.length) (hL : stL L i.val (.ref x) = L') (k : At d y pc' L' S h Q) : At d y pc L (.ref x :: S) h Q := by subst hp; subst hL; exact At_ft hd (by show actLd (.astore_n i) L (.ref x :: S) h = _; simp only [actLd]; rw [if_pos hi]) k
theorem At_iinc {i : Nat} {n : Int} {x v : Int32} {L' : List Value} (hd : ins y pc = some (.iinc i n, 3)) (hp : pc + 3 = pc') (hv : ldL L i = .int x) (hi : i < L.length) (hn : Int32.ofInt n = v) (hL : stL L i (.int (x + v)) = L') (k : At d y pc' L' S h Q) : At d y pc L S h Q := by subst hp; subst hL; subst hn; exact At_ft hd (by show actLd (.iinc i n) L S h = _; simp only [actLd]; rw [hv]; dsimp only; rw [if_pos hi]) k
theorem At_iadd {a b : Int32} (hd : ins y pc = some (.iadd, 1)) (hp : pc + 1 = pc') (k : At d y pc' L (.int (a + b) :: S) h Q) : At d y pc L (.int b :: .int a :: S) h Q := by subst hp; exact At_ft hd rfl k
theorem At_isub {a b : Int32} (hd : ins y pc = some (.isub, 1)) (hp : pc + 1 = pc') (k : At d y pc' L (.int (a - b) :: S) h Q) : At d y pc L (.int b :: .int a :: S) h Q := by subst hp; exact At_ft hd rfl k
theorem At_imul {a b : Int32} (hd : ins y pc = some (.imul, 1)) (hp : pc + 1 = pc') (k : At d y pc' L (.int (a * b) :: S) h Q) : At d y pc L (.int b :: .int a :: S) h Q := by subst hp; exact At_ft hd rfl k
theorem At_iand {a b : Int32} (hd : ins y pc = some (.iand, 1)) (hp : pc + 1 = pc') (k : At d y pc' L (.int (a &&& b) :: S) h Q) : At d y pc L (.int b :: .int a :: S) h Q := by subst hp; exact At_ft hd rfl k
theorem At_ior {a b : Int32} (hd : ins y pc = some (.ior, 1)) (hp : pc + 1 = pc') (k : At d y pc' L (.int (a ||| b) :: S) h Q) : At d y pc L (.int b :: .int a :: S) h Q := by subst hp; exact At_ft hd rfl k
theorem At_ixor {a b : Int32} (hd : ins y pc = some (.ixor, 1)) (hp : pc + 1 = pc') (k : At d y pc' L (.int (a ^^^ b) :: S) h Q) : At d y pc L (.int b :: .int a :: S) h Q := by subst hp; exact At_ft hd rfl k
theorem At_ishl {a b : Int32} (hd : ins y pc = some (.ishl, 1)) (hp : pc + 1 = pc') (k : At d y pc' L (.int (a <<< (b &&& 31)) :: S) h Q) : At d y pc L (.int b :: .int a :: S) h Q := by subst hp; exact At_ft hd rfl k
theorem At_ishr {a b : Int32} (hd : ins y pc = some (.ishr, 1)) (hp : pc + 1 = pc') (k : At d y pc' L (.int (a >>> (b &&& 31)) :: S) h Q) : At d y pc L (.int b :: .int a :: S) h Q := by subst hp; exact At_ft hd rfl k
def ushr (a b : Int32) : Int32 := (a.toUInt32 >>> (b.toUInt32 &&& Int32.toUInt32 31)).toInt32
def lushr (a : Int64) (b : Int32) : Int64 := (a.toUInt64 >>> (b.toInt64.toUInt64 &&& Int64.toUInt64 63)).toInt64
def lshl (a : Int64) (b : Int32) : Int64 := a <<< (b.toInt64 &&& 63)
def irem (a b : Int32) : Int32 := a - a / b * b
theorem At_iushr {a b : Int32} (hd : ins y pc = some (.iushr, 1)) (hp : pc + 1 = pc') (k : At d y pc' L (.int (ushr a b) :: S) h Q) : At d y pc L (.int b :: .int a :: S) h Q := by subst hp; exact At_ft hd rfl k
theorem At_idiv {a b : Int32} (hd : ins y pc = some (.idiv, 1)) (hp : pc + 1 = pc') (hn : ¬ b = 0) (k : At d y pc' L (.int (a / b) :: S) h Q) : At d y pc L (.int b :: .int a :: S) h Q := by subst hp; exact At_ft hd (by show (if b = 0 then none else _) = _; rw [if_neg hn]) k
theorem At_irem {a b : Int32} (hd : ins y pc = some (.irem, 1)) (hp : pc + 1 = pc') (hn : ¬ b = 0) (k : At d y pc' L (.int (irem a b) :: S) h Q) : At d y pc L (.int b :: .int a :: S) h Q := by subst hp; exact At_ft hd (by show (if b = 0 then none else _) = _; rw [if_neg hn]; rfl) k
theorem At_lsub {a b : Int64} (hd : ins y pc = some (.lsub, 1)) (hp : pc + 1 = pc') (k : At d y pc' L (.long (a - b) :: S) h Q) : At d y pc L (.long b :: .long a :: S) h Q := by subst hp; exact At_ft hd rfl k
theorem At_land {a b : Int64} (hd : ins y pc = some (.land, 1)) (hp : pc + 1 = pc') (k : At d y pc' L (.long (a &&& b) :: S) h Q) : At d y pc L (.long b :: .long a :: S) h Q := by subst hp; exact At_ft hd rfl k
theorem At_lor {a b : Int64} (hd : ins y pc = some (.lor, 1)) (hp : pc + 1 = pc') (k : At d y pc' L (.long (a ||| b) :: S) h Q) : At d y pc L (.long b :: .long a :: S) h Q := by subst hp; exact At_ft hd rfl k
theorem At_lxor {a b : Int64} (hd : ins y pc = some (.lxor, 1)) (hp : pc + 1 = pc') (k : At d y pc' L (.long (a ^^^ b) :: S) h Q) : At d y pc L (.long b :: .long a :: S) h Q := by subst hp; exact At_ft hd rfl k
theorem At_lshl {a : Int64} {b : Int32} (hd : ins y pc = some (.lshl, 1)) (hp : pc + 1 = pc') (k : At d y pc' L (.long (lshl a b) :: S) h Q) : At d y pc L (.int b :: .long a :: S) h Q := by subst hp; exact At_ft hd rfl k
theorem At_lushr {a : Int64} {b : Int32} (hd : ins y pc = some (.lushr, 1)) (hp : pc + 1 = pc') (k : At d y pc' L (.long (lushr a b) :: S) h Q) : At d y pc L (.int b :: .long a :: S) h Q := by subst hp; exact At_ft hd rfl k
theorem At_lcmp {a b : Int64} (hd : ins y pc = some (.lcmp, 1)) (hp : pc + 1 = pc') (k : At d y pc' L (.int (lg_cmp a b) :: S) h Q) : At d y pc L (.long b :: .long a :: S) h Q := by subst hp; exact At_ft hd rfl k
theorem At_i2l {a : Int32} (hd : ins y pc = some (.i2l, 1)) (hp : pc + 1 = pc') (k : At d y pc' L (.long a.toInt64 :: S) h Q) : At d y pc L (.int a :: S) h Q := by subst hp; exact At_ft hd rfl k
theorem At_l2i {a : Int64} (hd : ins y pc = some (.l2i, 1)) (hp : pc + 1 = pc') (k : At d y pc' L (.int a.toInt32 :: S) h Q) : At d y pc L (.long a :: S) h Q := by subst hp; exact At_ft hd rfl k
theorem At_i2b {a : Int32} (hd : ins y pc = some (.i2b, 1)) (hp : pc + 1 = pc') (k : At d y pc' L (.int a.toInt8.toInt32 :: S) h Q) : At d y pc L (.int a :: S) h Q := by subst hp; exact At_ft hd rfl k
theorem At_dup {a : Value} (hd : ins y pc = some (.dup, 1)) (hp : pc + 1 = pc') (hc : a.category = 1) (k : At d y pc' L (a :: a :: S) h Q) : At d y pc L (a :: S) h Q := by subst hp; exact At_ft hd (by show (if a.category = 1 then _ else none) = _; rw [if_pos hc]) k
theorem At_pop {a : Value} (hd : ins y pc = some (.pop, 1)) (hp : pc + 1 = pc') (hc : a.category = 1) (k : At d y pc' L S h Q) : At d y pc L (a :: S) h Q := by subst hp; exact At_ft hd (by show (if a.category = 1 then _ else none) = _; rw [if_pos hc]) k
theorem At_dup2 {a b : Value} (hd : ins y pc = some (.dup2, 1)) (hp : pc + 1 = pc') (hc : a.category = 1) (hb : b.category = 1) (k : At d y pc' L (a :: b :: a :: b :: S) h Q) : At d y pc L (a :: b :: S) h Q := by subst hp; exact At_ft hd (by show (if a.category = 1 ∧ b.category = 1 then _ else none) = _; rw [if_pos ⟨hc, hb⟩]) k
theorem At_goto {o : Int} {t : Nat} (hd : ins y pc = some (.goto o, 3)) (ht : (pc : Int) + o = (t : Int)) (k : At d y t L S h Q) : At d y pc L S h Q := At_jp hd rfl ht k
theorem At_icmp {c : ClassFile.Cond} {o : Int} {t : Nat} {a b : Int32} (hd : ins y pc = some (.if_icmp c o, 3)) (ht : (pc : Int) + o = (t : Int)) (hp : pc + 3 = pc') (k1 : cmpB c a b = true → At d y t L S h Q) (k2 : ¬ cmpB c a b = true → At d y pc' L S h Q) : At d y pc L (.int b :: .int a :: S) h Q := by
  subst hp
  by_cases hc : cmpB c a b = true
  · exact At_jp hd (by show (if cmpB c a b = true then _ else _) = _; rw [if_pos hc]) ht (k1 hc)
  · exact At_ft hd (by show (if cmpB c a b = true then _ else _) = _; rw [if_neg hc]) (k2 hc)
theorem At_if {c : ClassFile.Cond} {o : Int} {t : Nat} {a : Int32} (hd : ins y pc = some (.ifCond c o, 3)) (ht : (pc : Int) + o = (t : Int)) (hp : pc + 3 = pc') (k1 : cmpB c a 0 = true → At d y t L S h Q) (k2 : ¬ cmpB c a 0 = true → At d y pc' L S h Q) : At d y pc L (.int a :: S) h Q := by
  subst hp
  by_cases hc : cmpB c a 0 = true
  · exact At_jp hd (by show (if cmpB c a 0 = true then _ else _) = _; rw [if_pos hc]) ht (k1 hc)
  · exact At_ft hd (by show (if cmpB c a 0 = true then _ else _) = _; rw [if_neg hc]) (k2 hc)
section Br
variable {o : Int} {t : Nat} {a b : Int32}
theorem At_icmp_eq (hd : ins y pc = some (.if_icmp .eq o, 3)) (ht : (pc : Int) + o = (t : Int)) (hp : pc + 3 = pc') (k1 : a = b → At d y t L S h Q) (k2 : ¬ a = b → At d y pc' L S h Q) : At d y pc L (.int b :: .int a :: S) h Q := At_icmp hd ht hp (fun q => k1 (of_decide_eq_true q)) (fun q => k2 (fun z => q (decide_eq_true z)))
theorem At_icmp_ne (hd : ins y pc = some (.if_icmp .ne o, 3)) (ht : (pc : Int) + o = (t : Int)) (hp : pc + 3 = pc') (k1 : ¬ a = b → At d y t L S h Q) (k2 : a = b → At d y pc' L S h Q) : At d y pc L (.int b :: .int a :: S) h Q := At_icmp hd ht hp (fun q => k1 (of_decide_eq_true q)) (fun q => k2 (Classical.not_not.mp (fun z => q (decide_eq_true z))))
theorem At_icmp_lt (hd : ins y pc = some (.if_icmp .lt o, 3)) (ht : (pc : Int) + o = (t : Int)) (hp : pc + 3 = pc') (k1 : a < b → At d y t L S h Q) (k2 : ¬ a < b → At d y pc' L S h Q) : At d y pc L (.int b :: .int a :: S) h Q := At_icmp hd ht hp (fun q => k1 (of_decide_eq_true q)) (fun q => k2 (fun z => q (decide_eq_true z)))
theorem At_icmp_ge (hd : ins y pc = some (.if_icmp .ge o, 3)) (ht : (pc : Int) + o = (t : Int)) (hp : pc + 3 = pc') (k1 : ¬ a < b → At d y t L S h Q) (k2 : a < b → At d y pc' L S h Q) : At d y pc L (.int b :: .int a :: S) h Q := At_icmp hd ht hp (fun q => k1 (Int32.not_lt.mpr (of_decide_eq_true q))) (fun q => k2 (Int32.not_le.mp (fun z => q (decide_eq_true z))))
theorem At_icmp_gt (hd : ins y pc = some (.if_icmp .gt o, 3)) (ht : (pc : Int) + o = (t : Int)) (hp : pc + 3 = pc') (k1 : b < a → At d y t L S h Q) (k2 : ¬ b < a → At d y pc' L S h Q) : At d y pc L (.int b :: .int a :: S) h Q := At_icmp hd ht hp (fun q => k1 (of_decide_eq_true q)) (fun q => k2 (fun z => q (decide_eq_true z)))
theorem At_icmp_le (hd : ins y pc = some (.if_icmp .le o, 3)) (ht : (pc : Int) + o = (t : Int)) (hp : pc + 3 = pc') (k1 : ¬ b < a → At d y t L S h Q) (k2 : b < a → At d y pc' L S h Q) : At d y pc L (.int b :: .int a :: S) h Q := At_icmp hd ht hp (fun q => k1 (Int32.not_lt.mpr (of_decide_eq_true q))) (fun q => k2 (Int32.not_le.mp (fun z => q (decide_eq_true z))))
theorem At_if_eq (hd : ins y pc = some (.ifCond .eq o, 3)) (ht : (pc : Int) + o = (t : Int)) (hp : pc + 3 = pc') (k1 : a = 0 → At d y t L S h Q) (k2 : ¬ a = 0 → At d y pc' L S h Q) : At d y pc L (.int a :: S) h Q := At_if hd ht hp (fun q => k1 (of_decide_eq_true q)) (fun q => k2 (fun z => q (decide_eq_true z)))
theorem At_if_ne (hd : ins y pc = some (.ifCond .ne o, 3)) (ht : (pc : Int) + o = (t : Int)) (hp : pc + 3 = pc') (k1 : ¬ a = 0 → At d y t L S h Q) (k2 : a = 0 → At d y pc' L S h Q) : At d y pc L (.int a :: S) h Q := At_if hd ht hp (fun q => k1 (of_decide_eq_true q)) (fun q => k2 (Classical.not_not.mp (fun z => q (decide_eq_true z))))
theorem At_if_lt (hd : ins y pc = some (.ifCond .lt o, 3)) (ht : (pc : Int) + o = (t : Int)) (hp : pc + 3 = pc') (k1 : a < 0 → At d y t L S h Q) (k2 : ¬ a < 0 → At d y pc' L S h Q) : At d y pc L (.int a :: S) h Q := At_if hd ht hp (fun q => k1 (of_decide_eq_true q)) (fun q => k2 (fun z => q (decide_eq_true z)))
theorem At_if_ge (hd : ins y pc = some (.ifCond .ge o, 3)) (ht : (pc : Int) + o = (t : Int)) (hp : pc + 3 = pc') (k1 : ¬ a < 0 → At d y t L S h Q) (k2 : a < 0 → At d y pc' L S h Q) : At d y pc L (.int a :: S) h Q := At_if hd ht hp (fun q => k1 (Int32.not_lt.mpr (of_decide_eq_true q))) (fun q => k2 (Int32.not_le.mp (fun z => q (decide_eq_true z))))
theorem At_if_gt (hd : ins y pc = some (.ifCond .gt o, 3)) (ht : (pc : Int) + o = (t : Int)) (hp : pc + 3 = pc') (k1 : 0 < a → At d y t L S h Q) (k2 : ¬ 0 < a → At d y pc' L S h Q) : At d y pc L (.int a :: S) h Q := At_if hd ht hp (fun q => k1 (of_decide_eq_true q)) (fun q => k2 (fun z => q (decide_eq_true z)))
theorem At_if_le (hd : ins y pc = some (.ifCond .le o, 3)) (ht : (pc : Int) + o = (t : Int)) (hp : pc + 3 = pc') (k1 : ¬ 0 < a → At d y t L S h Q) (k2 : 0 < a → At d y pc' L S h Q) : At d y pc L (.int a :: S) h Q := At_if hd ht hp (fun q => k1 (Int32.not_lt.mpr (of_decide_eq_true q))) (fun q => k2 (Int32.not_le.mp (fun z => q (decide_eq_true z))))
end Br
theorem At_nn {o : Int} {t : Nat} {r : Option Nat} (hd : ins y pc = some (.ifnonnull o, 3)) (ht : (pc : Int) + o = (t : Int)) (hp : pc + 3 = pc') (k1 : ¬ r = none → At d y t L S h Q) (k2 : r = none → At d y pc' L S h Q) : At d y pc L (vr r :: S) h Q := by
  subst hp
  cases r with
  | none => exact At_ft hd rfl (k2 rfl)
  | some a => exact At_jp hd rfl ht (k1 (fun q => by cases q))
theorem At_tabOut {df lo hi : Int} {os : Array Int} {len t : Nat} {x : Int32} (hd : ins y pc = some (.tableswitch df lo hi os, len)) (hx : x.toInt < lo ∨ hi < x.toInt) (ht : (pc : Int) + df = (t : Int)) (k : At d y t L S h Q) : At d y pc L (.int x :: S) h Q := At_jp hd (by show (if x.toInt < lo ∨ hi < x.toInt then _ else _) = _; rw [if_pos hx]) ht k
theorem At_tabIn {df lo hi o : Int} {os : Array Int} {len t : Nat} {x : Int32} (hd : ins y pc = some (.tableswitch df lo hi os, len)) (h1 : ¬ (x.toInt < lo ∨ hi < x.toInt)) (ho : os[(x.toInt - lo).toNat]? = some o) (ht : (pc : Int) + o = (t : Int)) (k : At d y t L S h Q) : At d y pc L (.int x :: S) h Q := At_jp hd (by show (if x.toInt < lo ∨ hi < x.toInt then _ else _) = _; rw [if_neg h1, ho]) ht k
theorem At_lookup {df o : Int} {ps : Array (Int × Int)} {len t : Nat} {x : Int32} (hd : ins y pc = some (.lookupswitch df ps, len)) (hs : (ps.toList.zip (ps.toList.drop 1)).all (fun (a, next) => a.1 < next.1) = true) (ho : Op.lookupswitch.offset ps.toList df x.toInt = o) (ht : (pc : Int) + o = (t : Int)) (k : At d y t L S h Q) : At d y pc L (.int x :: S) h Q := At_jp hd (by show (if _ then _ else none) = _; rw [if_pos hs, ho]) ht k
-- the heap
theorem At_getI {n a c f : Nat} (hd : ins y pc = some (.getfield n, 3)) (hp : pc + 3 = pc') (hf : lkp flT y.1 n = some (c, f)) (hk : (shp h a).1 = 10 + c) (ht : ¬ (fkind c f).1 = 1 ∧ ¬ (fkind c f).1 = 2) (k : At d y pc' L (.int (gI h a f) :: S) h Q) : At d y pc L (.ref a :: S) h Q := by
  subst hp
  refine At_ft hd ?_ k
  show actHp y (.getfield n) L (.ref a :: S) h = _
  simp only [actHp]
  rw [hf]
  simp only [hk, if_true, fval, ht.1, ht.2, if_false]
theorem At_getJ {n a c f : Nat} (hd : ins y pc = some (.getfield n, 3)) (hp : pc + 3 = pc') (hf : lkp flT y.1 n = some (c, f)) (hk : (shp h a).1 = 10 + c) (ht : (fkind c f).1 = 1) (k : At d y pc' L (.long (gJ h a f) :: S) h Q) : At d y pc L (.ref a :: S) h Q := by
  subst hp
  refine At_ft hd ?_ k
  show actHp y (.getfield n) L (.ref a :: S) h = _
  simp only [actHp]
  rw [hf]
  simp only [hk, if_true, fval, ht]
theorem At_getR {n a c f b : Nat} (hd : ins y pc = some (.getfield n, 3)) (hp : pc + 3 = pc') (hf : lkp flT y.1 n = some (c, f)) (hk : (shp h a).1 = 10 + c) (ht : (fkind c f).1 = 2) (hb : gR h a f = some b) (k : At d y pc' L (.ref b :: S) h Q) : At d y pc L (.ref a :: S) h Q := by
  subst hp
  refine At_ft hd ?_ k
  show actHp y (.getfield n) L (.ref a :: S) h = _
  simp only [actHp]
  rw [hf]
  simp only [hk, if_true, fval, ht, hb, vr]
  rfl
theorem At_getN {n a c f : Nat} (hd : ins y pc = some (.getfield n, 3)) (hp : pc + 3 = pc') (hf : lkp flT y.1 n = some (c, f)) (hk : (shp h a).1 = 10 + c) (ht : (fkind c f).1 = 2) (k : At d y pc' L (vr (gR h a f) :: S) h Q) : At d y pc L (.ref a :: S) h Q := by
  subst hp
  refine At_ft hd ?_ k
  show actHp y (.getfield n) L (.ref a :: S) h = _
  simp only [actHp]
  rw [hf]
  simp only [hk, if_true, fval, ht]
  rfl
theorem At_putI {n a c f : Nat} {x : Int32} (hd : ins y pc = some (.putfield n, 3)) (hp : pc + 3 = pc') (hf : lkp flT y.1 n = some (c, f)) (hk : (shp h a).1 = 10 + c) (hfin : (fkind c f).2 = false ∨ (y.2.1 = true ∧ y.1 = cnum c)) (ht : (fkind c f).1 = 0) (k : At d y pc' L S (sI h a f x) Q) : At d y pc L (.int x :: .ref a :: S) h Q := by
  subst hp
  refine At_ft hd ?_ k
  show actHp y (.putfield n) L (.int x :: .ref a :: S) h = _
  simp only [actHp]
  rw [hf]
  simp only []
  rw [if_pos ⟨hk, hfin⟩, ht]
  rfl
theorem At_putZ {n a c f : Nat} {x : Int32} (hd : ins y pc = some (.putfield n, 3)) (hp : pc + 3 = pc') (hf : lkp flT y.1 n = some (c, f)) (hk : (shp h a).1 = 10 + c) (hfin : (fkind c f).2 = false ∨ (y.2.1 = true ∧ y.1 = cnum c)) (ht : (fkind c f).1 = 3) (hx : x = 0 ∨ x = 1) (k : At d y pc' L S (sI h a f x) Q) : At d y pc L (.int x :: .ref a :: S) h Q := by
  subst hp
  refine At_ft hd ?_ k
  show actHp y (.putfield n) L (.int x :: .ref a :: S) h = _
  simp only [actHp]
  rw [hf]
  simp only []
  rw [if_pos ⟨hk, hfin⟩, ht]
  simp only []
  rw [if_pos hx]
theorem At_putJ {n a c f : Nat} {x : Int64} (hd : ins y pc = some (.putfield n, 3)) (hp : pc + 3 = pc') (hf : lkp flT y.1 n = some (c, f)) (hk : (shp h a).1 = 10 + c) (hfin : (fkind c f).2 = false ∨ (y.2.1 = true ∧ y.1 = cnum c)) (ht : (fkind c f).1 = 1) (k : At d y pc' L S (sJ h a f x) Q) : At d y pc L (.long x :: .ref a :: S) h Q := by
  subst hp
  refine At_ft hd ?_ k
  show actHp y (.putfield n) L (.long x :: .ref a :: S) h = _
  simp only [actHp]
  rw [hf]
  simp only []
  rw [if_pos ⟨hk, hfin⟩, ht]
  rfl
theorem At_putR {n a c f b : Nat} (hd : ins y pc = some (.putfield n, 3)) (hp : pc + 3 = pc') (hf : lkp flT y.1 n = some (c, f)) (hk : (shp h a).1 = 10 + c) (hfin : (fkind c f).2 = false ∨ (y.2.1 = true ∧ y.1 = cnum c)) (ht : (fkind c f).1 = 2) (hb : b < nxt h) (k : At d y pc' L S (sR h a f (some b)) Q) : At d y pc L (.ref b :: .ref a :: S) h Q := by
  subst hp
  refine At_ft hd ?_ k
  show actHp y (.putfield n) L (.ref b :: .ref a :: S) h = _
  simp only [actHp]
  rw [hf]
  simp only []
  rw [if_pos ⟨hk, hfin⟩, ht]
  simp only []
  rw [if_pos hb]
theorem At_putN {n a c f : Nat} (hd : ins y pc = some (.putfield n, 3)) (hp : pc + 3 = pc') (hf : lkp flT y.1 n = some (c, f)) (hk : (shp h a).1 = 10 + c) (hfin : (fkind c f).2 = false ∨ (y.2.1 = true ∧ y.1 = cnum c)) (ht : (fkind c f).1 = 2) (k : At d y pc' L S (sR h a f none) Q) : At d y pc L (.null :: .ref a :: S) h Q := by
  subst hp
  refine At_ft hd ?_ k
  show actHp y (.putfield n) L (.null :: .ref a :: S) h = _
  simp only [actHp]
  rw [hf]
  simp only []
  rw [if_pos ⟨hk, hfin⟩, ht]
  rfl
theorem At_iald {a n : Nat} {j : Int32} (hd : ins y pc = some (.iaload, 1)) (hp : pc + 1 = pc') (hk : shp h a = (1, n)) (hj : inB j n = true) (k : At d y pc' L (.int (gI h a j.toNatClampNeg) :: S) h Q) : At d y pc L (.int j :: .ref a :: S) h Q := by subst hp; exact At_ft hd (by show (if ((shp h a).1 = 0 ∨ (shp h a).1 = 1) ∧ inB j (shp h a).2 = true then _ else none) = _; rw [hk, if_pos ⟨Or.inr rfl, hj⟩]) k
theorem At_sald {a n : Nat} {j : Int32} (hd : ins y pc = some (.iaload, 1)) (hp : pc + 1 = pc') (hk : shp h a = (0, n)) (hj : inB j n = true) (k : At d y pc' L (.int (gI h a j.toNatClampNeg) :: S) h Q) : At d y pc L (.int j :: .ref a :: S) h Q := by subst hp; exact At_ft hd (by show (if ((shp h a).1 = 0 ∨ (shp h a).1 = 1) ∧ inB j (shp h a).2 = true then _ else none) = _; rw [hk, if_pos ⟨Or.inl rfl, hj⟩]) k
theorem At_bald {a n : Nat} {j : Int32} (hd : ins y pc = some (.baload, 1)) (hp : pc + 1 = pc') (hk : shp h a = (2, n)) (hj : inB j n = true) (k : At d y pc' L (.int (gI h a j.toNatClampNeg) :: S) h Q) : At d y pc L (.int j :: .ref a :: S) h Q := by subst hp; exact At_ft hd (by show (if (shp h a).1 = 2 ∧ inB j (shp h a).2 = true then _ else none) = _; rw [hk, if_pos ⟨rfl, hj⟩]) k
theorem At_aald {a n b kd : Nat} {j : Int32} (hd : ins y pc = some (.aaload, 1)) (hp : pc + 1 = pc') (hk : shp h a = (kd, n)) (hkd : kd = 3 ∨ kd = 4) (hj : inB j n = true) (hb : gR h a j.toNatClampNeg = some b) (k : At d y pc' L (.ref b :: S) h Q) : At d y pc L (.int j :: .ref a :: S) h Q := by subst hp; exact At_ft hd (by show (if ((shp h a).1 = 3 ∨ (shp h a).1 = 4) ∧ inB j (shp h a).2 = true then aF L (vr (gR h a j.toNatClampNeg) :: S) h else none) = _; rw [hk, if_pos ⟨hkd, hj⟩, hb]; rfl) k
theorem At_iast {a n : Nat} {j x : Int32} (hd : ins y pc = some (.iastore, 1)) (hp : pc + 1 = pc') (hk : shp h a = (1, n)) (hj : inB j n = true) (k : At d y pc' L S (sI h a j.toNatClampNeg x) Q) : At d y pc L (.int x :: .int j :: .ref a :: S) h Q := by subst hp; exact At_ft hd (by show (if (shp h a).1 = 1 ∧ inB j (shp h a).2 = true then _ else none) = _; rw [hk, if_pos ⟨rfl, hj⟩]) k
theorem At_bast {a n : Nat} {j x : Int32} (hd : ins y pc = some (.bastore, 1)) (hp : pc + 1 = pc') (hk : shp h a = (2, n)) (hj : inB j n = true) (k : At d y pc' L S (sI h a j.toNatClampNeg (vp_nar .byte x)) Q) : At d y pc L (.int x :: .int j :: .ref a :: S) h Q := by subst hp; exact At_ft hd (by show (if (shp h a).1 = 2 ∧ inB j (shp h a).2 = true then _ else none) = _; rw [hk, if_pos ⟨rfl, hj⟩]) k
theorem At_aast {a n v kd kv nv : Nat} {j : Int32} (hd : ins y pc = some (.aastore, 1)) (hp : pc + 1 = pc') (hk : shp h a = (kd, n)) (hv : shp h v = (kv, nv)) (hkd : (kd = 3 ∧ kv = 15) ∨ (kd = 4 ∧ kv = 11)) (hj : inB j n = true) (k : At d y pc' L S (sR h a j.toNatClampNeg (some v)) Q) : At d y pc L (.ref v :: .int j :: .ref a :: S) h Q := by subst hp; exact At_ft hd (by show (if inB j (shp h a).2 = true ∧ (((shp h a).1 = 3 ∧ (shp h v).1 = 15) ∨ ((shp h a).1 = 4 ∧ (shp h v).1 = 11)) then _ else none) = _; rw [hk, hv, if_pos ⟨hj, hkd⟩]) k
theorem At_alen {a n kd : Nat} (hd : ins y pc = some (.arraylength, 1)) (hp : pc + 1 = pc') (hk : shp h a = (kd, n)) (hkd : kd ≤ 4) (k : At d y pc' L (.int (nI n) :: S) h Q) : At d y pc L (.ref a :: S) h Q := by subst hp; exact At_ft hd (by show (if (shp h a).1 ≤ 4 then _ else none) = _; rw [hk, if_pos hkd]; rfl) k
theorem At_newI {n : Int32} {N z : Nat} (hd : ins y pc = some (.newarray .int, 2)) (hp : pc + 2 = pc') (hn : ¬ n < 0) (hN : n.toNatClampNeg = N) (hle : N ≤ 100000) (hz : nxt h = z) (hz9 : z < 900000) (k : At d y pc' L (.ref z :: S) (newO h 1 N) Q) : At d y pc L (.int n :: S) h Q := by subst hp; subst hN; subst hz; exact At_ft hd (by show (if ¬ n < 0 ∧ n.toNatClampNeg ≤ 100000 ∧ nxt h < 900000 then _ else none) = _; rw [if_pos ⟨hn, hle, hz9⟩]) k
theorem At_newB {n : Int32} {N z : Nat} (hd : ins y pc = some (.newarray .byte, 2)) (hp : pc + 2 = pc') (hn : ¬ n < 0) (hN : n.toNatClampNeg = N) (hle : N ≤ 100000) (hz : nxt h = z) (hz9 : z < 900000) (k : At d y pc' L (.ref z :: S) (newO h 2 N) Q) : At d y pc L (.int n :: S) h Q := by subst hp; subst hN; subst hz; exact At_ft hd (by show (if ¬ n < 0 ∧ n.toNatClampNeg ≤ 100000 ∧ nxt h < 900000 then _ else none) = _; rw [if_pos ⟨hn, hle, hz9⟩]) k
theorem At_newQ {n : Int32} {N z kd i : Nat} (hd : ins y pc = some (.anewarray i, 3)) (hp : pc + 3 = pc') (hi : lkp anewT y.1 i = some kd) (hn : ¬ n < 0) (hN : n.toNatClampNeg = N) (hle : N ≤ 100000) (hz : nxt h = z) (hz9 : z < 900000) (k : At d y pc' L (.ref z :: S) (newO h kd N) Q) : At d y pc L (.int n :: S) h Q := by
  subst hp; subst hN; subst hz
  refine At_ft hd ?_ k
  show actHp y (.anewarray i) L (.int n :: S) h = _
  simp only [actHp]
  rw [hi]
  simp only []
  rw [if_pos ⟨hn, hle, hz9⟩]
theorem At_newO {z c N i : Nat} (hd : ins y pc = some (.new i, 3)) (hp : pc + 3 = pc') (hi : lkp newT y.1 i = some c) (hN : csize c = N) (hz : nxt h = z) (hz9 : z < 900000) (k : At d y pc' L (.ref z :: S) (newO h (10 + c) N) Q) : At d y pc L S h Q := by
  subst hp; subst hz; subst hN
  refine At_ft hd ?_ k
  show actHp y (.new i) L S h = _
  simp only [actHp]
  rw [hi]
  simp only []
  rw [if_pos hz9]
-- returns
theorem At_retI {v : Int32} (hd : ins y pc = some (.ireturn, 1)) (ht : y.2.2.2.2.2 = some .int) (k : Q (some (.int v)) h) : At d y pc L [.int v] h Q := At_rt hd (by show (if _ then _ else none) = _; rw [if_pos (Or.inl ht)]) k
theorem At_retZ {v : Int32} (hd : ins y pc = some (.ireturn, 1)) (ht : y.2.2.2.2.2 = some .boolean) (hv : v = 0 ∨ v = 1) (k : Q (some (.int v)) h) : At d y pc L [.int v] h Q := At_rt hd (by show (if _ then _ else none) = _; rw [if_pos (Or.inr ⟨ht, hv⟩)]) k
theorem At_retJ {v : Int64} (hd : ins y pc = some (.lreturn, 1)) (ht : y.2.2.2.2.2 = some .long) (k : Q (some (.long v)) h) : At d y pc L [.long v] h Q := At_rt hd (by show (if _ then _ else none) = _; rw [if_pos ht]) k
theorem At_retV (hd : ins y pc = some (.return_, 1)) (ht : y.2.2.2.2.2 = none) (k : Q none h) : At d y pc L [] h Q := At_rt hd (by show (if _ then _ else none) = _; rw [if_pos ht]) k
-- calls
theorem At_stat {n np rc : Nat} {y' : Mth} {as S' : List Value} (hd : ins y pc = some (.invokestatic n, 3)) (hp : pc + 3 = pc') (hm : lkp mlT y.1 n = some (0, np, rc, y')) (ha : (S.take np).reverse = as) (hs : S.drop np = S') (hl : np ≤ S.length) (hc : cats S' ≤ 8) (hsp : (spread as).length ≤ y'.2.2.2.2.1) (k : Call d y' as h (fun v h' => At (d + 1) y pc' L (psh v S') h' Q)) : At (d + 1) y pc L S h Q := by
  subst hp; subst ha; subst hs
  refine At_cl hd ?_ k
  show actIv y (.invokestatic n) L S h = _
  simp only [actIv]
  rw [hm]
  simp only []
  rw [if_pos ⟨hl, hc, hsp⟩]
theorem At_virt {n np rc a : Nat} {y' : Mth} {as S' : List Value} (hd : ins y pc = some (.invokevirtual n, 3)) (hp : pc + 3 = pc') (hm : lkp mlT y.1 n = some (1, np, rc, y')) (ha : .ref a :: (S.take np).reverse = as) (hs : S.drop np = .ref a :: S') (hk : (shp h a).1 = rc) (hc : cats S' ≤ 8) (hsp : (spread as).length ≤ y'.2.2.2.2.1) (k : Call d y' as h (fun v h' => At (d + 1) y pc' L (psh v S') h' Q)) : At (d + 1) y pc L S h Q := by
  subst hp; subst ha
  refine At_cl hd ?_ k
  show actIv y (.invokevirtual n) L S h = _
  simp only [actIv]
  rw [hm]
  simp only []
  rw [hs]
  simp only []
  rw [if_pos ⟨hk, hc, hsp⟩]
theorem At_spec {n np rc a kd : Nat} {y' : Mth} {as S' : List Value} (hd : ins y pc = some (.invokespecial n, 3)) (hp : pc + 3 = pc') (hm : lkp mlT y.1 n = some (kd, np, rc, y')) (hkd : kd = 2 ∨ kd = 3) (ha : .ref a :: (S.take np).reverse = as) (hs : S.drop np = .ref a :: S') (hc : cats S' ≤ 8) (hsp : (spread as).length ≤ y'.2.2.2.2.1) (k : Call d y' as h (fun v h' => At (d + 1) y pc' L (psh v S') h' Q)) : At (d + 1) y pc L S h Q := by
  subst hp; subst ha
  refine At_cl hd ?_ k
  show actIv y (.invokespecial n) L S h = _
  simp only [actIv]
  rw [hm]
  rcases hkd with rfl | rfl
  · simp only []
    rw [hs]
    simp only []
    rw [if_pos ⟨hc, hsp⟩]
  · simp only []
    rw [hs]
    simp only []
    rw [if_pos ⟨hc, hsp⟩]
theorem At_oinit {n a : Nat} {w : Nat × Nat × Mth} (hd : ins y pc = some (.invokespecial n, 3)) (hp : pc + 3 = pc') (hm : lkp mlT y.1 n = some (10, w)) (hc : cats S ≤ 8) (k : At d y pc' L S h Q) : At d y pc L (.ref a :: S) h Q := by
  subst hp
  refine At_ft hd ?_ k
  show actIv y (.invokespecial n) L (.ref a :: S) h = _
  simp only [actIv]
  rw [hm]
  simp only []
  rw [if_pos hc]
theorem At_max {n : Nat} {a b : Int32} {w : Nat × Nat × Mth} (hd : ins y pc = some (.invokestatic n, 3)) (hp : pc + 3 = pc') (hm : lkp mlT y.1 n = some (11, w)) (hc : cats S ≤ 8) (k : At d y pc' L (.int (if a < b then b else a) :: S) h Q) : At d y pc L (.int b :: .int a :: S) h Q := by
  subst hp
  refine At_ft hd ?_ k
  show actIv y (.invokestatic n) L (.int b :: .int a :: S) h = _
  simp only [actIv]
  rw [hm]
  simp only []
  rw [if_pos hc]
theorem At_min {n : Nat} {a b : Int32} {w : Nat × Nat × Mth} (hd : ins y pc = some (.invokestatic n, 3)) (hp : pc + 3 = pc') (hm : lkp mlT y.1 n = some (12, w)) (hc : cats S ≤ 8) (k : At d y pc' L (.int (if b < a then b else a) :: S) h Q) : At d y pc L (.int b :: .int a :: S) h Q := by
  subst hp
  refine At_ft hd ?_ k
  show actIv y (.invokestatic n) L (.int b :: .int a :: S) h = _
  simp only [actIv]
  rw [hm]
  simp only []
  rw [if_pos hc]
theorem At_copy {n a b na nb : Nat} {sp dp m : Int32} {w : Nat × Nat × Mth} (hd : ins y pc = some (.invokestatic n, 3)) (hp : pc + 3 = pc') (hm : lkp mlT y.1 n = some (13, w)) (hc : cats S ≤ 8) (ha : shp h a = (1, na)) (hb : shp h b = (1, nb)) (h1 : ¬ sp < 0 ∧ ¬ dp < 0 ∧ ¬ m < 0 ∧ sp.toNatClampNeg + m.toNatClampNeg ≤ na ∧ dp.toNatClampNeg + m.toNatClampNeg ≤ nb) (k : At d y pc' L S (cpI h a sp.toNatClampNeg b dp.toNatClampNeg m.toNatClampNeg) Q) : At d y pc L (.int m :: .int dp :: .ref b :: .int sp :: .ref a :: S) h Q := by
  subst hp
  refine At_ft hd ?_ k
  show actIv y (.invokestatic n) L (.int m :: .int dp :: .ref b :: .int sp :: .ref a :: S) h = _
  simp only [actIv]
  rw [hm]
  simp only []
  rw [if_pos ⟨hc, by rw [ha], by rw [hb], h1.1, h1.2.1, h1.2.2.1, by rw [ha]; exact h1.2.2.2.1, by rw [hb]; exact h1.2.2.2.2⟩]
theorem At_slen {n q : Nat} {w : Nat × Nat × Mth} (hd : ins y pc = some (.invokevirtual n, 3)) (hp : pc + 3 = pc') (hm : lkp mlT y.1 n = some (14, w)) (hc : cats S ≤ 8) (hq : q < 6) (k : At d y pc' L (.int (nI (strT.getD q []).length) :: S) h Q) : At d y pc L (.ref (1000000 + q) :: S) h Q := by
  subst hp
  refine At_ft hd ?_ k
  show actIv y (.invokevirtual n) L (.ref (1000000 + q) :: S) h = _
  simp only [actIv]
  rw [hm]
  simp only []
  rw [if_pos ⟨Nat.le_add_right _ _, Nat.add_lt_add_left hq 1000000, hc⟩, Nat.add_sub_cancel_left]
  rfl
theorem At_schr {n q : Nat} {j : Int32} {w : Nat × Nat × Mth} (hd : ins y pc = some (.invokevirtual n, 3)) (hp : pc + 3 = pc') (hm : lkp mlT y.1 n = some (15, w)) (hc : cats S ≤ 8) (hq : q < 6) (hj : inB j (strT.getD q []).length = true) (k : At d y pc' L (.int ((strT.getD q []).getD j.toNatClampNeg 0) :: S) h Q) : At d y pc L (.int j :: .ref (1000000 + q) :: S) h Q := by
  subst hp
  refine At_ft hd ?_ k
  show actIv y (.invokevirtual n) L (.int j :: .ref (1000000 + q) :: S) h = _
  simp only [actIv]
  rw [hm]
  simp only []
  rw [if_pos ⟨Nat.le_add_right _ _, Nat.add_lt_add_left hq 1000000, hc, by rw [Nat.add_sub_cancel_left]; exact hj⟩, Nat.add_sub_cancel_left]
end Rows
