/-! THE CLAIM OUT OF ONE WALK OF THE LAW'S BODY. Your part is whole_start (and what it stands on); all else here is the same for every law, but numbers. -/
def R_law : String := "RoundStoolLaw"
def lw_P (b : Addr) (xs : List Int32) (args : Array Value) (s : State) : Prop := args = #[.ref b] ∧ s.IntsAt b xs ∧ xs.length ≤ 3072 ∧ (Jvm.Cond.and given_1 narrow_1).before args s = true
def lw_Q (_ : Array Value) (s : State) (o : Outcome) (t : State) : Prop := o = .returned (some (.int 1)) ∧ Framed s o t [] 600000 7302250
def lw_Z (below : List Frame) (a : Array Value) (s : State) : State → Prop := fun t => ∃ o, t.status = .running ∧ Ended t below o ∧ lw_Q a s o t
/-- the law's own end, with 1 on the stack, nothing written that was there before, its room as the claim has it -/
theorem lw_ret {p : Program} {l : Launch} {e : Env} {s : State} {m : MethodId} {below : List Frame} {meth : Method} {c : Code} {b : Nat} (hx : p.tables.exec = Jvm.exec) (hb : c.code = code) (hr : meth.sig.returnType = ret) (hlocks : meth.locks = false) {pc : Nat} {H : Heap} {ls : Array Slot} (hdg : decode code pc = .ok (.ireturn, 1)) : W p l e room_1 s m #[Value.ref b] below meth c H [] 600000 7302250 (lw_Z below #[Value.ref b] s) (F0 m pc ls [.int 1]) := by
  intro T hT X
  obtain ⟨fs, hret, hrun, hended, hW, hframe⟩ := X.leave (v := some (.int 1)) (hlocks := hlocks) (fun h => by rw [hr] at h; cases h)
  have hmeth' : T.vm.method? m = some meth := X.method'
  refine ⟨T.setFrames fs, ?_, .returned (some (.int 1)), hrun, hended, rfl, ⟨_, rfl⟩, hW, hframe⟩
  jvm_step X.here [X.here.top, hx, hb, hdg, hmeth', hr, ret, narrow_b1]
  (try refine ⟨rfl, ?_⟩); (try refine ⟨rfl, ?_⟩)
  first | (intro acts; rw [hret _ acts rfl rfl rfl]) | rw [hret _ _ rfl rfl rfl]
  exact Steps.refl _
/-- what holds at the law's entry: the machine, the code, the tables' words (any of lw_tbl by 'hts w (by decide +kernel)'), the script of L ints xs at the cell b, what the Statement gives of the start (any of its parts by flat_of_before) -/
def lw_At (p : Program) (s : State) (m : MethodId) (meth : Method) (c : Code) (b L : Nat) (xs : Nat → Int32) : Prop :=
  p.tables.exec = Jvm.exec ∧ c.code = code ∧ meth.sig.returnType = ret ∧ c.maxLocals = 4 ∧ s.vm.findClass R_law = some m.cls ∧ (∀ w ∈ lw_tbl, w.before #[Value.ref b] s = true) ∧ va_X b L xs s s.heap ∧ b < s.heap.size ∧ meth.locks = false ∧ (Jvm.Cond.and given_1 narrow_1).before #[Value.ref b] s = true
def h0 (L : Nat) (xs : Nat → Int32) : Hp := (fun a j => if a = 0 then xs j else 0, fun _ _ => 0, fun _ _ => none, [(0, L)])
def sIx : List Nat := [60, 66, 68, 70, 72, 74]
def mIx : List Nat := [101, 107, 109, 111, 113, 115]
def sTm (i : Nat) : Term := Term.string "RoundStool$Tape" (sIx.getD i 0)
theorem nw_ex : ∀ i, i < 6 → Cond.exactly (sTm i) "java/lang/String" ∈ flatC (Jvm.Cond.and given_1 narrow_1) := by decide +kernel
theorem nw_co : ∀ i, i < 6 → Cond.eq (.field (sTm i) "java/lang/String" "coder" "B") (.int 0) ∈ flatC (Jvm.Cond.and given_1 narrow_1) := by decide +kernel
theorem nw_ar : ∀ i, i < 6 → Cond.arrayOf (.field (sTm i) "java/lang/String" "value" "[B") .byte ∈ flatC (Jvm.Cond.and given_1 narrow_1) := by decide +kernel
theorem nw_le : ∀ i, i < 6 → Cond.eq (.length (.field (sTm i) "java/lang/String" "value" "[B")) (.int (Int32.ofNat ((strT.map List.length).getD i 0))) ∈ flatC (Jvm.Cond.and given_1 narrow_1) := by decide +kernel
theorem nw_el : ∀ i, i < 6 → ∀ j, j < (strT.map List.length).getD i 0 → Cond.eq (.elem (.field (sTm i) "java/lang/String" "value" "[B") (.int (Int32.ofNat j))) (.int ((strT.getD i []).getD j 0)) ∈ flatC (Jvm.Cond.and given_1 narrow_1) := by decide +kernel
theorem nw_ne : ∀ i, i < 6 → ∀ j, j < 6 → i ≠ j → (Cond.not (Cond.eq (sTm i) (sTm j)) ∈ flatC (Jvm.Cond.and given_1 narrow_1) ∨ Cond.not (Cond.eq (sTm j) (sTm i)) ∈ flatC (Jvm.Cond.and given_1 narrow_1)) := by decide +kernel
theorem nw_eq : ∀ i, i < 6 → Cond.eq (sTm i) (Term.string "RoundStoolModel" (mIx.getD i 0)) ∈ flatC (Jvm.Cond.and given_1 narrow_1) := by decide +kernel
theorem nw_cs : Cond.eq (.static "java/lang/String" "COMPACT_STRINGS" "Z") (.int 1) ∈ flatC (Jvm.Cond.and given_1 narrow_1) := by decide +kernel
theorem nw_sf : Cond.isRef (.static "jdk/internal/util/Preconditions" "SIOOBE_FORMATTER" "Ljava/util/function/BiFunction;") ∈ flatC (Jvm.Cond.and given_1 narrow_1) := by decide +kernel
theorem sl_ix : ∀ e ∈ slT, (e.1.1 = 9 ∧ e.1.2 = sIx.getD e.2 0) ∨ (e.1.1 = 11 ∧ e.1.2 = mIx.getD e.2 0) := by decide +kernel
theorem cl9 : clsN 9 = "RoundStool$Tape" := rfl
theorem cl11 : clsN 11 = "RoundStoolModel" := rfl
set_option maxHeartbeats 4000000 in
/-- THE LAW, from its entry -/
theorem whole_start {p : Program} {e : Env} {s : State} {m : MethodId} {below : List Frame} {meth : Method} {c : Code} (l : Launch) {b L : Nat} {xs : Nat → Int32} (hL : L ≤ 3072) (C0 : lw_At p s m meth c b L xs) : W p l e room_1 s m #[Value.ref b] below meth c s.heap [] 0 0 (lw_Z below #[Value.ref b] s) (entryFrame m ([Value.ref b] : List Value).toArray 4) := by
  obtain ⟨hx, hb, hr, hml, hown, hts, hX, hbl, hlocks, hgv⟩ := id C0
  have hflat := flat_of_before _ hgv
  have htg : ∀ w ∈ gt, w.before #[Value.ref b] s = true := fun w hw => hts w (List.mem_filter.mp hw).1
  have htt : ∀ w ∈ tables_1, w.before #[Value.ref b] s = true := fun w hw => hts w (List.mem_append_right _ hw)
  let A : Nat → Prop := fun q => s.heap.size ≤ q
  have hA : ∀ q : Nat, s.heap.size ≤ q → A q := fun _ h => h
  have hAn : ∀ a : Nat, a < s.heap.size → ¬ A a := fun a h q => Nat.lt_irrefl _ (Nat.lt_of_lt_of_le h q)
  -- the classes
  have hk0 : ∀ k : Nat, ∃ r : ClassId × (Nat → Nat), ∀ q, vwCl[k]? = some q → u_Kn s q.1 q.2.1 q.2.2 r.1 r.2 := by
    intro k
    cases hq : vwCl[k]? with
    | none => exact ⟨(0, fun _ => 0), fun q h => by cases h⟩
    | some q =>
      obtain ⟨t1, t2, t3, t4, t5⟩ := vwW k q hq
      obtain ⟨cC, iS, h⟩ := u_known (n := q.2.2) htg t1 (htg _ t4)
      exact ⟨(cC, iS), fun q' h' => by cases h'; exact h⟩
  obtain ⟨f, hf⟩ := Classical.axiomOfChoice hk0
  have hK : va_K (fun k => (f k).1, fun k => (f k).2) vwCl [] s := ⟨fun k q hq => hf k q hq, fun k q h => by simp at h⟩
  -- the texts
  obtain ⟨aK, aV, hVS, hev⟩ := vk_Sof (args := #[Value.ref b]) (s := s) (N := 6) (tm := sTm) (len := strT.map List.length) (byt := strT) (A := A) (by decide +kernel) (fun i hi => hflat _ (nw_ex i hi)) (fun i hi => hflat _ (nw_co i hi)) (fun i hi => hflat _ (nw_ar i hi)) (fun i hi => hflat _ (nw_le i hi)) (fun i hi j hj => hflat _ (nw_el i hi j hj)) (fun i j hi hj hij => (nw_ne i hi j hj hij).elim (fun q => Or.inl (hflat _ q)) (fun q => Or.inr (hflat _ q))) hAn
  have hStr : ∀ e ∈ slT, vk_R (clsN e.1.1) e.1.2 (sTx e.2) (aK e.2) s := by
    intro e he
    obtain ⟨h6, hw⟩ := slW e he
    have h1 := htt _ hw
    have h2 := hev e.2 h6
    rcases sl_ix e he with ⟨z1, z2⟩ | ⟨z1, z2⟩
    · refine vk_R.of (A := #[Value.ref b]) h1 ?_
      rw [z1, z2, cl9]
      exact h2
    · refine vk_R.of (A := #[Value.ref b]) h1 ?_
      rw [z1, z2, cl11]
      exact va_eqR (hflat _ (nw_eq e.2 h6)) h2
  have hZ : va_Z "java/lang/String" "COMPACT_STRINGS" "Z" (.int 1) A s s.heap := va_Zof (args := #[Value.ref b]) (htt _ w_cs_l) (htt _ w_str_i) (va_eqi (hflat _ nw_cs)) hAn
  have hZq : va_Zq "jdk/internal/util/Preconditions" "SIOOBE_FORMATTER" "Ljava/util/function/BiFunction;" A s s.heap := va_Zqof (args := #[Value.ref b]) (htt _ w_sf_l) (htt _ w_pre_i) (hflat _ nw_sf) hAn
  have hTb : Tb (fun k => (f k).1, fun k => (f k).2) A b L xs aK aV s := ⟨hK, fun e he h3 => va_Nw.of rfl (htt _ (nestW e he h3)), fun kd hkd => va_AO.of (htt _ (aoW kd hkd)), hStr, hX, hbl, hAn b hbl, hA, hVS, hZ, hZq⟩
  have C : Cx p s m #[Value.ref b] meth c ML_law := ⟨hx, hb, hml, hown, htg, hr, (fun h => Bool.noConfusion h), hlocks⟩
  let adr : Nat → Nat := fun a => if 1000000 ≤ a then aK (a - 1000000) else b
  have hRel : Rel (fun k => (f k).1, fun k => (f k).2) A b L xs aK s adr (fun _ => 0) s.heap [] (h0 L xs) := by
    refine ⟨fun k q h => by simp [wsO, nxt, h0] at h, ⟨fun i j p q h => by simp [wsO, nxt, h0] at h, fun k q h => by simp [wsO, nxt, h0] at h⟩, va_S.rf, fun a h1 h2 => absurd h2 (by simp [nxt, h0]; omega), by simp [adr], fun i hi => ?_, by simp [shp, h0], fun j _ => by simp [h0], ⟨fun a k b h => by simp [h0] at h, by simp [nxt, h0], by simp [nxt, h0], fun a h1 h2 => absurd h2 (by simp [nxt, h0]; omega)⟩⟩
    show (if 1000000 ≤ 1000000 + i then aK (1000000 + i - 1000000) else b) = aK i
    rw [if_pos (Nat.le_add_right _ _), Nat.add_sub_cancel_left]
  obtain ⟨n, h', hrun, hn, ht⟩ := law_run L xs hL
  rw [lg_entry_eq]
  have e0 : nxt (h0 L xs) = 1 := by simp [nxt, h0]
  have e1 : tot (h0 L xs) = L := by simp [tot, h0]
  have hent := LR_ent (adr := adr) (as := [.ref 0]) (n := 4) (by decide)
  have eb : ([.ref 0] : List Value).map (rv adr) = [.ref b] := by simp [rv, adr]
  rw [eb] at hent
  refine sim l n 40 ML_law 0 (ent [.ref 0] 4) [] (h0 L xs) (some (.int 1)) h' hrun (R := room_1) (c1 := 600000) (s1 := 7302250) (adr0 := adr) (n0 := 1) C hTb (by decide) (by decide) (Nat.le_refl _) (Nat.le_refl _) ?_ hRel hent (fun w hw => (ent_mem hw).elim (fun q => by rw [List.mem_singleton.mp q]; exact Or.inl (by rw [e0]; decide)) (fun q => by rw [q]; trivial)) (fun w hw => by cases hw) (by rw [e0]; exact Nat.le_refl _) (fun _ _ => rfl) (fun _ _ => rfl) (by rw [e0]; omega) (by rw [e1]; omega)
  intro H locs cells slots ls adr1 cA1 pc len i S hd hl ha hR1 hc hs _ _
  unfold actRt at ha
  split at ha
  · have hl := hl.resolve_left (Nat.succ_ne_zero _); subst hl
    split at ha
    · cases ha
      refine va_forget (fun q hq => hR1.2.2.1.2.2 q hq) ?_
      refine W.widen (k := 600000) (n := 7302250) hc hs ?_
      exact lw_ret hx hb hr hlocks hd
    · cases ha
  · split at ha
    · cases ha
    · cases ha
  · split at ha
    · cases ha
    · cases ha
  · cases ha
set_option maxHeartbeats 4000000 in
theorem lw_walk (l : Launch) (b : Addr) (xs : List Int32) : MetFree l x (headSpec (Jvm.Cond.code x code maxLocals ret :: tables_1) room_1) (lw_P b xs) (fun _ _ _ _ _ => True) lw_Q := by
  refine MetFree.of_bodyS (code := code) (maxLocals := maxLocals) (ret := ret) (by decide) ?_ ?_
  · intro args s m h hn
    obtain ⟨meth, c, h1, h2, h3, h4, h5, h6, -, -⟩ := Cond.code_spec hn (atoms_spec (ws := Jvm.Cond.code x code maxLocals ret :: tables_1) h _ List.mem_cons_self)
    exact ⟨meth, c, h1, h2, h3, h4, h5, h6⟩
  · intro p e s m args below meth c s₁ B hml0 hP _
    obtain ⟨rfl, hx, hbd, hgv⟩ := hP
    obtain ⟨scr, harrAt, hlist, hof, hsmall⟩ := hx
    obtain ⟨hcb, hkn, -, -⟩ := State.arrayAt?_spec harrAt
    have hown : s.vm.findClass R_law = some m.cls := findClass_of_methodNamed B.named
    have hts0 : ∀ c ∈ (Jvm.Cond.code x code maxLocals ret :: tables_1), c.before #[Value.ref b] s = true := atoms_spec (ws := Jvm.Cond.code x code maxLocals ret :: tables_1) B.pre
    have hts : ∀ w ∈ lw_tbl, w.before #[Value.ref b] s = true := k2_hts_sels lw_privs (fun w hw => hts0 w (List.mem_cons_of_mem _ hw)) lw_privs_ok
    have hml : c.maxLocals = 4 := B.maxLocals_eq (hts0 _ List.mem_cons_self)
    have X₀ : Stand p l e room_1 s m #[Value.ref b] below meth c s₁ [] 0 0 := Stand.of_body B
    have hh0 : s₁.heap = s.heap := by rw [B.state]; rfl
    have hsz : scr.slots.size = xs.length := by rw [← Array.length_toList, hlist, List.length_map]
    have hval : ∀ j : Nat, j < xs.length → scr.slots[j]? = some (.int (xs.getD j 0)) := fun j hj => by
      rw [← Array.getElem?_toList, hlist]
      simp [hj]
    have hbl : b < s.heap.size := (Array.getElem?_eq_some_iff.mp hcb).1
    have hX : va_X b xs.length (fun j => xs.getD j 0) s s.heap := ⟨scr, hcb, hof, hkn, hsz, hval⟩
    have K : W p l e room_1 s m #[Value.ref b] below meth c s₁.heap [] 0 0 (lw_Z below #[Value.ref b] s) (entryFrame m ([Value.ref b] : List Value).toArray 4) := by
      rw [hh0]
      exact whole_start l hbd ⟨B.exec, B.bytes, B.returns, hml, hown, hts, hX, hbl, B.notSynchronized, hgv⟩
    obtain ⟨t, a1, o, b1, b2, b3⟩ := K s₁ rfl X₀
    exact ⟨t, o, a1, b1, b2, b3⟩
theorem lw_pre_spec {args : Array Value} {s : State} (h : (Jvm.Cond.and given_1 narrow_1).before args s = true) (hr : rest_1_c.before args s = true) : ∃ (b : Addr) (xs : List Int32), lw_P b xs args s := by
  have hs := flat_of_before _ h
  have hq := flat_of_before _ hr
  have hc : (Cond.count 1).before args s = true := hs _ (by decide +kernel)
  have harr : (Cond.arrayOf (.arg 0) .int).before args s = true := hs _ (by decide +kernel)
  have hle : (Cond.le (.length (.arg 0)) (.int 3072)).before args s = true := hs _ (by decide +kernel)
  have hlen : (Cond.isInt (.length (.arg 0))).before args s = true := hq _ (by decide +kernel)
  have hall : (Cond.all (.arg 0) (.isInt (.elem (.arg 0) (.index 0)))).before args s = true := hq _ (by decide +kernel)
  obtain ⟨b, xs, hb, hx⟩ := State.ints_of_pre rfl harr hlen hall
  have hsm : xs.length < 2 ^ 31 := hx.choose_spec.2.2.2
  have hev : (Term.length (.arg 0)).eval args s none [] s = some (.int xs.length.toInt32) := hx.length_eval hb
  have hv := Cond.le_ints hev (show (Term.int 3072).eval args s none [] s = some (.int 3072) from rfl)
  have hd : xs.length.toInt32 ≤ 3072 := by
    simpa [Cond.before, Cond.holds, hv] using hle
  have hN : xs.length ≤ 3072 := (Int32.ofNat_le_ofNat hsm (by decide)).mp (show Int32.ofNat xs.length ≤ Int32.ofNat 3072 from hd)
  exact ⟨b, xs, Cond.one_arg hc (show args[0]? = some (.ref b) from hb), hx, hN, h⟩
theorem lw_comes (l : Launch) : Comes l x (Jvm.Cond.code x code maxLocals ret :: tables_1) room_1 (fun tb e args s => Calls_1 tb e args s ∧ rest_1 tb e args s ∧ Pre_1 tb e args s)
    (fun _ _ args s o t => lw_Q args s o t) := by
  intro p e ha hc hk s m args below hf hfit hheap happ hpre
  obtain ⟨b, xs, hP⟩ := lw_pre_spec hpre.2.2 hpre.2.1
  obtain ⟨k, o, h1, h2, h3, hQ⟩ := lw_walk l b xs p e ha hc hk s m args below hf ((Spec.applies_iff_loose hf).mp happ).1 hP trivial
  exact ⟨k, o, h1, h2, h3, hQ⟩
theorem lw_frame {s t : State} {o : Outcome} {args : Array Value} (h : Framed s o t [] 600000 7302250) :
    Framed s o t (fieldLocs frame_1_writes args s ++ arrayLocs frame_1_arrays args s ++ staticLocs frame_1_statics s) 600000 7302250 := h
theorem lw_limb (L : Cond) (hL : ∀ (args : Array Value) (s t : State), L.after args s (.returned (some (.int 1))) t = true) :
    ArmFor flags0 classFile x code maxLocals ret World_1 tables_1 room_1 Calls_1 rest_1 Pre_1
      (fun tb e a s o t => postC L tb e a s o t ∧ Framed s o t (fieldLocs frame_1_writes a s ++ arrayLocs frame_1_arrays a s ++ staticLocs frame_1_statics s) 600000 7302250) := by
  intro l _ _ _ p e ha hc hk s m args below hf hfit hheap happ hpre
  obtain ⟨k, o, h1, h2, h3, rfl, hF⟩ := lw_comes l p e ha hc hk s m args below hf hfit hheap happ hpre
  exact ⟨k, _, h1, h2, h3, hL args s _, lw_frame hF⟩
theorem i_vc : Claimed_1_1 ∧ Claimed_1_2 := ⟨lw_limb limb_1_1 (fun args s t => by simp [limb_1_1, Cond.after, Cond.holds, Cond.value]), lw_limb limb_1_2 (fun args s t => Cond.after_iff.mpr (by
  first | (rw [show limb_1_2 = Cond.eq .result (.int 1) from rfl, Cond.eq_ints (x := 1) (y := 1) rfl rfl]; simp; done) | (simp [limb_1_2, Cond.value, Term.eval]; done)))⟩
