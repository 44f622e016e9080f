/-! THE CLAIM OUT OF ONE WALK OF THE LAW'S BODY. Your part is whole_start (and what it stands on); all else here is the same for every law, but numbers. -/
def R_law : String := "TankNumbersLaw"
def lw_P (b : Addr) (xs : List Int32) (args : Array Value) (s : State) : Prop := args = #[.ref b] ∧ s.IntsAt b xs ∧ xs.length ≤ 3584 ∧ (Jvm.Cond.and given_1 narrow_1).before args s = true
def lw_Q (_ : Array Value) (s : State) (o : Outcome) (t : State) : Prop := o = .returned (some (.int 1)) ∧ Framed s o t [] 600000 7302250
def lw_Z (below : List Frame) (a : Array Value) (s : State) : State → Prop := fun t => ∃ o, t.status = .running ∧ Ended t below o ∧ lw_Q a s o t
/-- the law's own end, with 1 on the stack, nothing written that was there before, its room as the claim has it -/
theorem lw_ret {p : Program} {l : Launch} {e : Env} {s : State} {m : MethodId} {below : List Frame} {meth : Method} {c : Code} {b : Nat} (hx : p.tables.exec = Jvm.exec) (hb : c.code = code) (hr : meth.sig.returnType = ret) (hlocks : meth.locks = false) {pc : Nat} {H : Heap} {ls : Array Slot} (hdg : decode code pc = .ok (.ireturn, 1)) : W p l e room_1 s m #[Value.ref b] below meth c H [] 600000 7302250 (lw_Z below #[Value.ref b] s) (F0 m pc ls [.int 1]) := by
  intro T hT X
  obtain ⟨fs, hret, hrun, hended, hW, hframe⟩ := X.leave (v := some (.int 1)) (hlocks := hlocks) (fun h => by rw [hr] at h; cases h)
  have hmeth' : T.vm.method? m = some meth := X.method'
  refine ⟨T.setFrames fs, ?_, .returned (some (.int 1)), hrun, hended, rfl, ⟨_, rfl⟩, hW, hframe⟩
  jvm_step X.here [X.here.top, hx, hb, hdg, hmeth', hr, ret, narrow_b1]
  (try refine ⟨rfl, ?_⟩); (try refine ⟨rfl, ?_⟩)
  first | (intro acts; rw [hret _ acts rfl rfl rfl]) | rw [hret _ _ rfl rfl rfl]
  exact Steps.refl _
/-- what holds at the law's entry: the machine, the code, the tables' words (any of lw_tbl by 'hts w (by decide +kernel)'), the script of L ints xs at the cell b, what the Statement gives of the start (any of its parts by flat_of_before) -/
def lw_At (p : Program) (s : State) (m : MethodId) (meth : Method) (c : Code) (b L : Nat) (xs : Nat → Int32) : Prop :=
  p.tables.exec = Jvm.exec ∧ c.code = code ∧ meth.sig.returnType = ret ∧ c.maxLocals = 4 ∧ s.vm.findClass R_law = some m.cls ∧ (∀ w ∈ lw_tbl, w.before #[Value.ref b] s = true) ∧ va_X b L xs s s.heap ∧ b < s.heap.size ∧ meth.locks = false ∧ (Jvm.Cond.and given_1 narrow_1).before #[Value.ref b] s = true ∧ meth.name = "law"
-- ===== YOUR PART BEGINS =====
theorem pp_in : ∀ j : Fin 35, Cond.eq (.elem (.static RX9 "PRIME_POWERS" "[I") (.int (Int32.ofNat j.val))) (.int (Int32.ofInt (ppF ((j.val : Nat) : Int)))) ∈ flatC (Jvm.Cond.and given_1 narrow_1) := by decide +kernel
theorem rw_in : ∀ j : Fin 5, Cond.eq (.elem (.static RX10 "ROWS" "[I") (.int (Int32.ofNat j.val))) (.int (Int32.ofInt (rwF ((j.val : Nat) : Int)))) ∈ flatC (Jvm.Cond.and given_1 narrow_1) := by decide +kernel
theorem getD_i32 {l : List Int} (h : ∀ z ∈ l, i32 z) (n : Nat) : i32 (l.getD n 0) := by
  rw [List.getD_eq_getElem?_getD]
  cases e : l[n]? with
  | none => exact ⟨by decide, by decide⟩
  | some z => exact h z (List.mem_of_getElem? e)
theorem ppF_ok (i : Int) : i32 (ppF i) := getD_i32 (by decide +kernel) _
theorem rwF_ok (i : Int) : i32 (rwF i) := getD_i32 (by decide +kernel) _
theorem kn_all {args : Array Value} {s : State} (hG : ∀ w ∈ wsG, w.before args s = true) : ∃ D : va_G, ∀ (k : Nat) (q : vw_C), vwCl[k]? = some q → u_Kn s q.1 q.2.1 q.2.2 (D.1 k) (D.2 k) := by
  obtain ⟨c0, i0, k0⟩ := u_known hG cw_0 (hG _ in_X0)
  obtain ⟨c1, i1, k1⟩ := u_known hG cw_1 (hG _ in_X1)
  obtain ⟨c2, i2, k2⟩ := u_known hG cw_2 (hG _ in_X2)
  obtain ⟨c3, i3, k3⟩ := u_known hG cw_3 (hG _ in_X3)
  obtain ⟨c4, i4, k4⟩ := u_known hG cw_4 (hG _ in_X4)
  obtain ⟨c5, i5, k5⟩ := u_known hG cw_5 (hG _ in_X5)
  obtain ⟨c6, i6, k6⟩ := u_known hG cw_6 (hG _ in_X6)
  obtain ⟨c7, i7, k7⟩ := u_known hG cw_7 (hG _ in_X7)
  obtain ⟨c8, i8, k8⟩ := u_known hG cw_8 (hG _ in_X8)
  obtain ⟨c9, i9, k9⟩ := u_known hG cw_9 (hG _ in_X9)
  obtain ⟨c10, i10, k10⟩ := u_known hG cw_10 (hG _ in_X10)
  obtain ⟨c11, i11, k11⟩ := u_known hG cw_11 (hG _ in_X11)
  obtain ⟨c12, i12, k12⟩ := u_known hG cw_12 (hG _ in_X12)
  refine ⟨(fun k => ([c0, c1, c2, c3, c4, c5, c6, c7, c8, c9, c10, c11, c12] : List ClassId).getD k c0, fun k => ([i0, i1, i2, i3, i4, i5, i6, i7, i8, i9, i10, i11, i12] : List (Nat → Nat)).getD k i0), ?_⟩
  intro k q h
  match k, h with
  | 0, h =>
    have e : ((RX0, TX0, 8) : vw_C) = q := Option.some.inj h
    subst e
    exact k0
  | 1, h =>
    have e : ((RX1, TX1, 3) : vw_C) = q := Option.some.inj h
    subst e
    exact k1
  | 2, h =>
    have e : ((RX2, TX2, 7) : vw_C) = q := Option.some.inj h
    subst e
    exact k2
  | 3, h =>
    have e : ((RX3, TX3, 7) : vw_C) = q := Option.some.inj h
    subst e
    exact k3
  | 4, h =>
    have e : ((RX4, TX4, 4) : vw_C) = q := Option.some.inj h
    subst e
    exact k4
  | 5, h =>
    have e : ((RX5, TX5, 2) : vw_C) = q := Option.some.inj h
    subst e
    exact k5
  | 6, h =>
    have e : ((RX6, TX6, 2) : vw_C) = q := Option.some.inj h
    subst e
    exact k6
  | 7, h =>
    have e : ((RX7, TX7, 2) : vw_C) = q := Option.some.inj h
    subst e
    exact k7
  | 8, h =>
    have e : ((RX8, TX8, 2) : vw_C) = q := Option.some.inj h
    subst e
    exact k8
  | 9, h =>
    have e : ((RX9, TX9, 7) : vw_C) = q := Option.some.inj h
    subst e
    exact k9
  | 10, h =>
    have e : ((RX10, TX10, 11) : vw_C) = q := Option.some.inj h
    subst e
    exact k10
  | 11, h =>
    have e : ((RX11, TX11, 11) : vw_C) = q := Option.some.inj h
    subst e
    exact k11
  | 12, h =>
    have e : ((RX12, TX12, 36) : vw_C) = q := Option.some.inj h
    subst e
    exact k12
  | k + 13, h => cases h
theorem arr_all {args : Array Value} {s : State} (hG : ∀ w ∈ wsG, w.before args s = true) (ha : aoaL s) : ∃ K : Nat → ClassId, ∀ (k : Nat) (q : ClassId × FieldType), (tysK K)[k]? = some q → ArrOfT s q.1 q.2 ∧ va_RA s q.1 q.2 := by
  obtain ⟨c1, k1, p1, e1, f1, g1⟩ := Cond.arrayClass_spec (hG _ ac_int)
  obtain ⟨c2, k2, p2, e2, f2, g2⟩ := Cond.arrayClass_spec (hG _ ac_boolean)
  obtain ⟨c3, k3, p3, e3, f3, g3⟩ := Cond.arrayClass_spec (hG _ ac_long)
  obtain ⟨p4, c4, k4, -, -, f4, g4, e4⟩ := arrayOverA_spec ha
  refine ⟨fun k => ([0, c1, c2, c3, c4] : List ClassId).getD k c4, ?_⟩
  intro k q h
  match k, h with
  | 0, h =>
    have e : ((c1, .int) : ClassId × FieldType) = q := Option.some.inj h
    subst e
    exact ⟨fun N z => ⟨(fun q hq => by cases hq), k1, f1, p1, g1⟩, e1⟩
  | 1, h =>
    have e : ((c2, .boolean) : ClassId × FieldType) = q := Option.some.inj h
    subst e
    exact ⟨fun N z => ⟨(fun q hq => by cases hq), k2, f2, p2, g2⟩, e2⟩
  | 2, h =>
    have e : ((c3, .long) : ClassId × FieldType) = q := Option.some.inj h
    subst e
    exact ⟨fun N z => ⟨(fun q hq => by cases hq), k3, f3, p3, g3⟩, e3⟩
  | 3, h =>
    have e : ((c4, .array .long) : ClassId × FieldType) = q := Option.some.inj h
    subst e
    exact ⟨fun N z => ⟨(fun q hq => by cases hq), k4, f4, p4, g4⟩, e4⟩
  | k + 4, h => cases h
theorem nw_all {args : Array Value} {s : State} (hts : ∀ w ∈ lw_tbl, w.before args s = true) : nwOK s := by
  intro w hw
  obtain ⟨h1, h2⟩ := List.mem_filter.mp hw
  refine va_Nw.of ?_ (hts w (inT h1))
  unfold isNest at h2
  split at h2
  · rfl
  · rfl
  · cases h2
theorem ao_in : Cond.arrayOver (.array .long) ∈ lw_tbl := inT (inT1 184 (by decide +kernel))
theorem ls_pp : Cond.laysStatic RX9 "PRIME_POWERS" "[I" ∈ lw_tbl := inT (inT2 202 (by decide +kernel))
theorem ls_rw : Cond.laysStatic RX10 "ROWS" "[I" ∈ lw_tbl := inT (inT3 140 (by decide +kernel))
theorem ii_pp : Cond.initialized RX9 ∈ lw_tbl := inT (inT1 4 (by decide +kernel))
theorem ii_rw : Cond.initialized RX10 ∈ lw_tbl := inT (inT1 7 (by decide +kernel))
abbrev xsX (L : Nat) (xs : Nat → Int32) : Nat × (Int → Int) := (L, fun z => (xs z.toNat).toInt)
theorem ro_all {s : State} {b L : Nat} {xs : Nat → Int32} {A : Nat → Prop} (hL : L ≤ 3584) (hA : ∀ q : Nat, q < s.heap.size → ¬ A q) (hts : ∀ w ∈ lw_tbl, w.before #[Value.ref b] s = true) (hX : va_X b L xs s s.heap) (hbl : b < s.heap.size) (hgv : (Jvm.Cond.and given_1 narrow_1).before #[Value.ref b] s = true) : ∃ ρ : Nat → Nat, ρ 2 = b ∧ zro (xsX L xs) ρ A s s.heap := by
  have hs := flat_of_before _ hgv
  obtain ⟨t0, h0, T0⟩ := va_Tof (N := 35) (f := fun i => .int (Int32.ofInt (ppF (i : Int)))) (by decide) (hs (Cond.arrayOf (.static RX9 "PRIME_POWERS" "[I") .int) (by decide +kernel)) (va_eqt (hs (Cond.eq (.length (.static RX9 "PRIME_POWERS" "[I")) (.int (Int32.ofNat 35))) (by decide +kernel))) (fun j hj => va_eqt (hs _ (pp_in ⟨j, hj⟩))) hA
  obtain ⟨t1, h1, T1⟩ := va_Tof (N := 5) (f := fun i => .int (Int32.ofInt (rwF (i : Int)))) (by decide) (hs (Cond.arrayOf (.static RX10 "ROWS" "[I") .int) (by decide +kernel)) (va_eqt (hs (Cond.eq (.length (.static RX10 "ROWS" "[I")) (.int (Int32.ofNat 5))) (by decide +kernel))) (fun j hj => va_eqt (hs _ (rw_in ⟨j, hj⟩))) hA
  refine ⟨fun j => ([t0, t1] : List Nat).getD j b, rfl, ?_, va_Zof (hts _ ls_pp) (hts _ ii_pp) h0 hA, va_Zof (hts _ ls_rw) (hts _ ii_rw) h1 hA, aoaL.of (hts _ ao_in)⟩
  intro j q hq
  match j, hq with
  | 0, hq =>
    have e : ((35, ppF) : Nat × (Int → Int)) = q := Option.some.inj hq
    subst e
    exact ⟨ppF_ok, by decide, T0⟩
  | 1, hq =>
    have e : ((5, rwF) : Nat × (Int → Int)) = q := Option.some.inj hq
    subst e
    exact ⟨rwF_ok, by decide, T1⟩
  | 2, hq =>
    have e : xsX L xs = q := Option.some.inj hq
    subst e
    obtain ⟨scr, x1, x2, x3, x4, x5⟩ := hX
    refine ⟨fun i => oi32 _, by show L < _; omega, scr, x1, x2, x3, Nat.le_of_eq x4.symm, by rw [x4], fun j hj => ?_, hA b hbl⟩
    rw [x5 j hj]
    show _ = some (Value.int (Int32.ofInt (xs ((j : Int).toNat)).toInt))
    rw [Int.toNat_natCast, Int32.ofInt_toInt]
  | k + 3, hq => cases hq
/-- YOUR PART: from the entry, for every script of at most 3584 ints, the law comes to its end with true -/
theorem whole_start {p : Program} {e : Env} {s : State} {m : MethodId} {below : List Frame} {meth : Method} {c : Code} (l : Launch) {b L : Nat} {xs : Nat → Int32} (hL : L ≤ 3584) (C0 : lw_At p s m meth c b L xs) : W p l e room_1 s m #[Value.ref b] below meth c s.heap [] 0 0 (lw_Z below #[Value.ref b] s) (entryFrame m ([Value.ref b] : List Value).toArray 4) := by
  obtain ⟨hx, hb, hr, hml, hown, hts, hX, hbl, hlocks, hgv, hnm⟩ := C0
  have hG := wsG_hts hts
  have hao : aoaL s := aoaL.of (hts _ ao_in)
  obtain ⟨D, hKn⟩ := kn_all hG
  obtain ⟨K, hAr⟩ := arr_all hG hao
  obtain ⟨ρ, hρ, hro⟩ := ro_all (A := fun q => s.heap.size ≤ q) hL (fun q hq hn => absurd hq (Nat.not_lt.mpr hn)) hts hX hbl hgv
  have hl := lv_entry [Value.ref b] (n := 4) (by simp [lg_sl, Value.category])
  rw [lg_entry_eq]
  generalize (lg_sl [Value.ref b] ++ List.replicate (4 - (lg_sl [Value.ref b]).length) Slot.unset).toArray = ls at hl ⊢
  have hW := law_ZZ (X := xsX L xs) (mem := fun _ _ => 0) hL p l e room_1 s m #[Value.ref b] below meth c D K ρ (fun q => s.heap.size ≤ q) 0 (fun _ => 0) (fun _ => 0) s.heap [] 0 0 600000 7302250 ls
    ⟨⟨⟨hx, hb, hml, hown, hG⟩, hr, hlocks, hnm⟩, ⟨by decide, by decide, by decide, by decide⟩, ⟨by decide, by decide⟩, fun q h => h, hro, nw_all hts, ⟨hKn, hAr⟩, ⟨Nat.le_refl _, fun _ _ => rfl⟩, fun k q h => by simp [zW] at h, ⟨fun i j p q h => by simp [zW] at h, fun k q h => by simp [zW] at h⟩, va_S.rf, fun a g h => by simp at h⟩
    (fun v h => by cases h) (fun v h => by
      simp at h
      rcases h with h | h <;> subst h <;> trivial) ⟨hl.1, hl.2.1, fun i v hi hv => by
      match i, hi with
      | 0, hi =>
        have e : vc 2 = v := Option.some.inj hi
        subst e
        have := hl.2.2 (0, Value.ref b) List.mem_cons_self
        show ls[0]? = some (.val (.ref (ρ 2)))
        rw [hρ]
        exact this
      | 1, hi => exact absurd (Option.some.inj hi).symm hv
      | 2, hi => exact absurd (Option.some.inj hi).symm hv
      | 3, hi => exact absurd (Option.some.inj hi).symm hv
      | k + 4, hi => cases hi⟩
  intro T hT Xs
  obtain ⟨t, a1, o, b1, b2, ⟨⟨G', σ', v, mem', ho, hv, -⟩, -⟩, Lc, hF, hLc⟩ := hW T hT Xs
  subst hv
  subst ho
  exact ⟨t, a1, _, b1, b2, rfl, hF.1, hF.2.1, State.sameButNew.drop_fresh (L := []) (J := Lc) hF.2.2 hLc⟩
-- ===== YOUR PART ENDS =====
set_option maxHeartbeats 4000000 in
theorem lw_walk (l : Launch) (b : Addr) (xs : List Int32) : MetFree l x (headSpec (Jvm.Cond.code x code maxLocals ret :: tables_1) room_1) (lw_P b xs) (fun _ _ _ _ _ => True) lw_Q := by
  refine MetFree.of_bodyS (code := code) (maxLocals := maxLocals) (ret := ret) (by decide) ?_ ?_
  · intro args s m h hn
    obtain ⟨meth, c, h1, h2, h3, h4, h5, h6, -, -⟩ := Cond.code_spec hn (atoms_spec (ws := Jvm.Cond.code x code maxLocals ret :: tables_1) h _ List.mem_cons_self)
    exact ⟨meth, c, h1, h2, h3, h4, h5, h6⟩
  · intro p e s m args below meth c s₁ B hml0 hP _
    obtain ⟨rfl, hx, hbd, hgv⟩ := hP
    obtain ⟨scr, harrAt, hlist, hof, hsmall⟩ := hx
    obtain ⟨hcb, hkn, -, -⟩ := State.arrayAt?_spec harrAt
    have hown : s.vm.findClass R_law = some m.cls := findClass_of_methodNamed B.named
    have hts0 : ∀ c ∈ (Jvm.Cond.code x code maxLocals ret :: tables_1), c.before #[Value.ref b] s = true := atoms_spec (ws := Jvm.Cond.code x code maxLocals ret :: tables_1) B.pre
    have hts : ∀ w ∈ lw_tbl, w.before #[Value.ref b] s = true := k2_hts_sels lw_privs (fun w hw => hts0 w (List.mem_cons_of_mem _ hw)) lw_privs_ok
    have hml : c.maxLocals = 4 := B.maxLocals_eq (hts0 _ List.mem_cons_self)
    have X₀ : Stand p l e room_1 s m #[Value.ref b] below meth c s₁ [] 0 0 := Stand.of_body B
    have hh0 : s₁.heap = s.heap := by rw [B.state]; rfl
    have hsz : scr.slots.size = xs.length := by rw [← Array.length_toList, hlist, List.length_map]
    have hval : ∀ j : Nat, j < xs.length → scr.slots[j]? = some (.int (xs.getD j 0)) := fun j hj => by
      rw [← Array.getElem?_toList, hlist]
      simp [hj]
    have hbl : b < s.heap.size := (Array.getElem?_eq_some_iff.mp hcb).1
    have hX : va_X b xs.length (fun j => xs.getD j 0) s s.heap := ⟨scr, hcb, hof, hkn, hsz, hval⟩
    have K : W p l e room_1 s m #[Value.ref b] below meth c s₁.heap [] 0 0 (lw_Z below #[Value.ref b] s) (entryFrame m ([Value.ref b] : List Value).toArray 4) := by
      rw [hh0]
      exact whole_start l hbd ⟨B.exec, B.bytes, B.returns, hml, hown, hts, hX, hbl, B.notSynchronized, hgv, (name_of_methodNamed B.named B.method).1⟩
    obtain ⟨t, a1, o, b1, b2, b3⟩ := K s₁ rfl X₀
    exact ⟨t, o, a1, b1, b2, b3⟩
theorem lw_pre_spec {args : Array Value} {s : State} (h : (Jvm.Cond.and given_1 narrow_1).before args s = true) (hr : rest_1_c.before args s = true) : ∃ (b : Addr) (xs : List Int32), lw_P b xs args s := by
  have hs := flat_of_before _ h
  have hq := flat_of_before _ hr
  have hc : (Cond.count 1).before args s = true := hs _ (by decide +kernel)
  have harr : (Cond.arrayOf (.arg 0) .int).before args s = true := hs _ (by decide +kernel)
  have hle : (Cond.le (.length (.arg 0)) (.int 3584)).before args s = true := hs _ (by decide +kernel)
  have hlen : (Cond.isInt (.length (.arg 0))).before args s = true := hq _ (by decide +kernel)
  have hall : (Cond.all (.arg 0) (.isInt (.elem (.arg 0) (.index 0)))).before args s = true := hq _ (by decide +kernel)
  obtain ⟨b, xs, hb, hx⟩ := State.ints_of_pre rfl harr hlen hall
  have hsm : xs.length < 2 ^ 31 := hx.choose_spec.2.2.2
  have hev : (Term.length (.arg 0)).eval args s none [] s = some (.int xs.length.toInt32) := hx.length_eval hb
  have hv := Cond.le_ints hev (show (Term.int 3584).eval args s none [] s = some (.int 3584) from rfl)
  have hd : xs.length.toInt32 ≤ 3584 := by
    simpa [Cond.before, Cond.holds, hv] using hle
  have hN : xs.length ≤ 3584 := (Int32.ofNat_le_ofNat hsm (by decide)).mp (show Int32.ofNat xs.length ≤ Int32.ofNat 3584 from hd)
  exact ⟨b, xs, Cond.one_arg hc (show args[0]? = some (.ref b) from hb), hx, hN, h⟩
theorem lw_comes (l : Launch) : Comes l x (Jvm.Cond.code x code maxLocals ret :: tables_1) room_1 (fun tb e args s => Calls_1 tb e args s ∧ rest_1 tb e args s ∧ Pre_1 tb e args s)
    (fun _ _ args s o t => lw_Q args s o t) := by
  intro p e ha hc hk s m args below hf hfit hheap happ hpre
  obtain ⟨b, xs, hP⟩ := lw_pre_spec hpre.2.2 hpre.2.1
  obtain ⟨k, o, h1, h2, h3, hQ⟩ := lw_walk l b xs p e ha hc hk s m args below hf ((Spec.applies_iff_loose hf).mp happ).1 hP trivial
  exact ⟨k, o, h1, h2, h3, hQ⟩
theorem lw_frame {s t : State} {o : Outcome} {args : Array Value} (h : Framed s o t [] 600000 7302250) :
    Framed s o t (fieldLocs frame_1_writes args s ++ arrayLocs frame_1_arrays args s ++ staticLocs frame_1_statics s) 600000 7302250 := h
theorem lw_limb (L : Cond) (hL : ∀ (args : Array Value) (s t : State), L.after args s (.returned (some (.int 1))) t = true) :
    ArmFor flags0 classFile x code maxLocals ret World_1 tables_1 room_1 Calls_1 rest_1 Pre_1
      (fun tb e a s o t => postC L tb e a s o t ∧ Framed s o t (fieldLocs frame_1_writes a s ++ arrayLocs frame_1_arrays a s ++ staticLocs frame_1_statics s) 600000 7302250) := by
  intro l _ _ _ p e ha hc hk s m args below hf hfit hheap happ hpre
  obtain ⟨k, o, h1, h2, h3, rfl, hF⟩ := lw_comes l p e ha hc hk s m args below hf hfit hheap happ hpre
  exact ⟨k, _, h1, h2, h3, hL args s _, lw_frame hF⟩
theorem i_vc : Claimed_1_1 ∧ Claimed_1_2 := ⟨lw_limb limb_1_1 (fun args s t => by simp [limb_1_1, Cond.after, Cond.holds, Cond.value]), lw_limb limb_1_2 (fun args s t => Cond.after_iff.mpr (by
  first | (rw [show limb_1_2 = Cond.eq .result (.int 1) from rfl, Cond.eq_ints (x := 1) (y := 1) rfl rfl]; simp; done) | (simp [limb_1_2, Cond.value, Term.eval]; done)))⟩
