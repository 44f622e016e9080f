/-! ===== searchAll, keys, may: the class ===== -/
theorem s10_pw {F H : Nat → Nat} : ∀ {n : Nat}, (∀ i, i < n → F i ≤ H i) → s10 F n ≤ s10 H n
  | 0, _ => Nat.le_refl _
  | n + 1, h => Nat.add_le_add (s10_pw fun i hi => h i (by omega)) (h n (by omega))
theorem cnt_le (P : KP) : ∀ (l : List Nat) (g : Int → Int) (U : Nat), cnt P l g U ≤ fallN (crd U) l.length := by
  intro l g U
  rw [← cnt_true l g U]
  induction l generalizing g U with
  | nil =>
    show (if P g = true then 1 else 0) ≤ 1
    split <;> omega
  | cons b t ih =>
    refine s10_pw fun f _ => ?_
    split
    · exact Nat.le_refl _
    · exact ih _ _
theorem key_any {nw : Nat} {wd : Nat → Nat → Int} {O R : List Nat} (hP : ordP O R) (g : Int → Int) {P : KP} (hPr : resp P) : cnt (andP (okK nw wd) P) (O ++ R) g 0 = keyC nw wd P := by
  rw [cnt_perm hP hP.nd]
  refine cnt_congr (resp_and (okK_resp nw wd) hPr) six g (fun _ => 0) 0 (fun a ha hn => absurd ?_ hn)
  simp only [six, List.mem_cons, List.not_mem_nil, or_false]
  omega
section Search
variable {X : Nat × (Int → Int)} {mem : Mem} {nw : Nat} {wd : Nat → Nat → Int}
/-- what is known of the search -/
def wcI (mem : Mem) (nw : Nat) (wd : Nat → Nat → Int) : Prop := figR (mem 30) ∧ (mem 22 5 = 0 ∨ (mem 22 5 = 1 ∧ mem 22 6 = (keyC nw wd trP : Int) ∧ ∀ l : Nat, l < 6 → mayR nw wd l (mem 27 (l : Int))))
def onSA (mem m : Mem) : Prop := (∀ x, x < 22 ∨ (22 < x ∧ x < 27) ∨ 32 < x → m x = mem x) ∧ ∀ j : Int, j ≠ 5 → j ≠ 6 → j ≠ 10 → m 22 j = mem 22 j
theorem onSA.rf : onSA mem mem := ⟨fun _ _ => rfl, fun _ _ _ _ => rfl⟩
theorem onSA.tr {m1 m2 : Mem} (h : onSA mem m1) (h2 : onSA m1 m2) : onSA mem m2 := ⟨fun x a => (h2.1 x a).trans (h.1 x a), fun j a b c => (h2.2 j a b c).trans (h.2 j a b c)⟩
theorem onO2.sa {m : Mem} (h : onO2 mem m) : onSA mem m := ⟨fun x hx => h.1 x (by omega) (by omega) (by omega), fun j _ _ c => h.2 j c⟩
theorem onO3.sa {m : Mem} (h : onO3 mem m) : onSA mem m := ⟨fun x hx => h.1 x (by omega) (by omega) (by omega) (by omega) (by omega), fun j _ _ c => h.2 j c⟩
theorem onT.sa {m : Mem} (h : onT mem m) : onSA mem m := ⟨fun x hx => h.1 x (by omega) (by omega) (by omega), fun j _ b _ => h.2 j b⟩
theorem wdC.sa {m : Mem} (h : wdC mem nw wd) (ho : onSA mem m) : wdC m nw wd := ⟨h.1, (ho.2 4 (by decide) (by decide) (by decide)).trans h.2.1, fun k i hk hi => by rw [ho.1 (23 + k) (by omega)]; exact h.2.2 k i hk hi⟩
theorem stW.mk {m : Mem} {O R : List Nat} (hf : wdC m nw wd) (hr : wdR nw wd) (hO : ordAt m O) (hP : ordP O R) (hin : ∀ w : Nat, w < nw → ∀ j, j < (wd 0 w).toNat → ltr (wd 1 w).toNat j ∈ O) (hs : ∀ d : Nat, d < 6 → ripS m nw (ripN m wd) d) : stW m nw wd O R (ripN m wd) := ⟨hf, hr, hO, hP, hs, fun w hw => (rip_ok hr hO hw (hin w hw)).2⟩
theorem cm_X10_searchAll (hf : wdC mem nw wd) (hr : wdR nw wd) (hc : wcI mem nw wd) : CM X (0, 0) 9 mX10_searchAll G0 [vr 22] mem (pV G0 fun m => (figR (m 30) ∧ m 22 5 = 1 ∧ m 22 6 = (keyC nw wd trP : Int) ∧ ∀ l : Nat, l < 6 → mayR nw wd l (m 27 (l : Int))) ∧ onSA mem m) := by
  obtain ⟨hg, hcc⟩ := hc
  refine CM.of (by decide +kernel) 0 (Nat.le_of_ble_eq_true rfl) ?_
  show ZZ X (0, 0) 9 mX10_searchAll G0 0 [vr 22] [] mem _
  refine z_aload_n dX10_searchAll_0 rfl ?_
  refine z_gZ 5 dX10_searchAll_1 fl_X10_53 (by first | rfl | assumption) rfl rfl (fun h1 => ?_)
  refine z_if_eq 8 dX10_searchAll_4 (by decide) (fun h4 => ?_) (fun h4 => ?_)
  · refine z_aload_n dX10_searchAll_8 rfl ?_
    refine z_iconst dX10_searchAll_9 (by decide) ?_
    refine z_pZ 5 dX10_searchAll_10 fm_X10_53 (by first | rfl | assumption) rfl rfl (by first | exact Or.inl rfl | exact Or.inr rfl | assumption | (split <;> simp) | omega) ?_
    refine z_aload_n dX10_searchAll_13 rfl ?_
    refine z_iconst dX10_searchAll_14 (by decide) ?_
    refine z_pI 6 dX10_searchAll_15 fm_X10_60 (by first | rfl | assumption) rfl rfl ?_
    generalize hm1 : mset (mset mem 22 5 1) 22 6 0 = m1
    have o1 : onSA mem m1 := by
      rw [← hm1]
      exact ⟨fun x hx => by rw [mset_ne _ (by omega), mset_ne _ (by omega)], fun j a b _ => by rw [mset_nej _ _ b, mset_nej _ _ a]⟩
    have s1 : m1 22 5 = 1 := by rw [← hm1, mset_nej _ _ (by decide)]; exact mset_eq _ _ _ _
    have t1 : m1 22 6 = 0 := by rw [← hm1]; exact mset_eq _ _ _ _
    have g1 : m1 30 = mem 30 := by rw [← hm1, mset_ne _ (by decide), mset_ne _ (by decide)]
    refine z_aload_n dX10_searchAll_18 rfl ?_
    refine z_getR (ty := .int) dX10_searchAll_19 fl_X10_24 (by first | rfl | assumption) rfl rfl ?_
    refine z_iconst dX10_searchAll_22 (by decide) ?_
    refine z_S2v dX10_searchAll_23 ok_J7_fill_53178 lk_X10_81 (Nat.le_of_ble_eq_true rfl) (by omega) (cm_J7_fillI (n := 6) (rs := []) rfl (by decide)) (fun m2 hm2 => ?_)
    obtain ⟨z2, o2⟩ := hm2
    have oo2 : onSA mem m2 := o1.tr ⟨fun x hx => o2 x (by omega), fun j _ _ _ => by rw [o2 22 (by decide)]⟩
    refine z_aload_n dX10_searchAll_26 rfl ?_
    refine z_V0v dX10_searchAll_27 ok_X10_startOrder lk_X10_63 (by first | rfl | assumption) rfl rfl (Nat.le_of_ble_eq_true rfl) (by omega) (cm_X10_startOrder) (fun m3 hm3 => ?_)
    obtain ⟨r3, o3⟩ := hm3
    have oo3 := oo2.tr o3.sa
    refine z_aload_n dX10_searchAll_30 rfl ?_
    refine z_V0v dX10_searchAll_31 ok_X10_orderWords lk_X10_70 (by first | rfl | assumption) rfl rfl (Nat.le_of_ble_eq_true rfl) (by omega) (cm_X10_orderWords (R := six) (hf.sa oo3) hr r3 (List.Perm.refl _)) (fun m4 hm4 => ?_)
    obtain ⟨S, R', q1, q2, q3, q4, q5⟩ := hm4
    rw [List.nil_append] at q1 q2
    have q3' : ∀ w : Nat, w < nw → ∀ j, j < (wd 0 w).toNat → ltr (wd 1 w).toNat j ∈ S := fun w hw j hj => by have := q3 w hw j hj; rw [List.nil_append] at this; exact this
    have oo4 := oo3.tr q5.sa
    have hst := stW.mk (hf.sa oo4) hr q1 q2 q3' q4
    have hlen := q2.len
    have g4 : m4 30 = mem 30 := by rw [q5.1 30 (by decide) (by decide) (by decide) (by decide) (by decide), o3.1 30 (by decide) (by decide) (by decide), o2 30 (by decide)]; exact g1
    have b4 : ∀ l : Nat, l < 6 → m4 27 (l : Int) = 0 := fun l hl => by rw [q5.1 27 (by decide) (by decide) (by decide) (by decide) (by decide), o3.1 27 (by decide) (by decide) (by decide)]; exact z2 l hl
    have s4 : m4 22 5 = 1 := by rw [q5.2 5 (by decide), o3.2 5 (by decide), o2 22 (by decide)]; exact s1
    have t4 : m4 22 6 = 0 := by rw [q5.2 6 (by decide), o3.2 6 (by decide), o2 22 (by decide)]; exact t1
    have hcl := cnt_le (andP (okK nw wd) trP) (S.drop 0 ++ R') (m4 30) 0
    have hfl := fallN_le (S.drop 0 ++ R').length (crd 0)
    rw [show (S.drop 0 ++ R').length = 6 by rw [List.drop_zero, List.length_append]; exact hlen] at hcl hfl
    refine z_aload_n dX10_searchAll_34 rfl ?_
    refine z_iconst dX10_searchAll_35 (by decide) ?_
    refine z_iconst dX10_searchAll_36 (by decide) ?_
    refine z_S3v dX10_searchAll_37 ok_X10_tally lk_X10_87 (Nat.le_of_ble_eq_true rfl) (by omega) (cm_X10_tally S.length 0 0 m4 (by omega) hst (by decide) (by decide) (by rw [g4]; exact hg) (fun l hl => ⟨0, b4 l hl, by decide⟩) (by omega) (by omega) (fun w _ q => by omega)) (fun m5 hm5 => ?_)
    obtain ⟨a5, o5, f5, -⟩ := hm5
    refine z_vret dX10_searchAll_40 rfl ?_
    refine ⟨rfl, rfl, ⟨f5, ?_, ?_, fun l hl => ?_⟩, oo4.tr o5.sa⟩
    · rw [o5.2 5 (by decide)]; exact s4
    · rw [a5.1, t4]
      show 0 + ((cnt (andP (okK nw wd) trP) (S.drop 0 ++ R') (m4 30) 0 : Nat) : Int) = _
      rw [List.drop_zero, key_any q2 _ trP_resp]
      omega
    · obtain ⟨a, b, e1, e2, e3, e4, e5⟩ := a5.2 l hl
      refine ⟨b, e3, e4, fun f hf => ?_⟩
      have ha : a = 0 := by rw [b4 l hl] at e1; omega
      rw [e5 f hf, ha, Nat.zero_testBit, Bool.false_or, ← key_any (wd := wd) (nw := nw) q2 (m4 30) (fgP_resp hl)]
      show decide (0 < cnt (andP (okK nw wd) (fgP l f)) (S.drop 0 ++ R') (m4 30) 0) = _
      rw [List.drop_zero]
  · obtain ⟨c1, c2, c3⟩ : mem 22 5 = 1 ∧ mem 22 6 = (keyC nw wd trP : Int) ∧ ∀ l : Nat, l < 6 → mayR nw wd l (mem 27 (l : Int)) := by
      rcases hcc with q | q
      · exact absurd q h4
      · exact q
    refine z_vret dX10_searchAll_7 rfl ?_
    exact ⟨rfl, rfl, ⟨hg, c1, c2, c3⟩, onSA.rf⟩
theorem cm_X10_ways (hf : wdC mem nw wd) (hr : wdR nw wd) (hc : wcI mem nw wd) : CM X (0, 0) 10 mX10_ways G0 [vr 22] mem (pI G0 fun z m => z = (keyC nw wd trP : Int) ∧ wcI m nw wd ∧ onSA mem m) := by
  refine CM.of (by decide +kernel) 0 (Nat.le_of_ble_eq_true rfl) ?_
  show ZZ X (0, 0) 10 mX10_ways G0 0 [vr 22] [] mem _
  refine z_aload_n dX10_ways_0 rfl ?_
  refine z_V0v dX10_ways_1 ok_X10_searchAll lk_X10_57 (by first | rfl | assumption) rfl rfl (Nat.le_of_ble_eq_true rfl) (by decide) (cm_X10_searchAll hf hr hc) (fun m1 hm1 => ?_)
  obtain ⟨⟨f1, c1, c2, c3⟩, o1⟩ := hm1
  refine z_aload_n dX10_ways_4 rfl ?_
  refine z_gI 6 dX10_ways_5 fl_X10_60 (by first | rfl | assumption) rfl rfl ?_
  refine z_iret dX10_ways_8 rfl ?_
  exact ⟨rfl, _, rfl, c2, ⟨f1, Or.inr ⟨c1, c2, c3⟩⟩, o1⟩
theorem cm_X10_figuresOf {l : Nat} (hl : l < 6) (hf : wdC mem nw wd) (hr : wdR nw wd) (hc : wcI mem nw wd) : CM X (0, 0) 10 mX10_figuresOf G0 [vr 22, vi (l : Int)] mem (pI G0 fun z m => mayR nw wd l z ∧ wcI m nw wd ∧ onSA mem m) := by
  refine CM.of (by decide +kernel) 0 (Nat.le_of_ble_eq_true rfl) ?_
  show ZZ X (0, 0) 10 mX10_figuresOf G0 0 [vr 22, vi (l : Int)] [] mem _
  refine z_aload_n dX10_figuresOf_0 rfl ?_
  refine z_V0v dX10_figuresOf_1 ok_X10_searchAll lk_X10_57 (by first | rfl | assumption) rfl rfl (Nat.le_of_ble_eq_true rfl) (by decide) (cm_X10_searchAll hf hr hc) (fun m1 hm1 => ?_)
  obtain ⟨⟨f1, c1, c2, c3⟩, o1⟩ := hm1
  refine z_iload_n dX10_figuresOf_4 rfl ?_
  refine z_if_lt 23 dX10_figuresOf_5 (by decide) (fun h5 => ?_) (fun h5 => ?_)
  · omega
  · refine z_iload_n dX10_figuresOf_8 rfl ?_
    refine z_bipush dX10_figuresOf_9 (by decide) ?_
    refine z_icmp_ge 23 dX10_figuresOf_11 (by decide) (fun h11 => ?_) (fun h11 => ?_)
    · omega
    · refine z_aload_n dX10_figuresOf_14 rfl ?_
      refine z_getR (ty := .int) dX10_figuresOf_15 fl_X10_24 (by first | rfl | assumption) rfl rfl ?_
      refine z_iload_n dX10_figuresOf_18 rfl ?_
      refine z_iald dX10_figuresOf_19 (by first | rfl | assumption) (by omega) (by omega) ?_
      refine z_goto 24 dX10_figuresOf_20 (by decide) ?_
      refine z_iret dX10_figuresOf_24 rfl ?_
      exact ⟨rfl, _, rfl, c3 l hl, ⟨f1, Or.inr ⟨c1, c2, c3⟩⟩, o1⟩
theorem cm_X11_keys (hf : wdC mem nw wd) (hr : wdR nw wd) (hc : wcI mem nw wd) : CM X (0, 0) 11 mX11_keys G0 [vr 0] mem (pI G0 fun z m => z = (keyC nw wd trP : Int) ∧ wcI m nw wd ∧ onSA mem m) := by
  refine CM.of (by decide +kernel) 0 (Nat.le_of_ble_eq_true rfl) ?_
  show ZZ X (0, 0) 11 mX11_keys G0 0 [vr 0] [] mem _
  refine z_aload_n dX11_keys_0 rfl ?_
  refine z_getR (ty := .int) dX11_keys_1 fl_X11_40 (by first | rfl | assumption) rfl rfl ?_
  refine z_V0i dX11_keys_4 ok_X10_ways lk_X11_168 (by first | rfl | assumption) rfl rfl (Nat.le_of_ble_eq_true rfl) (by decide) (cm_X10_ways hf hr hc) (fun z1 m1 hm1 => ?_)
  refine z_iret dX11_keys_7 rfl ?_
  exact ⟨rfl, _, rfl, hm1⟩
def myA (nw : Nat) (wd : Nat → Nat → Int) (l z : Int) : Prop := (¬ (0 ≤ l ∧ l ≤ 5) → z = -2) ∧ (0 ≤ l ∧ l ≤ 5 → mayR nw wd l.toNat z)
theorem cm_X11_may {l : Int} (hf : wdC mem nw wd) (hr : wdR nw wd) (hc : wcI mem nw wd) : CM X (0, 0) 11 mX11_may G0 [vr 0, vi l] mem (pI G0 fun z m => myA nw wd l z ∧ wcI m nw wd ∧ onSA mem m) := by
  refine CM.of (by decide +kernel) 0 (Nat.le_of_ble_eq_true rfl) ?_
  show ZZ X (0, 0) 11 mX11_may G0 0 [vr 0, vi l] [] mem _
  refine z_iload_n dX11_may_0 rfl ?_
  refine z_iconst dX11_may_1 (by decide) ?_
  refine z_iconst dX11_may_2 (by decide) ?_
  refine z_S3i dX11_may_3 ok_X11_within lk_X11_83 (Nat.le_of_ble_eq_true rfl) (by decide) (cm_X11_within) (fun z1 m1 hm1 => ?_)
  obtain ⟨hz1, hmm⟩ := hm1
  subst hmm
  refine z_if_ne 12 dX11_may_6 (by decide) (fun h6 => ?_) (fun h6 => ?_)
  · have yes := hz1.yes h6
    obtain ⟨l', rfl⟩ : ∃ l' : Nat, l = (l' : Int) := ⟨l.toNat, by omega⟩
    refine z_aload_n dX11_may_12 rfl ?_
    refine z_getR (ty := .int) dX11_may_13 fl_X11_40 (by first | rfl | assumption) rfl rfl ?_
    refine z_iload_n dX11_may_16 rfl ?_
    refine z_V1i dX11_may_17 ok_X10_figuresOf lk_X11_171 (by first | rfl | assumption) rfl rfl (Nat.le_of_ble_eq_true rfl) (by decide) (cm_X10_figuresOf (by omega : l' < 6) hf hr hc) (fun z2 m2 hm2 => ?_)
    refine z_iret dX11_may_20 rfl ?_
    exact ⟨rfl, _, rfl, ⟨fun q => absurd yes q, fun _ => hm2.1⟩, hm2.2⟩
  · have no := hz1.no h6
    refine z_bipush dX11_may_9 (by decide) ?_
    refine z_iret dX11_may_11 rfl ?_
    exact ⟨rfl, _, rfl, ⟨fun _ => rfl, fun q => absurd q no⟩, hc, onSA.rf⟩
end Search
