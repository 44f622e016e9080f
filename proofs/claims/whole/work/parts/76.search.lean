/-! ===== searchAll, keys, may: the class ===== -/
theorem six_nd : six.Nodup := by decide
theorem six_lt : ∀ a ∈ six, a < 6 := by decide
theorem six_mem {a : Nat} (h : a < 6) : a ∈ six := by
  simp only [six, List.mem_cons, List.not_mem_nil, or_false]
  omega
theorem key_any {nw : Nat} {wd : Nat → Nat → Int} (g : Int → Int) {P : KP} (hPr : resp P) : cnt (andP (okK nw wd) P) six g 0 = keyC nw wd P :=
  cnt_congr (resp_and (okK_resp nw wd) hPr) six g (fun _ => 0) 0 (fun a ha hn => absurd (six_mem ha) hn)
section Search
variable {X : Nat × (Int → Int)} {mem : Mem} {nw : Nat} {wd : Nat → Nat → Int}
/-- what is known of the search -/
def wcI (mem : Mem) (nw : Nat) (wd : Nat → Nat → Int) : Prop := mem 22 5 = 0 ∨ (mem 22 5 = 1 ∧ mem 22 6 = (keyC nw wd trP : Int) ∧ ∀ l : Nat, l < 6 → mayR nw wd l (mem 27 (l : Int)))
def onSA (mem m : Mem) : Prop := (∀ x, x < 22 ∨ (22 < x ∧ x < 27) ∨ 29 < x → m x = mem x) ∧ ∀ j : Int, j ≠ 5 → j ≠ 6 → j ≠ 10 → m 22 j = mem 22 j
theorem onSA.rf : onSA mem mem := ⟨fun _ _ => rfl, fun _ _ _ _ => rfl⟩
theorem onSA.tr {m1 m2 : Mem} (h : onSA mem m1) (h2 : onSA m1 m2) : onSA mem m2 := ⟨fun x a => (h2.1 x a).trans (h.1 x a), fun j a b c => (h2.2 j a b c).trans (h.2 j a b c)⟩
theorem onSk.sa {m : Mem} (h : onSk mem m) : onSA mem m := ⟨fun x hx => h.1 x (by omega) (by omega) (by omega), fun j _ _ c => h.2 j c⟩
theorem wdC.sa {m : Mem} (h : wdC mem nw wd) (ho : onSA mem m) : wdC m nw wd := ⟨h.1, (ho.2 4 (by decide) (by decide) (by decide)).trans h.2.1, fun k i hk hi => by rw [ho.1 (23 + k) (by omega)]; exact h.2.2 k i hk hi⟩
theorem cm_X10_searchAll (hf : wdC mem nw wd) (hr : wdR nw wd) (hcc : wcI mem nw wd) : CM X (0, 0) 9 mX10_searchAll G0 [vr 22] mem (pV G0 fun m => (m 22 5 = 1 ∧ m 22 6 = (keyC nw wd trP : Int) ∧ ∀ l : Nat, l < 6 → mayR nw wd l (m 27 (l : Int))) ∧ onSA mem m) := by
  refine CM.of (by decide +kernel) 1 (Nat.le_of_ble_eq_true rfl) ?_
  show ZZ X (0, 0) 9 mX10_searchAll G0 0 [vr 22, vd] [] mem _
  have fin : ∀ (m : Mem) (w : Nat) (u1 : VV), w = keyC nw wd trP → (∀ l : Nat, l < 6 → mayR nw wd l (m 27 (l : Int))) → m 22 5 = 1 → onSA mem m → ZZ X (0, 0) 9 mX10_searchAll G0 42 [vr 22, u1] [vi (w : Int), vr 22] m (pV G0 fun m => (m 22 5 = 1 ∧ m 22 6 = (keyC nw wd trP : Int) ∧ ∀ l : Nat, l < 6 → mayR nw wd l (m 27 (l : Int))) ∧ onSA mem m) := by
    intro m w u1 hw hmy h5 ho
    subst hw
    refine z_pI 6 dX10_searchAll_42 fm_X10_51 (by first | rfl | assumption) rfl rfl ?_
    refine z_vret dX10_searchAll_45 rfl ?_
    refine ⟨rfl, rfl, ⟨?_, mset_eq _ _ _ _, fun l hl => ?_⟩, fun x hx => ?_, fun j a b c => ?_⟩
    · rw [mset_nej _ _ (by decide)]; exact h5
    · rw [mset_ne _ (by decide)]; exact hmy l hl
    · rw [mset_ne _ (by omega)]; exact ho.1 x hx
    · rw [mset_nej _ _ b]; exact ho.2 j a b c
  refine z_aload_n dX10_searchAll_0 rfl ?_
  refine z_gZ 5 dX10_searchAll_1 fl_X10_44 (by first | rfl | assumption) rfl rfl (fun h1 => ?_)
  refine z_if_eq 8 dX10_searchAll_4 (by decide) (fun h4 => ?_) (fun h4 => ?_)
  · refine z_aload_n dX10_searchAll_8 rfl ?_
    refine z_iconst dX10_searchAll_9 (by decide) ?_
    refine z_pZ 5 dX10_searchAll_10 fm_X10_44 (by first | rfl | assumption) rfl rfl (by first | exact Or.inl rfl | exact Or.inr rfl | assumption | (split <;> simp) | omega) ?_
    generalize hm1 : mset mem 22 5 1 = m1
    have o1 : onSA mem m1 := by
      rw [← hm1]
      exact ⟨fun x hx => by rw [mset_ne _ (by omega)], fun j a b _ => by rw [mset_nej _ _ a]⟩
    have s1 : m1 22 5 = 1 := by rw [← hm1]; exact mset_eq _ _ _ _
    refine z_aload_n dX10_searchAll_13 rfl ?_
    refine z_getR (ty := .int) dX10_searchAll_14 fl_X10_24 (by first | rfl | assumption) rfl rfl ?_
    refine z_iconst dX10_searchAll_17 (by decide) ?_
    refine z_S2v dX10_searchAll_18 ok_J7_fill_53178 lk_X10_54 (Nat.le_of_ble_eq_true rfl) (by omega) (cm_J7_fillI (n := 6) (rs := []) rfl (by decide)) (fun m2 hm2 => ?_)
    obtain ⟨z2, o2⟩ := hm2
    have oo2 : onSA mem m2 := o1.tr ⟨fun x hx => o2 x (by omega), fun j _ _ _ => by rw [o2 22 (by decide)]⟩
    refine z_aload_n dX10_searchAll_21 rfl ?_
    refine z_V0i dX10_searchAll_22 ok_X10_startSearch lk_X10_60 (by first | rfl | assumption) rfl rfl (Nat.le_of_ble_eq_true rfl) (by omega) (cm_X10_startSearch (hf.sa oo2) hr) (fun z3 m3 hm3 => ?_)
    obtain ⟨f3, q3, o3⟩ := hm3
    have oo3 := oo2.tr o3.sa
    have b3 : ∀ l : Nat, l < 6 → m3 27 (l : Int) = 0 := fun l hl => by rw [o3.1 27 (by decide) (by decide) (by decide)]; exact z2 l hl
    have s3 : m3 22 5 = 1 := by rw [o3.2 5 (by decide), o2 22 (by decide)]; exact s1
    refine z_istore_n dX10_searchAll_25 (by decide) rfl ?_
    dsimp only [List.set]
    refine z_aload_n dX10_searchAll_26 rfl ?_
    refine z_iload_n dX10_searchAll_27 rfl ?_
    refine z_iconst dX10_searchAll_28 (by decide) ?_
    refine z_icmp_ne 36 dX10_searchAll_29 (by decide) (fun h29 => ?_) (fun h29 => ?_)
    · obtain ⟨S', hS', hop'⟩ : ∃ S' : Nat, z3 = (S' : Int) ∧ opI nw wd (m3 28) six 0 S' := by
        rcases q3 with q | q
        · exact absurd q.1 h29
        · exact q
      subst hS'
      refine z_aload_n dX10_searchAll_36 rfl ?_
      refine z_iconst dX10_searchAll_37 (by decide) ?_
      refine z_iload_n dX10_searchAll_38 rfl ?_
      refine z_S3i dX10_searchAll_39 ok_X10_tally lk_X10_64 (Nat.le_of_ble_eq_true rfl) (by omega) (cm_X10_tally 6 [] six 0 S' m3 rfl (hf.sa oo3) hr f3 hop' (fun l hl => ⟨0, b3 l hl, by decide⟩)) (fun z5 m5 hm5 => ?_)
      obtain ⟨hz5, a5⟩ := hm5
      subst hz5
      have my5 : ∀ l : Nat, l < 6 → mayR nw wd l (m5 27 (l : Int)) := by
        intro l hl
        obtain ⟨a, b, e1, e2, e3, e4, e5⟩ := a5.1 l (six_mem hl)
        refine ⟨b, e3, e4, fun f hf => ?_⟩
        have ha : a = 0 := by rw [b3 l hl] at e1; omega
        rw [e5 f hf, ha, Nat.zero_testBit, Bool.false_or, ← key_any (wd := wd) (nw := nw) (m3 28) (fgP_resp hl)]
      have oo5 : onSA mem m5 := oo3.tr ⟨fun x hx => a5.2.2 x (by omega), fun j _ _ _ => by rw [a5.2.2 22 (by decide)]⟩
      first
      | exact fin _ _ _ (key_any (m3 28) trP_resp) my5 (by rw [a5.2.2 22 (by decide)]; exact s3) oo5
      | exact fin _ 0 _ (hk0 _ trP_resp).symm my3 s3 oo3
    · have hno : ∀ k, ext six (m3 28) 0 k → ¬ okK nw wd k = true := by
        rcases q3 with q | ⟨S', q, -⟩
        · exact q.2
        · omega
      have hk0 : ∀ P, resp P → keyC nw wd P = 0 := fun P hP => by rw [← key_any (m3 28) hP]; exact cnt_no six_nd six_lt hno P
      have my3 : ∀ l : Nat, l < 6 → mayR nw wd l (m3 27 (l : Int)) := fun l hl => ⟨0, b3 l hl, by decide, fun f _ => by rw [hk0 _ (fgP_resp hl), Nat.zero_testBit]; rfl⟩
      refine z_iconst dX10_searchAll_32 (by decide) ?_
      refine z_goto 42 dX10_searchAll_33 (by decide) ?_
      first
      | exact fin _ _ _ (key_any (m3 28) trP_resp) my5 (by rw [a5.2.2 22 (by decide)]; exact s3) oo5
      | exact fin _ 0 _ (hk0 _ trP_resp).symm my3 s3 oo3
  · obtain ⟨c1, c2, c3⟩ : mem 22 5 = 1 ∧ mem 22 6 = (keyC nw wd trP : Int) ∧ ∀ l : Nat, l < 6 → mayR nw wd l (mem 27 (l : Int)) := by
      rcases hcc with q | q
      · exact absurd q h4
      · exact q
    refine z_vret dX10_searchAll_7 rfl ?_
    exact ⟨rfl, rfl, ⟨c1, c2, c3⟩, onSA.rf⟩
theorem cm_X10_ways (hf : wdC mem nw wd) (hr : wdR nw wd) (hc : wcI mem nw wd) : CM X (0, 0) 10 mX10_ways G0 [vr 22] mem (pI G0 fun z m => z = (keyC nw wd trP : Int) ∧ wcI m nw wd ∧ onSA mem m) := by
  refine CM.of (by decide +kernel) 0 (Nat.le_of_ble_eq_true rfl) ?_
  show ZZ X (0, 0) 10 mX10_ways G0 0 [vr 22] [] mem _
  refine z_aload_n dX10_ways_0 rfl ?_
  refine z_V0v dX10_ways_1 ok_X10_searchAll lk_X10_48 (by first | rfl | assumption) rfl rfl (Nat.le_of_ble_eq_true rfl) (by decide) (cm_X10_searchAll hf hr hc) (fun m1 hm1 => ?_)
  obtain ⟨⟨c1, c2, c3⟩, o1⟩ := hm1
  refine z_aload_n dX10_ways_4 rfl ?_
  refine z_gI 6 dX10_ways_5 fl_X10_51 (by first | rfl | assumption) rfl rfl ?_
  refine z_iret dX10_ways_8 rfl ?_
  exact ⟨rfl, _, rfl, c2, Or.inr ⟨c1, c2, c3⟩, o1⟩
theorem cm_X10_figuresOf {l : Nat} (hl : l < 6) (hf : wdC mem nw wd) (hr : wdR nw wd) (hc : wcI mem nw wd) : CM X (0, 0) 10 mX10_figuresOf G0 [vr 22, vi (l : Int)] mem (pI G0 fun z m => mayR nw wd l z ∧ wcI m nw wd ∧ onSA mem m) := by
  refine CM.of (by decide +kernel) 0 (Nat.le_of_ble_eq_true rfl) ?_
  show ZZ X (0, 0) 10 mX10_figuresOf G0 0 [vr 22, vi (l : Int)] [] mem _
  refine z_aload_n dX10_figuresOf_0 rfl ?_
  refine z_V0v dX10_figuresOf_1 ok_X10_searchAll lk_X10_48 (by first | rfl | assumption) rfl rfl (Nat.le_of_ble_eq_true rfl) (by decide) (cm_X10_searchAll hf hr hc) (fun m1 hm1 => ?_)
  obtain ⟨⟨c1, c2, c3⟩, o1⟩ := hm1
  refine z_iload_n dX10_figuresOf_4 rfl ?_
  refine z_if_lt 23 dX10_figuresOf_5 (by decide) (fun h5 => ?_) (fun h5 => ?_)
  · omega
  · refine z_iload_n dX10_figuresOf_8 rfl ?_
    refine z_bipush dX10_figuresOf_9 (by decide) ?_
    refine z_icmp_ge 23 dX10_figuresOf_11 (by decide) (fun h11 => ?_) (fun h11 => ?_)
    · omega
    · refine z_aload_n dX10_figuresOf_14 rfl ?_
      refine z_getR (ty := .int) dX10_figuresOf_15 fl_X10_24 (by first | rfl | assumption) rfl rfl ?_
      refine z_iload_n dX10_figuresOf_18 rfl ?_
      refine z_iald dX10_figuresOf_19 (by first | rfl | assumption) (by omega) (by omega) ?_
      refine z_goto 24 dX10_figuresOf_20 (by decide) ?_
      refine z_iret dX10_figuresOf_24 rfl ?_
      exact ⟨rfl, _, rfl, c3 l hl, Or.inr ⟨c1, c2, c3⟩, o1⟩
theorem cm_X11_keys (hf : wdC mem nw wd) (hr : wdR nw wd) (hc : wcI mem nw wd) : CM X (0, 0) 11 mX11_keys G0 [vr 0] mem (pI G0 fun z m => z = (keyC nw wd trP : Int) ∧ wcI m nw wd ∧ onSA mem m) := by
  refine CM.of (by decide +kernel) 0 (Nat.le_of_ble_eq_true rfl) ?_
  show ZZ X (0, 0) 11 mX11_keys G0 0 [vr 0] [] mem _
  refine z_aload_n dX11_keys_0 rfl ?_
  refine z_getR (ty := .int) dX11_keys_1 fl_X11_40 (by first | rfl | assumption) rfl rfl ?_
  refine z_V0i dX11_keys_4 ok_X10_ways lk_X11_168 (by first | rfl | assumption) rfl rfl (Nat.le_of_ble_eq_true rfl) (by decide) (cm_X10_ways hf hr hc) (fun z1 m1 hm1 => ?_)
  refine z_iret dX11_keys_7 rfl ?_
  exact ⟨rfl, _, rfl, hm1⟩
def myA (nw : Nat) (wd : Nat → Nat → Int) (l z : Int) : Prop := (¬ (0 ≤ l ∧ l ≤ 5) → z = -2) ∧ (0 ≤ l ∧ l ≤ 5 → mayR nw wd l.toNat z)
theorem cm_X11_may {l : Int} (hf : wdC mem nw wd) (hr : wdR nw wd) (hc : wcI mem nw wd) : CM X (0, 0) 11 mX11_may G0 [vr 0, vi l] mem (pI G0 fun z m => myA nw wd l z ∧ wcI m nw wd ∧ onSA mem m) := by
  refine CM.of (by decide +kernel) 0 (Nat.le_of_ble_eq_true rfl) ?_
  show ZZ X (0, 0) 11 mX11_may G0 0 [vr 0, vi l] [] mem _
  refine z_iload_n dX11_may_0 rfl ?_
  refine z_iconst dX11_may_1 (by decide) ?_
  refine z_iconst dX11_may_2 (by decide) ?_
  refine z_S3i dX11_may_3 ok_X11_within lk_X11_83 (Nat.le_of_ble_eq_true rfl) (by decide) (cm_X11_within) (fun z1 m1 hm1 => ?_)
  obtain ⟨hz1, hmm⟩ := hm1
  subst hmm
  refine z_if_ne 12 dX11_may_6 (by decide) (fun h6 => ?_) (fun h6 => ?_)
  · have yes := hz1.yes h6
    obtain ⟨l', rfl⟩ : ∃ l' : Nat, l = (l' : Int) := ⟨l.toNat, by omega⟩
    refine z_aload_n dX11_may_12 rfl ?_
    refine z_getR (ty := .int) dX11_may_13 fl_X11_40 (by first | rfl | assumption) rfl rfl ?_
    refine z_iload_n dX11_may_16 rfl ?_
    refine z_V1i dX11_may_17 ok_X10_figuresOf lk_X11_171 (by first | rfl | assumption) rfl rfl (Nat.le_of_ble_eq_true rfl) (by decide) (cm_X10_figuresOf (by omega : l' < 6) hf hr hc) (fun z2 m2 hm2 => ?_)
    refine z_iret dX11_may_20 rfl ?_
    exact ⟨rfl, _, rfl, ⟨fun q => absurd yes q, fun _ => hm2.1⟩, hm2.2⟩
  · have no := hz1.no h6
    refine z_bipush dX11_may_9 (by decide) ?_
    refine z_iret dX11_may_11 rfl ?_
    exact ⟨rfl, _, rfl, ⟨fun _ => rfl, fun q => absurd q no⟩, hc, onSA.rf⟩
end Search
