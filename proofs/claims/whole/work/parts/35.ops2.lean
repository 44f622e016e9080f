section OpsB
variable {X : Nat × (Int → Int)} {mem : Mem} {nf np : Nat} {fd pr fr bk : Nat → Nat → Int}
def fdD (fd : Nat → Nat → Int) (i : Nat) (b : Int) : Nat → Nat → Int := fun k j => if k = 5 ∧ j = i then b else fd k j
/-- what doubt answers, and what the finds are then -/
def dbA (nf : Nat) (fd : Nat → Nat → Int) (i b z : Int) : Prop := (¬ (0 ≤ i ∧ i < (nf : Int)) → z = -2) ∧ (0 ≤ i ∧ i < (nf : Int) → fd 5 i.toNat = b → z = -3) ∧ (0 ≤ i ∧ i < (nf : Int) → ¬ fd 5 i.toNat = b → z = 1)
def dbF (nf : Nat) (fd : Nat → Nat → Int) (i b : Int) : Nat → Nat → Int := if 0 ≤ i ∧ i < (nf : Int) then fdD fd i.toNat b else fd
theorem cm_X11_doubt {i b : Int} (hf : finC mem nf fd) (hb : b = 0 ∨ b = 1) : CM X (0, 0) 1 mX11_doubt G0 [vr 0, vi i, vi b] mem (pI G0 fun z m => dbA nf fd i b z ∧ finC m nf (dbF nf fd i b) ∧ ∀ a, a ≠ 7 → m a = mem a) := by
  have hf' := hf
  obtain ⟨hn, hs, hrow, hz⟩ := hf
  unfold dbA dbF
  refine CM.of (by decide +kernel) 0 (Nat.le_of_ble_eq_true rfl) ?_
  show ZZ X (0, 0) 1 mX11_doubt G0 0 [vr 0, vi i, vi b] [] mem _
  refine z_iload_n dX11_doubt_0 rfl ?_
  refine z_iconst dX11_doubt_1 (by decide) ?_
  refine z_aload_n dX11_doubt_2 rfl ?_
  refine z_getR (ty := .int) dX11_doubt_3 fl_X11_10 (by first | rfl | assumption) rfl rfl ?_
  refine z_gI 6 dX11_doubt_6 fl_X11_91 (by first | rfl | assumption) rfl rfl ?_
  rw [hs]
  refine z_iconst dX11_doubt_9 (by decide) ?_
  refine z_isub dX11_doubt_10 (by omega) ?_
  refine z_S3i dX11_doubt_11 ok_X11_within lk_X11_83 (Nat.le_of_ble_eq_true rfl) (by decide) (cm_X11_within) (fun z1 m1 hm1 => ?_)
  obtain ⟨hz1, rfl⟩ := hm1
  refine z_if_ne 20 dX11_doubt_14 (by decide) (fun h14 => ?_) (fun h14 => ?_)
  · obtain ⟨j, rfl⟩ : ∃ j : Nat, i = (j : Int) := ⟨i.toNat, by omega⟩
    have hj : j < nf := by omega
    have e7 : m1 7 (j : Int) = fd 5 j := hrow 5 j (by decide) hj
    rw [Int.toNat_natCast, if_pos (by omega)]
    refine z_aload_n dX11_doubt_20 rfl ?_
    refine z_getR (ty := .int) dX11_doubt_21 fl_X11_10 (by first | rfl | assumption) rfl rfl ?_
    refine z_getR (ty := .int) dX11_doubt_24 fl_X11_94 (by first | rfl | assumption) rfl rfl ?_
    refine z_iload_n dX11_doubt_27 rfl ?_
    refine z_zald dX11_doubt_28 (by first | rfl | assumption) (by omega) (by omega) (fun h28 => ?_)
    rw [e7] at h28 ⊢
    refine z_iload_n dX11_doubt_29 rfl ?_
    refine z_icmp_ne 36 dX11_doubt_30 (by decide) (fun h30 => ?_) (fun h30 => ?_)
    · refine z_aload_n dX11_doubt_36 rfl ?_
      refine z_getR (ty := .int) dX11_doubt_37 fl_X11_10 (by first | rfl | assumption) rfl rfl ?_
      refine z_getR (ty := .int) dX11_doubt_40 fl_X11_94 (by first | rfl | assumption) rfl rfl ?_
      refine z_iload_n dX11_doubt_43 rfl ?_
      refine z_iload_n dX11_doubt_44 rfl ?_
      refine z_zast dX11_doubt_45 (by first | rfl | assumption) (by omega) (by omega) (by first | exact Or.inl rfl | exact Or.inr rfl | assumption | omega) ?_
      refine z_iconst dX11_doubt_46 (by decide) ?_
      refine z_iret dX11_doubt_47 rfl ?_
      refine ⟨rfl, _, rfl, ⟨fun q => absurd (by omega) q, fun _ q => absurd q h30, fun _ _ => rfl⟩, ⟨hn, ?_, ?_, ?_⟩, fun a ha => mset_ne _ ha _ _⟩
      · rw [mset_ne _ (by decide)]; exact hs
      · intro k i hk hi
        unfold fdD
        by_cases q : k = 5 ∧ i = j
        · rw [if_pos q, q.1, q.2]; exact mset_eq _ _ _ _
        · rw [if_neg q, ← hrow k i hk hi]
          by_cases q5 : k = 5
          · subst q5
            exact mset_nej _ _ (by omega) _
          · rw [mset_ne _ (by omega)]
      · intro i a c
        rw [mset_nej _ _ (by omega)]
        exact hz i a c
    · have hsame : fdD fd j b = fd := by
        funext k i
        unfold fdD
        by_cases q : k = 5 ∧ i = j
        · rw [if_pos q, q.1, q.2, h30]
        · rw [if_neg q]
      refine z_bipush dX11_doubt_33 (by decide) ?_
      refine z_iret dX11_doubt_35 rfl ?_
      exact ⟨rfl, _, rfl, ⟨fun q => absurd (by omega) q, fun _ _ => rfl, fun _ q => absurd h30 q⟩, by rw [hsame]; exact hf', fun _ _ => rfl⟩
  · refine z_bipush dX11_doubt_17 (by decide) ?_
    refine z_iret dX11_doubt_19 rfl ?_
    exact ⟨rfl, _, rfl, ⟨fun _ => rfl, fun q => by omega, fun q => by omega⟩, by rw [if_neg (by omega)]; exact hf', fun _ _ => rfl⟩
theorem cm_X12_doubt {i b : Int} (hf : finM mem nf fd) (hfr : finR nf fd) (hb : b = 0 ∨ b = 1) : CM X (0, 0) 2 mX12_doubt G0 [vr 88, vi i, vi b] mem (pI G0 fun z m => dbA nf fd i b z ∧ finM m nf (dbF nf fd i b) ∧ ∀ a, a ≠ 91 → m a = mem a) := by
  have hf' := hf
  obtain ⟨hn, hs, hrow⟩ := hf
  unfold dbA dbF
  refine CM.of (by decide +kernel) 0 (Nat.le_of_ble_eq_true rfl) ?_
  show ZZ X (0, 0) 2 mX12_doubt G0 0 [vr 88, vi i, vi b] [] mem _
  have tail : ∀ (j : Nat) (c : Int), j < nf → i = (j : Int) → c = fd 5 j → ZZ X (0, 0) 2 mX12_doubt G0 26 [vr 88, vi i, vi b] [vi c] mem (pI G0 fun z m => ((¬ (0 ≤ i ∧ i < (nf : Int)) → z = -2) ∧ (0 ≤ i ∧ i < (nf : Int) → fd 5 i.toNat = b → z = -3) ∧ (0 ≤ i ∧ i < (nf : Int) → ¬ fd 5 i.toNat = b → z = 1)) ∧ finM m nf (if 0 ≤ i ∧ i < (nf : Int) then fdD fd i.toNat b else fd) ∧ ∀ a, a ≠ 91 → m a = mem a) := by
    intro j c hj hi hc
    subst hi
    rw [Int.toNat_natCast, if_pos (by omega)]
    refine z_iload_n dX12_doubt_26 rfl ?_
    refine z_icmp_ne 33 dX12_doubt_27 (by decide) (fun h27 => ?_) (fun h27 => ?_)
    · refine z_aload_n dX12_doubt_33 rfl ?_
      refine z_getR (ty := .int) dX12_doubt_34 fl_X12_16 (by first | rfl | assumption) rfl rfl ?_
      refine z_bipush dX12_doubt_37 (by decide) ?_
      refine z_iload_n dX12_doubt_39 rfl ?_
      refine z_imul dX12_doubt_40 (by omega) ?_
      refine z_iconst dX12_doubt_41 (by decide) ?_
      refine z_iadd dX12_doubt_42 (by omega) ?_
      refine z_iload_n dX12_doubt_43 rfl ?_
      refine z_if_eq 51 dX12_doubt_44 (by decide) (fun h44 => ?_) (fun h44 => ?_)
      · refine z_iconst dX12_doubt_51 (by decide) ?_
        refine z_iast dX12_doubt_52 (by first | rfl | assumption) (by omega) (by omega) ?_
        refine z_iconst dX12_doubt_53 (by decide) ?_
        refine z_iret dX12_doubt_54 rfl ?_
        refine ⟨rfl, _, rfl, ⟨fun q => absurd (by omega) q, fun _ q => absurd (by omega) h27, fun _ _ => rfl⟩, ⟨hn, ?_, ?_⟩, fun a ha => mset_ne _ ha _ _⟩
        · rw [mset_ne _ (by decide)]; exact hs
        · intro k i hk hi
          unfold fdD
          by_cases q : k = 5 ∧ i = j
          · rw [if_pos q, q.1, q.2]; exact (mset_eq _ _ _ _).trans (by omega)
          · rw [if_neg q, ← hrow k i hk hi]
            exact mset_nej _ _ (by omega) _
      · refine z_iconst dX12_doubt_47 (by decide) ?_
        refine z_goto 52 dX12_doubt_48 (by decide) ?_
        refine z_iast dX12_doubt_52 (by first | rfl | assumption) (by omega) (by omega) ?_
        refine z_iconst dX12_doubt_53 (by decide) ?_
        refine z_iret dX12_doubt_54 rfl ?_
        refine ⟨rfl, _, rfl, ⟨fun q => absurd (by omega) q, fun _ q => absurd (by omega) h27, fun _ _ => rfl⟩, ⟨hn, ?_, ?_⟩, fun a ha => mset_ne _ ha _ _⟩
        · rw [mset_ne _ (by decide)]; exact hs
        · intro k i hk hi
          unfold fdD
          by_cases q : k = 5 ∧ i = j
          · rw [if_pos q, q.1, q.2]; exact (mset_eq _ _ _ _).trans (by omega)
          · rw [if_neg q, ← hrow k i hk hi]
            exact mset_nej _ _ (by omega) _
    · have hsame : fdD fd j b = fd := by
        funext k i
        unfold fdD
        by_cases q : k = 5 ∧ i = j
        · rw [if_pos q, q.1, q.2, ← hc, h27]
        · rw [if_neg q]
      refine z_bipush dX12_doubt_30 (by decide) ?_
      refine z_iret dX12_doubt_32 rfl ?_
      exact ⟨rfl, _, rfl, ⟨fun q => absurd (by omega) q, fun _ _ => rfl, fun _ q => absurd (by omega) q⟩, by rw [hsame]; exact hf', fun _ _ => rfl⟩
  refine z_aload_n dX12_doubt_0 rfl ?_
  refine z_iload_n dX12_doubt_1 rfl ?_
  refine z_V1i dX12_doubt_2 ok_X12_isFind lk_X12_119 (by first | rfl | assumption) rfl rfl (Nat.le_of_ble_eq_true rfl) (by decide) (cm_X12_isFind hf') (fun z1 m1 hm1 => ?_)
  obtain ⟨hz1, rfl⟩ := hm1
  refine z_if_ne 11 dX12_doubt_5 (by decide) (fun h5 => ?_) (fun h5 => ?_)
  · obtain ⟨j, hj⟩ : ∃ j : Nat, i = (j : Int) := ⟨i.toNat, by omega⟩
    have hjn : j < nf := by omega
    have hd5 := (hfr j hjn).2.2.2.2.2
    refine z_aload_n dX12_doubt_11 rfl ?_
    refine z_iload_n dX12_doubt_12 rfl ?_
    refine z_iconst dX12_doubt_13 (by decide) ?_
    refine z_V2i dX12_doubt_14 ok_X12_of lk_X12_122 (by first | rfl | assumption) rfl rfl (Nat.le_of_ble_eq_true rfl) (by decide) (hj ▸ cm_X12_of (k := 5) hf' hjn (by decide)) (fun z2 m2 hm2 => ?_)
    obtain ⟨rfl, rfl⟩ := hm2
    refine z_iconst dX12_doubt_17 (by decide) ?_
    refine z_icmp_ne 25 dX12_doubt_18 (by decide) (fun h18 => ?_) (fun h18 => ?_)
    · refine z_iconst dX12_doubt_25 (by decide) ?_
      exact tail j _ hjn hj (by omega)
    · refine z_iconst dX12_doubt_21 (by decide) ?_
      refine z_goto 26 dX12_doubt_22 (by decide) ?_
      exact tail j _ hjn hj (by omega)
  · refine z_bipush dX12_doubt_8 (by decide) ?_
    refine z_iret dX12_doubt_10 rfl ?_
    exact ⟨rfl, _, rfl, ⟨fun _ => rfl, fun q => by omega, fun q => by omega⟩, by rw [if_neg (by omega)]; exact hf', fun _ _ => rfl⟩
-- said
def okSaid (a s t : Int) : Prop := (0 ≤ a ∧ a ≤ 5) ∧ (0 ≤ s ∧ s ≤ 9999) ∧ (0 ≤ t ∧ t ≤ 9999)
theorem cm_X0_add {a s t : Int} (hf : prC mem np pr) : CM X (0, 0) 0 mX0_add G0 [vr 68, vi a, vi s, vi t] mem (pI G0 fun z m => (np = 20 → z = -4 ∧ m = mem) ∧ (np < 20 → z = (np : Int) + 1 ∧ prC m (np + 1) (fdU pr np (v3 a s t)) ∧ (∀ x, x < 68 ∨ 71 < x → m x = mem x) ∧ ∀ j, j ≠ 3 → m 68 j = mem 68 j)) := by
  obtain ⟨hn, hs, hrow⟩ := hf
  refine CM.of (by decide +kernel) 0 (Nat.le_of_ble_eq_true rfl) ?_
  show ZZ X (0, 0) 0 mX0_add G0 0 [vr 68, vi a, vi s, vi t] [] mem _
  refine z_aload_n dX0_add_0 rfl ?_
  refine z_gI 3 dX0_add_1 fl_X0_21 (by first | rfl | assumption) rfl rfl ?_
  rw [hs]
  refine z_bipush dX0_add_4 (by decide) ?_
  refine z_icmp_lt 12 dX0_add_6 (by decide) (fun h6 => ?_) (fun h6 => ?_)
  · refine z_aload_n dX0_add_12 rfl ?_
    refine z_getR (ty := .int) dX0_add_13 fl_X0_11 (by first | rfl | assumption) rfl rfl ?_
    refine z_aload_n dX0_add_16 rfl ?_
    refine z_gI 3 dX0_add_17 fl_X0_21 (by first | rfl | assumption) rfl rfl ?_
    rw [hs]
    refine z_iload_n dX0_add_20 rfl ?_
    refine z_iast dX0_add_21 (by first | rfl | assumption) (by omega) (by omega) ?_
    refine z_aload_n dX0_add_22 rfl ?_
    refine z_getR (ty := .int) dX0_add_23 fl_X0_15 (by first | rfl | assumption) rfl rfl ?_
    refine z_aload_n dX0_add_26 rfl ?_
    refine z_gI 3 dX0_add_27 fl_X0_21 (by first | rfl | assumption) rfl rfl ?_
    rw [mset_ne _ (by decide), hs]
    refine z_iload_n dX0_add_30 rfl ?_
    refine z_iast dX0_add_31 (by first | rfl | assumption) (by omega) (by omega) ?_
    refine z_aload_n dX0_add_32 rfl ?_
    refine z_getR (ty := .int) dX0_add_33 fl_X0_18 (by first | rfl | assumption) rfl rfl ?_
    refine z_aload_n dX0_add_36 rfl ?_
    refine z_gI 3 dX0_add_37 fl_X0_21 (by first | rfl | assumption) rfl rfl ?_
    rw [mset_ne _ (by decide), mset_ne _ (by decide), hs]
    refine z_iload_n dX0_add_40 rfl ?_
    refine z_iast dX0_add_41 (by first | rfl | assumption) (by omega) (by omega) ?_
    refine z_aload_n dX0_add_42 rfl ?_
    refine z_dup dX0_add_43 (by intro z q; cases q) ?_
    refine z_gI 3 dX0_add_44 fl_X0_21 (by first | rfl | assumption) rfl rfl ?_
    rw [mset_ne _ (by decide), mset_ne _ (by decide), mset_ne _ (by decide), hs]
    refine z_iconst dX0_add_47 (by decide) ?_
    refine z_iadd dX0_add_48 (by omega) ?_
    refine z_pI 3 dX0_add_49 fm_X0_21 (by first | rfl | assumption) rfl rfl ?_
    refine z_aload_n dX0_add_52 rfl ?_
    refine z_gI 3 dX0_add_53 fl_X0_21 (by first | rfl | assumption) rfl rfl ?_
    rw [mset_eq]
    refine z_iret dX0_add_56 rfl ?_
    refine ⟨rfl, _, rfl, fun q => by omega, fun _ => ⟨rfl, ⟨by omega, ?_, ?_⟩, ?_, ?_⟩⟩
    · rw [mset_eq]; omega
    · intro k i hk hi
      rw [mset_ne _ (by omega)]
      unfold fdU
      by_cases e : i = np
      · rw [if_pos e]
        subst e
        obtain rfl | rfl | rfl : k = 0 ∨ k = 1 ∨ k = 2 := by omega
        · show mset _ 71 _ _ 69 _ = a
          rw [mset_ne _ (by decide), mset_ne _ (by decide), mset_eq]
        · show mset _ 71 _ _ 70 _ = s
          rw [mset_ne _ (by decide), mset_eq]
        · show mset _ 71 _ _ 71 _ = t
          rw [mset_eq]
      · rw [if_neg e]
        have hh := hrow k i hk (by omega)
        have ne : ((i : Nat) : Int) ≠ (np : Int) := by omega
        rw [← hh]
        simp only [mset]
        obtain rfl | rfl | rfl : k = 0 ∨ k = 1 ∨ k = 2 := by omega
        all_goals simp [ne]
    · intro x hx
      rw [mset_ne _ (by omega), mset_ne _ (by omega), mset_ne _ (by omega), mset_ne _ (by omega)]
    · intro j hj
      rw [mset_nej _ _ hj, mset_ne _ (by decide), mset_ne _ (by decide), mset_ne _ (by decide)]
  · refine z_bipush dX0_add_9 (by decide) ?_
    refine z_iret dX0_add_11 rfl ?_
    exact ⟨rfl, _, rfl, fun _ => ⟨rfl, rfl⟩, fun q => by omega⟩
theorem cm_X11_said {a s t : Int} (hf : prC mem np pr) : CM X (0, 0) 1 mX11_said G0 [vr 0, vi a, vi s, vi t] mem (pI G0 fun z m => (¬ okSaid a s t → z = -2 ∧ m = mem) ∧ (okSaid a s t → np = 20 → z = -4 ∧ m = mem) ∧ (okSaid a s t → np < 20 → z = (np : Int) + 1 ∧ prC m (np + 1) (fdU pr np (v3 a s t)) ∧ (∀ x, x < 68 ∨ 71 < x → m x = mem x) ∧ ∀ j, j ≠ 3 → m 68 j = mem 68 j)) := by
  unfold okSaid
  refine CM.of (by decide +kernel) 0 (Nat.le_of_ble_eq_true rfl) ?_
  show ZZ X (0, 0) 1 mX11_said G0 0 [vr 0, vi a, vi s, vi t] [] mem _
  refine z_iload_n dX11_said_0 rfl ?_
  refine z_iconst dX11_said_1 (by decide) ?_
  refine z_iconst dX11_said_2 (by decide) ?_
  refine z_S3i dX11_said_3 ok_X11_within lk_X11_83 (Nat.le_of_ble_eq_true rfl) (by decide) (cm_X11_within) (fun z1 m1 hm1 => ?_)
  obtain ⟨hz1, rfl⟩ := hm1
  refine z_if_eq 31 dX11_said_6 (by decide) (fun h6 => ?_) (fun h6 => ?_)
  · refine z_bipush dX11_said_31 (by decide) ?_
    refine z_iret dX11_said_33 rfl ?_
    exact ⟨rfl, _, rfl, fun _ => ⟨rfl, rfl⟩, fun q => by omega, fun q => by omega⟩
  · refine z_iload_n dX11_said_9 rfl ?_
    refine z_iconst dX11_said_10 (by decide) ?_
    refine z_sipush dX11_said_11 (by decide) ?_
    refine z_S3i dX11_said_14 ok_X11_within lk_X11_83 (Nat.le_of_ble_eq_true rfl) (by decide) (cm_X11_within) (fun z1 m1 hm1 => ?_)
    obtain ⟨hz2, rfl⟩ := hm1
    refine z_if_eq 31 dX11_said_17 (by decide) (fun h17 => ?_) (fun h17 => ?_)
    · refine z_bipush dX11_said_31 (by decide) ?_
      refine z_iret dX11_said_33 rfl ?_
      exact ⟨rfl, _, rfl, fun _ => ⟨rfl, rfl⟩, fun q => by omega, fun q => by omega⟩
    · refine z_iload_n dX11_said_20 rfl ?_
      refine z_iconst dX11_said_21 (by decide) ?_
      refine z_sipush dX11_said_22 (by decide) ?_
      refine z_S3i dX11_said_25 ok_X11_within lk_X11_83 (Nat.le_of_ble_eq_true rfl) (by decide) (cm_X11_within) (fun z1 m1 hm1 => ?_)
      obtain ⟨hz3, rfl⟩ := hm1
      refine z_if_ne 34 dX11_said_28 (by decide) (fun h28 => ?_) (fun h28 => ?_)
      · refine z_aload_n dX11_said_34 rfl ?_
        refine z_getR (ty := .int) dX11_said_35 fl_X11_54 (by first | rfl | assumption) rfl rfl ?_
        refine z_iload_n dX11_said_38 rfl ?_
        refine z_iload_n dX11_said_39 rfl ?_
        refine z_iload_n dX11_said_40 rfl ?_
        refine z_V3i dX11_said_41 ok_X0_add lk_X11_201 (by first | rfl | assumption) rfl rfl (Nat.le_of_ble_eq_true rfl) (by decide) (cm_X0_add hf) (fun z6 m6 hm6 => ?_)
        refine z_iret dX11_said_44 rfl ?_
        exact ⟨rfl, _, rfl, fun q => by omega, fun _ => hm6.1, fun _ => hm6.2⟩
      · refine z_bipush dX11_said_31 (by decide) ?_
        refine z_iret dX11_said_33 rfl ?_
        exact ⟨rfl, _, rfl, fun _ => ⟨rfl, rfl⟩, fun q => by omega, fun q => by omega⟩
theorem cm_X12_said {a s t : Int} (hf : prM mem np pr) : CM X (0, 0) 2 mX12_said G0 [vr 88, vi a, vi s, vi t] mem (pI G0 fun z m => (¬ okSaid a s t → z = -2 ∧ m = mem) ∧ (okSaid a s t → np = 20 → z = -4 ∧ m = mem) ∧ (okSaid a s t → np < 20 → z = (np : Int) + 1 ∧ prM m (np + 1) (fdU pr np (v3 a s t)) ∧ onO 29 102 mem m)) := by
  obtain ⟨hn, hs, hrow⟩ := hf
  unfold okSaid
  refine CM.of (by decide +kernel) 0 (Nat.le_of_ble_eq_true rfl) ?_
  show ZZ X (0, 0) 2 mX12_said G0 0 [vr 88, vi a, vi s, vi t] [] mem _
  refine z_iload_n dX12_said_0 rfl ?_
  refine z_S1i dX12_said_1 ok_X12_isMaker lk_X12_103 (Nat.le_of_ble_eq_true rfl) (by decide) (cm_X12_isMaker) (fun z1 m1 hm1 => ?_)
  obtain ⟨hz1, rfl⟩ := hm1
  refine z_if_eq 31 dX12_said_4 (by decide) (fun h4 => ?_) (fun h4 => ?_)
  · refine z_bipush dX12_said_31 (by decide) ?_
    refine z_iret dX12_said_33 rfl ?_
    exact ⟨rfl, _, rfl, fun _ => ⟨rfl, rfl⟩, fun q => by omega, fun q => by omega⟩
  · refine z_iload_n dX12_said_7 rfl ?_
    refine z_i2l dX12_said_8 ?_
    refine z_lconst (z := 0) dX12_said_9 rfl (by decide) ?_
    refine z_ldc2 (z := 9999) dX12_said_10 kc_X12_106 (by decide) ?_
    refine z_S3i dX12_said_13 ok_X12_in lk_X12_97 (Nat.le_of_ble_eq_true rfl) (by decide) (cm_X12_in) (fun z1 m1 hm1 => ?_)
    obtain ⟨hz2, rfl⟩ := hm1
    refine z_if_eq 31 dX12_said_16 (by decide) (fun h16 => ?_) (fun h16 => ?_)
    · refine z_bipush dX12_said_31 (by decide) ?_
      refine z_iret dX12_said_33 rfl ?_
      exact ⟨rfl, _, rfl, fun _ => ⟨rfl, rfl⟩, fun q => by omega, fun q => by omega⟩
    · refine z_iload_n dX12_said_19 rfl ?_
      refine z_i2l dX12_said_20 ?_
      refine z_lconst (z := 0) dX12_said_21 rfl (by decide) ?_
      refine z_ldc2 (z := 9999) dX12_said_22 kc_X12_106 (by decide) ?_
      refine z_S3i dX12_said_25 ok_X12_in lk_X12_97 (Nat.le_of_ble_eq_true rfl) (by decide) (cm_X12_in) (fun z1 m1 hm1 => ?_)
      obtain ⟨hz3, rfl⟩ := hm1
      refine z_if_ne 34 dX12_said_28 (by decide) (fun h28 => ?_) (fun h28 => ?_)
      · refine z_aload_n dX12_said_34 rfl ?_
        refine z_gI 29 dX12_said_35 fl_X12_285 (by first | rfl | assumption) rfl rfl ?_
        rw [hs]
        refine z_bipush dX12_said_38 (by decide) ?_
        refine z_icmp_ne 46 dX12_said_40 (by decide) (fun h40 => ?_) (fun h40 => ?_)
        · refine z_aload_n dX12_said_46 rfl ?_
          refine z_getR (ty := .int) dX12_said_47 fl_X12_50 (by first | rfl | assumption) rfl rfl ?_
          refine z_iconst dX12_said_50 (by decide) ?_
          refine z_aload_n dX12_said_51 rfl ?_
          refine z_gI 29 dX12_said_52 fl_X12_285 (by first | rfl | assumption) rfl rfl ?_
          rw [hs]
          refine z_imul dX12_said_55 (by omega) ?_
          refine z_iload_n dX12_said_56 rfl ?_
          refine z_iast dX12_said_57 (by first | rfl | assumption) (by omega) (by omega) ?_
          refine z_aload_n dX12_said_58 rfl ?_
          refine z_getR (ty := .int) dX12_said_59 fl_X12_50 (by first | rfl | assumption) rfl rfl ?_
          refine z_iconst dX12_said_62 (by decide) ?_
          refine z_aload_n dX12_said_63 rfl ?_
          refine z_gI 29 dX12_said_64 fl_X12_285 (by first | rfl | assumption) rfl rfl ?_
          rw [mset_ne _ (by decide), hs]
          refine z_imul dX12_said_67 (by omega) ?_
          refine z_iconst dX12_said_68 (by decide) ?_
          refine z_iadd dX12_said_69 (by omega) ?_
          refine z_iload_n dX12_said_70 rfl ?_
          refine z_iast dX12_said_71 (by first | rfl | assumption) (by omega) (by omega) ?_
          refine z_aload_n dX12_said_72 rfl ?_
          refine z_getR (ty := .int) dX12_said_73 fl_X12_50 (by first | rfl | assumption) rfl rfl ?_
          refine z_iconst dX12_said_76 (by decide) ?_
          refine z_aload_n dX12_said_77 rfl ?_
          refine z_gI 29 dX12_said_78 fl_X12_285 (by first | rfl | assumption) rfl rfl ?_
          rw [mset_ne _ (by decide), mset_ne _ (by decide), hs]
          refine z_imul dX12_said_81 (by omega) ?_
          refine z_iconst dX12_said_82 (by decide) ?_
          refine z_iadd dX12_said_83 (by omega) ?_
          refine z_iload_n dX12_said_84 rfl ?_
          refine z_iast dX12_said_85 (by first | rfl | assumption) (by omega) (by omega) ?_
          refine z_aload_n dX12_said_86 rfl ?_
          refine z_dup dX12_said_87 (by intro z q; cases q) ?_
          refine z_gI 29 dX12_said_88 fl_X12_285 (by first | rfl | assumption) rfl rfl ?_
          rw [mset_ne _ (by decide), mset_ne _ (by decide), mset_ne _ (by decide), hs]
          refine z_iconst dX12_said_91 (by decide) ?_
          refine z_iadd dX12_said_92 (by omega) ?_
          refine z_pI 29 dX12_said_93 fm_X12_285 (by first | rfl | assumption) rfl rfl ?_
          refine z_aload_n dX12_said_96 rfl ?_
          refine z_gI 29 dX12_said_97 fl_X12_285 (by first | rfl | assumption) rfl rfl ?_
          rw [mset_eq]
          refine z_iret dX12_said_100 rfl ?_
          refine ⟨rfl, _, rfl, fun q => by omega, fun _ q => by omega, fun _ _ => ⟨rfl, ⟨by omega, ?_, ?_⟩, ?_, ?_⟩⟩
          · rw [mset_eq]; omega
          · intro k i hk hi
            rw [mset_ne _ (by decide)]
            unfold fdU
            by_cases e : i = np
            · rw [if_pos e]
              subst e
              obtain rfl | rfl | rfl : k = 0 ∨ k = 1 ∨ k = 2 := by omega
              · rw [mset_nej _ _ (by omega), mset_nej _ _ (by omega), show 3 * (i : Int) + ((0 : Nat) : Int) = 3 * (i : Int) by omega, mset_eq]; rfl
              · rw [mset_nej _ _ (by omega)]; exact mset_eq _ _ _ _
              · exact mset_eq _ _ _ _
            · rw [if_neg e, mset_nej _ _ (by omega), mset_nej _ _ (by omega), mset_nej _ _ (by omega)]
              exact hrow k i hk (by omega)
          · intro x ha hb
            rw [mset_ne _ ha, mset_ne _ hb, mset_ne _ hb, mset_ne _ hb]
          · intro j hj
            rw [mset_nej _ _ hj, mset_ne _ (by decide), mset_ne _ (by decide), mset_ne _ (by decide)]
        · refine z_bipush dX12_said_43 (by decide) ?_
          refine z_iret dX12_said_45 rfl ?_
          exact ⟨rfl, _, rfl, fun q => by omega, fun _ _ => ⟨rfl, rfl⟩, fun q => by omega⟩
      · refine z_bipush dX12_said_31 (by decide) ?_
        refine z_iret dX12_said_33 rfl ?_
        exact ⟨rfl, _, rfl, fun _ => ⟨rfl, rfl⟩, fun q => by omega, fun q => by omega⟩
-- front
def okFront (f a b : Int) : Prop := (0 ≤ f ∧ f ≤ 3) ∧ (1 ≤ a ∧ a ≤ b ∧ b ≤ 1000)
theorem cm_X11_front {f a b : Int} (hf : frC mem fr) : CM X (0, 0) 1 mX11_front G0 [vr 0, vi f, vi a, vi b] mem (pI G0 fun z m => (¬ okFront f a b → z = -2 ∧ m = mem) ∧ (okFront f a b → z = 1 ∧ frC m (fdU fr f.toNat (v3 a b 0)) ∧ ∀ x, x ≠ 73 → x ≠ 74 → m x = mem x)) := by
  unfold okFront
  refine CM.of (by decide +kernel) 0 (Nat.le_of_ble_eq_true rfl) ?_
  show ZZ X (0, 0) 1 mX11_front G0 0 [vr 0, vi f, vi a, vi b] [] mem _
  refine z_iload_n dX11_front_0 rfl ?_
  refine z_iconst dX11_front_1 (by decide) ?_
  refine z_iconst dX11_front_2 (by decide) ?_
  refine z_S3i dX11_front_3 ok_X11_within lk_X11_83 (Nat.le_of_ble_eq_true rfl) (by decide) (cm_X11_within) (fun z1 m1 hm1 => ?_)
  obtain ⟨hz1, rfl⟩ := hm1
  refine z_if_eq 17 dX11_front_6 (by decide) (fun h6 => ?_) (fun h6 => ?_)
  · refine z_bipush dX11_front_17 (by decide) ?_
    refine z_iret dX11_front_19 rfl ?_
    exact ⟨rfl, _, rfl, fun _ => ⟨rfl, rfl⟩, fun q => by omega⟩
  · refine z_iload_n dX11_front_9 rfl ?_
    refine z_iload_n dX11_front_10 rfl ?_
    refine z_S2i dX11_front_11 ok_X11_isPart lk_X11_126 (Nat.le_of_ble_eq_true rfl) (by decide) (cm_X11_isPart) (fun z1 m1 hm1 => ?_)
    obtain ⟨hz2, rfl⟩ := hm1
    refine z_if_ne 20 dX11_front_14 (by decide) (fun h14 => ?_) (fun h14 => ?_)
    · refine z_aload_n dX11_front_20 rfl ?_
      refine z_getR (ty := .int) dX11_front_21 fl_X11_61 (by first | rfl | assumption) rfl rfl ?_
      refine z_getR (ty := .int) dX11_front_24 fl_X11_224 (by first | rfl | assumption) rfl rfl ?_
      refine z_iload_n dX11_front_27 rfl ?_
      refine z_iload_n dX11_front_28 rfl ?_
      refine z_iast dX11_front_29 (by first | rfl | assumption) (by omega) (by omega) ?_
      refine z_aload_n dX11_front_30 rfl ?_
      refine z_getR (ty := .int) dX11_front_31 fl_X11_61 (by first | rfl | assumption) rfl rfl ?_
      refine z_getR (ty := .int) dX11_front_34 fl_X11_227 (by first | rfl | assumption) rfl rfl ?_
      refine z_iload_n dX11_front_37 rfl ?_
      refine z_iload_n dX11_front_38 rfl ?_
      refine z_iast dX11_front_39 (by first | rfl | assumption) (by omega) (by omega) ?_
      refine z_iconst dX11_front_40 (by decide) ?_
      refine z_iret dX11_front_41 rfl ?_
      refine ⟨rfl, _, rfl, fun q => by omega, fun _ => ⟨rfl, ?_, fun x h1 h2 => by rw [mset_ne _ h2, mset_ne _ h1]⟩⟩
      intro k i hk hi
      unfold fdU
      by_cases e : i = f.toNat
      · rw [if_pos e]
        have ei : (i : Int) = f := by omega
        obtain rfl | rfl : k = 0 ∨ k = 1 := by omega
        · show mset _ 74 _ _ 73 _ = a
          rw [mset_ne _ (by decide), ei, mset_eq]
        · show mset _ 74 _ _ 74 _ = b
          rw [ei, mset_eq]
      · rw [if_neg e, ← hf k i hk hi]
        have ne : (i : Int) ≠ f := by omega
        simp only [mset]
        obtain rfl | rfl : k = 0 ∨ k = 1 := by omega
        all_goals simp [ne]
    · refine z_bipush dX11_front_17 (by decide) ?_
      refine z_iret dX11_front_19 rfl ?_
      exact ⟨rfl, _, rfl, fun _ => ⟨rfl, rfl⟩, fun q => by omega⟩
theorem cm_X12_front {f a b : Int} (hf : frM mem fr) : CM X (0, 0) 2 mX12_front G0 [vr 88, vi f, vi a, vi b] mem (pI G0 fun z m => (¬ okFront f a b → z = -2 ∧ m = mem) ∧ (okFront f a b → z = 1 ∧ frM m (fdU fr f.toNat (v3 a b 0)) ∧ ∀ x, x ≠ 103 → m x = mem x)) := by
  unfold okFront
  refine CM.of (by decide +kernel) 0 (Nat.le_of_ble_eq_true rfl) ?_
  show ZZ X (0, 0) 2 mX12_front G0 0 [vr 88, vi f, vi a, vi b] [] mem _
  refine z_iload_n dX12_front_0 rfl ?_
  refine z_i2l dX12_front_1 ?_
  refine z_lconst (z := 0) dX12_front_2 rfl (by decide) ?_
  refine z_ldc2 (z := 3) dX12_front_3 kc_X12_114 (by decide) ?_
  refine z_S3i dX12_front_6 ok_X12_in lk_X12_97 (Nat.le_of_ble_eq_true rfl) (by decide) (cm_X12_in) (fun z1 m1 hm1 => ?_)
  obtain ⟨hz1, rfl⟩ := hm1
  refine z_if_eq 20 dX12_front_9 (by decide) (fun h9 => ?_) (fun h9 => ?_)
  · refine z_bipush dX12_front_20 (by decide) ?_
    refine z_iret dX12_front_22 rfl ?_
    exact ⟨rfl, _, rfl, fun _ => ⟨rfl, rfl⟩, fun q => by omega⟩
  · refine z_iload_n dX12_front_12 rfl ?_
    refine z_iload_n dX12_front_13 rfl ?_
    refine z_S2i dX12_front_14 ok_X12_isPart lk_X12_196 (Nat.le_of_ble_eq_true rfl) (by decide) (cm_X12_isPart) (fun z1 m1 hm1 => ?_)
    obtain ⟨hz2, rfl⟩ := hm1
    refine z_if_ne 23 dX12_front_17 (by decide) (fun h17 => ?_) (fun h17 => ?_)
    · refine z_aload_n dX12_front_23 rfl ?_
      refine z_getR (ty := .int) dX12_front_24 fl_X12_53 (by first | rfl | assumption) rfl rfl ?_
      refine z_iconst dX12_front_27 (by decide) ?_
      refine z_iload_n dX12_front_28 rfl ?_
      refine z_imul dX12_front_29 (by omega) ?_
      refine z_iload_n dX12_front_30 rfl ?_
      refine z_iast dX12_front_31 (by first | rfl | assumption) (by omega) (by omega) ?_
      refine z_aload_n dX12_front_32 rfl ?_
      refine z_getR (ty := .int) dX12_front_33 fl_X12_53 (by first | rfl | assumption) rfl rfl ?_
      refine z_iconst dX12_front_36 (by decide) ?_
      refine z_iload_n dX12_front_37 rfl ?_
      refine z_imul dX12_front_38 (by omega) ?_
      refine z_iconst dX12_front_39 (by decide) ?_
      refine z_iadd dX12_front_40 (by omega) ?_
      refine z_iload_n dX12_front_41 rfl ?_
      refine z_iast dX12_front_42 (by first | rfl | assumption) (by omega) (by omega) ?_
      refine z_iconst dX12_front_43 (by decide) ?_
      refine z_iret dX12_front_44 rfl ?_
      refine ⟨rfl, _, rfl, fun q => by omega, fun _ => ⟨rfl, ?_, fun x h1 => by rw [mset_ne _ h1, mset_ne _ h1]⟩⟩
      intro k i hk hi
      unfold fdU
      by_cases e : i = f.toNat
      · rw [if_pos e]
        have ei : (i : Int) = f := by omega
        obtain rfl | rfl : k = 0 ∨ k = 1 := by omega
        · rw [mset_nej _ _ (by omega), show 2 * (i : Int) + ((0 : Nat) : Int) = 2 * f by omega, mset_eq]; rfl
        · rw [show 2 * (i : Int) + ((1 : Nat) : Int) = 2 * f + 1 by omega, mset_eq]; rfl
      · rw [if_neg e, mset_nej _ _ (by omega), mset_nej _ _ (by omega)]
        exact hf k i hk hi
    · refine z_bipush dX12_front_20 (by decide) ?_
      refine z_iret dX12_front_22 rfl ?_
      exact ⟨rfl, _, rfl, fun _ => ⟨rfl, rfl⟩, fun q => by omega⟩
-- book
def okBook (mk n f s : Int) : Prop := (0 ≤ mk ∧ mk ≤ 5 ∧ 0 ≤ f ∧ f ≤ 9999 ∧ 1 ≤ s ∧ s ≤ 99) ∧ (n = -1 ∨ (1 ≤ n ∧ n ≤ 150))
theorem cm_X1_write {mk n f s : Int} (hf : bkC mem bk) (h0 : 0 ≤ mk) (h5 : mk ≤ 5) : CM X (0, 0) 0 mX1_write G0 [vr 75, vi mk, vi n, vi f, vi s] mem (pI G0 fun z m => z = bk 0 mk.toNat ∧ bkC m (fdU bk mk.toNat (v3 n f s)) ∧ ∀ x, x < 76 ∨ 78 < x → m x = mem x) := by
  have h00 : mem 76 mk = bk 0 mk.toNat := by
    have := hf 0 mk.toNat (by decide) (by omega)
    rw [Int.toNat_of_nonneg h0] at this
    exact this
  refine CM.of (by decide +kernel) 1 (Nat.le_of_ble_eq_true rfl) ?_
  show ZZ X (0, 0) 0 mX1_write G0 0 [vr 75, vi mk, vi n, vi f, vi s, vd] [] mem _
  refine z_aload_n dX1_write_0 rfl ?_
  refine z_getR (ty := .int) dX1_write_1 fl_X1_9 (by first | rfl | assumption) rfl rfl ?_
  refine z_iload_n dX1_write_4 rfl ?_
  refine z_iald dX1_write_5 (by first | rfl | assumption) (by omega) (by omega) ?_
  rw [h00]
  refine z_istore dX1_write_6 (by decide) rfl ?_
  dsimp only [List.set]
  refine z_aload_n dX1_write_8 rfl ?_
  refine z_getR (ty := .int) dX1_write_9 fl_X1_9 (by first | rfl | assumption) rfl rfl ?_
  refine z_iload_n dX1_write_12 rfl ?_
  refine z_iload_n dX1_write_13 rfl ?_
  refine z_iast dX1_write_14 (by first | rfl | assumption) (by omega) (by omega) ?_
  refine z_aload_n dX1_write_15 rfl ?_
  refine z_getR (ty := .int) dX1_write_16 fl_X1_15 (by first | rfl | assumption) rfl rfl ?_
  refine z_iload_n dX1_write_19 rfl ?_
  refine z_iload_n dX1_write_20 rfl ?_
  refine z_iast dX1_write_21 (by first | rfl | assumption) (by omega) (by omega) ?_
  refine z_aload_n dX1_write_22 rfl ?_
  refine z_getR (ty := .int) dX1_write_23 fl_X1_18 (by first | rfl | assumption) rfl rfl ?_
  refine z_iload_n dX1_write_26 rfl ?_
  refine z_iload dX1_write_27 rfl ?_
  refine z_iast dX1_write_29 (by first | rfl | assumption) (by omega) (by omega) ?_
  refine z_iload dX1_write_30 rfl ?_
  refine z_iret dX1_write_32 rfl ?_
  refine ⟨rfl, _, rfl, rfl, ?_, fun x hx => by rw [mset_ne _ (by omega), mset_ne _ (by omega), mset_ne _ (by omega)]⟩
  intro k i hk hi
  unfold fdU
  by_cases e : i = mk.toNat
  · rw [if_pos e]
    have ei : (i : Int) = mk := by omega
    obtain rfl | rfl | rfl : k = 0 ∨ k = 1 ∨ k = 2 := by omega
    · show mset _ 78 _ _ 76 _ = n
      rw [mset_ne _ (by decide), mset_ne _ (by decide), ei, mset_eq]
    · show mset _ 78 _ _ 77 _ = f
      rw [mset_ne _ (by decide), ei, mset_eq]
    · show mset _ 78 _ _ 78 _ = s
      rw [ei, mset_eq]
  · rw [if_neg e, ← hf k i hk hi]
    have ne : (i : Int) ≠ mk := by omega
    simp only [mset]
    obtain rfl | rfl | rfl : k = 0 ∨ k = 1 ∨ k = 2 := by omega
    all_goals simp [ne]
theorem cm_X11_book {mk n f s : Int} (hf : bkC mem bk) : CM X (0, 0) 2 mX11_book G0 [vr 0, vi mk, vi n, vi f, vi s] mem (pI G0 fun z m => (¬ okBook mk n f s → z = -10 ∧ m = mem) ∧ (okBook mk n f s → z = bk 0 mk.toNat ∧ bkC m (fdU bk mk.toNat (v3 n f s)) ∧ ∀ x, x < 76 ∨ 78 < x → m x = mem x)) := by
  unfold okBook
  refine CM.of (by decide +kernel) 0 (Nat.le_of_ble_eq_true rfl) ?_
  show ZZ X (0, 0) 2 mX11_book G0 0 [vr 0, vi mk, vi n, vi f, vi s] [] mem _
  refine z_iload_n dX11_book_0 rfl ?_
  refine z_iload_n dX11_book_1 rfl ?_
  refine z_iload dX11_book_2 rfl ?_
  refine z_S3i dX11_book_4 ok_X11_isScheme lk_X11_111 (Nat.le_of_ble_eq_true rfl) (by decide) (cm_X11_isScheme) (fun z1 m1 hm1 => ?_)
  obtain ⟨hz1, rfl⟩ := hm1
  refine z_if_eq 25 dX11_book_7 (by decide) (fun h7 => ?_) (fun h7 => ?_)
  · refine z_bipush dX11_book_25 (by decide) ?_
    refine z_iret dX11_book_27 rfl ?_
    exact ⟨rfl, _, rfl, fun _ => ⟨rfl, rfl⟩, fun q => by omega⟩
  · refine z_iload_n dX11_book_10 rfl ?_
    refine z_if_eq 25 dX11_book_11 (by decide) (fun h11 => ?_) (fun h11 => ?_)
    · refine z_bipush dX11_book_25 (by decide) ?_
      refine z_iret dX11_book_27 rfl ?_
      exact ⟨rfl, _, rfl, fun _ => ⟨rfl, rfl⟩, fun q => by omega⟩
    · refine z_iload_n dX11_book_14 rfl ?_
      refine z_iconst dX11_book_15 (by decide) ?_
      refine z_sipush dX11_book_16 (by decide) ?_
      refine z_S3i dX11_book_19 ok_X11_within lk_X11_83 (Nat.le_of_ble_eq_true rfl) (by decide) (cm_X11_within) (fun z1 m1 hm1 => ?_)
      obtain ⟨hz2, rfl⟩ := hm1
      refine z_if_ne 28 dX11_book_22 (by decide) (fun h22 => ?_) (fun h22 => ?_)
      · refine z_aload_n dX11_book_28 rfl ?_
        refine z_getR (ty := .int) dX11_book_29 fl_X11_68 (by first | rfl | assumption) rfl rfl ?_
        refine z_iload_n dX11_book_32 rfl ?_
        refine z_iload_n dX11_book_33 rfl ?_
        refine z_iload_n dX11_book_34 rfl ?_
        refine z_iload dX11_book_35 rfl ?_
        refine z_V4i dX11_book_37 ok_X1_write lk_X11_234 (by first | rfl | assumption) rfl rfl (Nat.le_of_ble_eq_true rfl) (by decide) (cm_X1_write hf (by omega) (by omega)) (fun z6 m6 hm6 => ?_)
        refine z_iret dX11_book_40 rfl ?_
        exact ⟨rfl, _, rfl, fun q => by omega, fun _ => hm6⟩
      · refine z_bipush dX11_book_25 (by decide) ?_
        refine z_iret dX11_book_27 rfl ?_
        exact ⟨rfl, _, rfl, fun _ => ⟨rfl, rfl⟩, fun q => by omega⟩
theorem cm_X12_book {mk n f s : Int} (hf : bkM mem bk) : CM X (0, 0) 2 mX12_book G0 [vr 88, vi mk, vi n, vi f, vi s] mem (pI G0 fun z m => (¬ okBook mk n f s → z = -10 ∧ m = mem) ∧ (okBook mk n f s → z = bk 0 mk.toNat ∧ bkM m (fdU bk mk.toNat (v3 n f s)) ∧ ∀ x, x ≠ 32 → m x = mem x)) := by
  unfold okBook
  refine CM.of (by decide +kernel) 1 (Nat.le_of_ble_eq_true rfl) ?_
  show ZZ X (0, 0) 2 mX12_book G0 0 [vr 88, vi mk, vi n, vi f, vi s, vd] [] mem _
  have tail : (0 ≤ mk ∧ mk ≤ 5) → (n = -1 ∨ (1 ≤ n ∧ n ≤ 150)) → ZZ X (0, 0) 2 mX12_book G0 24 [vr 88, vi mk, vi n, vi f, vi s, vd] [] mem (pI G0 fun z m => (¬ ((0 ≤ mk ∧ mk ≤ 5 ∧ 0 ≤ f ∧ f ≤ 9999 ∧ 1 ≤ s ∧ s ≤ 99) ∧ (n = -1 ∨ (1 ≤ n ∧ n ≤ 150))) → z = -10 ∧ m = mem) ∧ ((0 ≤ mk ∧ mk ≤ 5 ∧ 0 ≤ f ∧ f ≤ 9999 ∧ 1 ≤ s ∧ s ≤ 99) ∧ (n = -1 ∨ (1 ≤ n ∧ n ≤ 150)) → z = bk 0 mk.toNat ∧ bkM m (fdU bk mk.toNat (v3 n f s)) ∧ ∀ x, x ≠ 32 → m x = mem x)) := by
    intro hmk hnn
    have h00 : mem 32 (3 * mk) = bk 0 mk.toNat := by
      have := hf 0 mk.toNat (by decide) (by omega)
      rw [Int.toNat_of_nonneg hmk.1] at this
      simpa using this
    refine z_iload_n dX12_book_24 rfl ?_
    refine z_iload dX12_book_25 rfl ?_
    refine z_S2i dX12_book_27 ok_X12_isScheme lk_X12_145 (Nat.le_of_ble_eq_true rfl) (by decide) (cm_X12_isScheme) (fun z1 m1 hm1 => ?_)
    obtain ⟨hz1, rfl⟩ := hm1
    refine z_if_ne 36 dX12_book_30 (by decide) (fun h30 => ?_) (fun h30 => ?_)
    · refine z_aload_n dX12_book_36 rfl ?_
      refine z_getR (ty := .int) dX12_book_37 fl_X12_56 (by first | rfl | assumption) rfl rfl ?_
      refine z_iconst dX12_book_40 (by decide) ?_
      refine z_iload_n dX12_book_41 rfl ?_
      refine z_imul dX12_book_42 (by omega) ?_
      refine z_iald dX12_book_43 (by first | rfl | assumption) (by omega) (by omega) ?_
      rw [h00]
      refine z_istore dX12_book_44 (by decide) rfl ?_
      dsimp only [List.set]
      refine z_aload_n dX12_book_46 rfl ?_
      refine z_getR (ty := .int) dX12_book_47 fl_X12_56 (by first | rfl | assumption) rfl rfl ?_
      refine z_iconst dX12_book_50 (by decide) ?_
      refine z_iload_n dX12_book_51 rfl ?_
      refine z_imul dX12_book_52 (by omega) ?_
      refine z_iload_n dX12_book_53 rfl ?_
      refine z_iast dX12_book_54 (by first | rfl | assumption) (by omega) (by omega) ?_
      refine z_aload_n dX12_book_55 rfl ?_
      refine z_getR (ty := .int) dX12_book_56 fl_X12_56 (by first | rfl | assumption) rfl rfl ?_
      refine z_iconst dX12_book_59 (by decide) ?_
      refine z_iload_n dX12_book_60 rfl ?_
      refine z_imul dX12_book_61 (by omega) ?_
      refine z_iconst dX12_book_62 (by decide) ?_
      refine z_iadd dX12_book_63 (by omega) ?_
      refine z_iload_n dX12_book_64 rfl ?_
      refine z_iast dX12_book_65 (by first | rfl | assumption) (by omega) (by omega) ?_
      refine z_aload_n dX12_book_66 rfl ?_
      refine z_getR (ty := .int) dX12_book_67 fl_X12_56 (by first | rfl | assumption) rfl rfl ?_
      refine z_iconst dX12_book_70 (by decide) ?_
      refine z_iload_n dX12_book_71 rfl ?_
      refine z_imul dX12_book_72 (by omega) ?_
      refine z_iconst dX12_book_73 (by decide) ?_
      refine z_iadd dX12_book_74 (by omega) ?_
      refine z_iload dX12_book_75 rfl ?_
      refine z_iast dX12_book_77 (by first | rfl | assumption) (by omega) (by omega) ?_
      refine z_iload dX12_book_78 rfl ?_
      refine z_iret dX12_book_80 rfl ?_
      refine ⟨rfl, _, rfl, fun q => by omega, fun _ => ⟨rfl, ?_, fun x h1 => by rw [mset_ne _ h1, mset_ne _ h1, mset_ne _ h1]⟩⟩
      intro k i hk hi
      unfold fdU
      by_cases e : i = mk.toNat
      · rw [if_pos e]
        have ei : (i : Int) = mk := by omega
        obtain rfl | rfl | rfl : k = 0 ∨ k = 1 ∨ k = 2 := by omega
        · rw [mset_nej _ _ (by omega), mset_nej _ _ (by omega), show 3 * (i : Int) + ((0 : Nat) : Int) = 3 * mk by omega, mset_eq]; rfl
        · rw [mset_nej _ _ (by omega), show 3 * (i : Int) + ((1 : Nat) : Int) = 3 * mk + 1 by omega, mset_eq]; rfl
        · rw [show 3 * (i : Int) + ((2 : Nat) : Int) = 3 * mk + 2 by omega, mset_eq]; rfl
      · rw [if_neg e, mset_nej _ _ (by omega), mset_nej _ _ (by omega), mset_nej _ _ (by omega)]
        exact hf k i hk hi
    · refine z_bipush dX12_book_33 (by decide) ?_
      refine z_iret dX12_book_35 rfl ?_
      exact ⟨rfl, _, rfl, fun _ => ⟨rfl, rfl⟩, fun q => by omega⟩
  refine z_iload_n dX12_book_0 rfl ?_
  refine z_S1i dX12_book_1 ok_X12_isMaker lk_X12_103 (Nat.le_of_ble_eq_true rfl) (by decide) (cm_X12_isMaker) (fun z1 m1 hm1 => ?_)
  obtain ⟨hz1, rfl⟩ := hm1
  refine z_if_eq 33 dX12_book_4 (by decide) (fun h4 => ?_) (fun h4 => ?_)
  · refine z_bipush dX12_book_33 (by decide) ?_
    refine z_iret dX12_book_35 rfl ?_
    exact ⟨rfl, _, rfl, fun _ => ⟨rfl, rfl⟩, fun q => by omega⟩
  · refine z_iload_n dX12_book_7 rfl ?_
    refine z_iconst dX12_book_8 (by decide) ?_
    refine z_icmp_eq 24 dX12_book_9 (by decide) (fun h9 => ?_) (fun h9 => ?_)
    · exact tail (by omega) (by omega)
    · refine z_iload_n dX12_book_12 rfl ?_
      refine z_i2l dX12_book_13 ?_
      refine z_lconst (z := 1) dX12_book_14 rfl (by decide) ?_
      refine z_ldc2 (z := 150) dX12_book_15 kc_X12_151 (by decide) ?_
      refine z_S3i dX12_book_18 ok_X12_in lk_X12_97 (Nat.le_of_ble_eq_true rfl) (by decide) (cm_X12_in) (fun z1 m1 hm1 => ?_)
      obtain ⟨hz2, rfl⟩ := hm1
      refine z_if_eq 33 dX12_book_21 (by decide) (fun h21 => ?_) (fun h21 => ?_)
      · refine z_bipush dX12_book_33 (by decide) ?_
        refine z_iret dX12_book_35 rfl ?_
        exact ⟨rfl, _, rfl, fun _ => ⟨rfl, rfl⟩, fun q => by omega⟩
      · exact tail (by omega) (by omega)
end OpsB
