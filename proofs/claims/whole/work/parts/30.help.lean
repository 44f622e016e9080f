/-! ===== small helpers of both ===== -/
abbrev bT (z : Int) (P : Prop) : Prop := (z = 1 ∧ P) ∨ (z = 0 ∧ ¬ P)
section Help
variable {X : Nat × (Int → Int)} {mem : Mem} {G : List GC}
theorem cm_X11_within {v lo hi : Int} : CM X (0, 0) 0 mX11_within G [vi v, vi lo, vi hi] mem (pI G fun z m => bT z (lo ≤ v ∧ v ≤ hi) ∧ m = mem) := by
  refine CM.of (by decide +kernel) 0 (Nat.le_of_ble_eq_true rfl) ?_
  show ZZ X (0, 0) 0 mX11_within G 0 [vi v, vi lo, vi hi] [] mem _
  refine z_iload_n dX11_within_0 rfl ?_
  refine z_iload_n dX11_within_1 rfl ?_
  refine z_icmp_lt 14 dX11_within_2 (by decide) (fun h2 => ?_) (fun h2 => ?_)
  · refine z_iconst dX11_within_14 (by decide) ?_
    refine z_zret dX11_within_15 rfl (by first | exact Or.inl rfl | exact Or.inr rfl | assumption | (split <;> simp) | omega) ?_
    exact ⟨rfl, _, rfl, by omega, rfl⟩
  · refine z_iload_n dX11_within_5 rfl ?_
    refine z_iload_n dX11_within_6 rfl ?_
    refine z_icmp_gt 14 dX11_within_7 (by decide) (fun h7 => ?_) (fun h7 => ?_)
    · refine z_iconst dX11_within_14 (by decide) ?_
      refine z_zret dX11_within_15 rfl (by first | exact Or.inl rfl | exact Or.inr rfl | assumption | (split <;> simp) | omega) ?_
      exact ⟨rfl, _, rfl, by omega, rfl⟩
    · refine z_iconst dX11_within_10 (by decide) ?_
      refine z_goto 15 dX11_within_11 (by decide) ?_
      refine z_zret dX11_within_15 rfl (by first | exact Or.inl rfl | exact Or.inr rfl | assumption | (split <;> simp) | omega) ?_
      exact ⟨rfl, _, rfl, by omega, rfl⟩
theorem cm_X11_isScheme {mk f s : Int} : CM X (0, 0) 1 mX11_isScheme G [vi mk, vi f, vi s] mem (pI G fun z m => bT z (0 ≤ mk ∧ mk ≤ 5 ∧ 0 ≤ f ∧ f ≤ 9999 ∧ 1 ≤ s ∧ s ≤ 99) ∧ m = mem) := by
  refine CM.of (by decide +kernel) 0 (Nat.le_of_ble_eq_true rfl) ?_
  show ZZ X (0, 0) 1 mX11_isScheme G 0 [vi mk, vi f, vi s] [] mem _
  refine z_iload_n dX11_isScheme_0 rfl ?_
  refine z_iconst dX11_isScheme_1 (by decide) ?_
  refine z_iconst dX11_isScheme_2 (by decide) ?_
  refine z_S3i dX11_isScheme_3 ok_X11_within lk_X11_83 (Nat.le_of_ble_eq_true rfl) (by decide) (cm_X11_within) (fun z1 m1 hm1 => ?_)
  obtain ⟨hz1, rfl⟩ := hm1
  refine z_if_eq 34 dX11_isScheme_6 (by decide) (fun h6 => ?_) (fun h6 => ?_)
  · refine z_iconst dX11_isScheme_34 (by decide) ?_
    refine z_zret dX11_isScheme_35 rfl (by first | exact Or.inl rfl | exact Or.inr rfl | assumption | (split <;> simp) | omega) ?_
    exact ⟨rfl, _, rfl, by omega, rfl⟩
  · refine z_iload_n dX11_isScheme_9 rfl ?_
    refine z_iconst dX11_isScheme_10 (by decide) ?_
    refine z_sipush dX11_isScheme_11 (by decide) ?_
    refine z_S3i dX11_isScheme_14 ok_X11_within lk_X11_83 (Nat.le_of_ble_eq_true rfl) (by decide) (cm_X11_within) (fun z2 m1 hm1 => ?_)
    obtain ⟨hz2, rfl⟩ := hm1
    refine z_if_eq 34 dX11_isScheme_17 (by decide) (fun h17 => ?_) (fun h17 => ?_)
    · refine z_iconst dX11_isScheme_34 (by decide) ?_
      refine z_zret dX11_isScheme_35 rfl (by first | exact Or.inl rfl | exact Or.inr rfl | assumption | (split <;> simp) | omega) ?_
      exact ⟨rfl, _, rfl, by omega, rfl⟩
    · refine z_iload_n dX11_isScheme_20 rfl ?_
      refine z_iconst dX11_isScheme_21 (by decide) ?_
      refine z_bipush dX11_isScheme_22 (by decide) ?_
      refine z_S3i dX11_isScheme_24 ok_X11_within lk_X11_83 (Nat.le_of_ble_eq_true rfl) (by decide) (cm_X11_within) (fun z3 m1 hm1 => ?_)
      obtain ⟨hz3, rfl⟩ := hm1
      refine z_if_eq 34 dX11_isScheme_27 (by decide) (fun h27 => ?_) (fun h27 => ?_)
      · refine z_iconst dX11_isScheme_34 (by decide) ?_
        refine z_zret dX11_isScheme_35 rfl (by first | exact Or.inl rfl | exact Or.inr rfl | assumption | (split <;> simp) | omega) ?_
        exact ⟨rfl, _, rfl, by omega, rfl⟩
      · refine z_iconst dX11_isScheme_30 (by decide) ?_
        refine z_goto 35 dX11_isScheme_31 (by decide) ?_
        refine z_zret dX11_isScheme_35 rfl (by first | exact Or.inl rfl | exact Or.inr rfl | assumption | (split <;> simp) | omega) ?_
        exact ⟨rfl, _, rfl, by omega, rfl⟩
theorem cm_X11_isPart {a b : Int} : CM X (0, 0) 0 mX11_isPart G [vi a, vi b] mem (pI G fun z m => bT z (1 ≤ a ∧ a ≤ b ∧ b ≤ 1000) ∧ m = mem) := by
  refine CM.of (by decide +kernel) 0 (Nat.le_of_ble_eq_true rfl) ?_
  show ZZ X (0, 0) 0 mX11_isPart G 0 [vi a, vi b] [] mem _
  refine z_iload_n dX11_isPart_0 rfl ?_
  refine z_if_le 20 dX11_isPart_1 (by decide) (fun h1 => ?_) (fun h1 => ?_)
  · refine z_iconst dX11_isPart_20 (by decide) ?_
    refine z_zret dX11_isPart_21 rfl (by first | exact Or.inl rfl | exact Or.inr rfl | assumption | (split <;> simp) | omega) ?_
    exact ⟨rfl, _, rfl, by omega, rfl⟩
  · refine z_iload_n dX11_isPart_4 rfl ?_
    refine z_iload_n dX11_isPart_5 rfl ?_
    refine z_icmp_gt 20 dX11_isPart_6 (by decide) (fun h6 => ?_) (fun h6 => ?_)
    · refine z_iconst dX11_isPart_20 (by decide) ?_
      refine z_zret dX11_isPart_21 rfl (by first | exact Or.inl rfl | exact Or.inr rfl | assumption | (split <;> simp) | omega) ?_
      exact ⟨rfl, _, rfl, by omega, rfl⟩
    · refine z_iload_n dX11_isPart_9 rfl ?_
      refine z_sipush dX11_isPart_10 (by decide) ?_
      refine z_icmp_gt 20 dX11_isPart_13 (by decide) (fun h13 => ?_) (fun h13 => ?_)
      · refine z_iconst dX11_isPart_20 (by decide) ?_
        refine z_zret dX11_isPart_21 rfl (by first | exact Or.inl rfl | exact Or.inr rfl | assumption | (split <;> simp) | omega) ?_
        exact ⟨rfl, _, rfl, by omega, rfl⟩
      · refine z_iconst dX11_isPart_16 (by decide) ?_
        refine z_goto 21 dX11_isPart_17 (by decide) ?_
        refine z_zret dX11_isPart_21 rfl (by first | exact Or.inl rfl | exact Or.inr rfl | assumption | (split <;> simp) | omega) ?_
        exact ⟨rfl, _, rfl, by omega, rfl⟩
theorem cm_X11_placeOf {n f s : Int} (hs : 0 < s) (h0 : f ≤ n) (hn : n ≤ 9999) (hf : 0 ≤ f) : CM X (0, 0) 0 mX11_placeOf G [vi n, vi f, vi s] mem (pI G fun z m => z = (n - f) / s ∧ m = mem) := by
  refine CM.of (by decide +kernel) 0 (Nat.le_of_ble_eq_true rfl) ?_
  show ZZ X (0, 0) 0 mX11_placeOf G 0 [vi n, vi f, vi s] [] mem _
  refine z_iload_n dX11_placeOf_0 rfl ?_
  refine z_if_le 12 dX11_placeOf_1 (by decide) (fun h1 => ?_) (fun h1 => ?_)
  · omega
  · refine z_iload_n dX11_placeOf_4 rfl ?_
    refine z_iload_n dX11_placeOf_5 rfl ?_
    refine z_isub dX11_placeOf_6 (by omega) ?_
    refine z_iload_n dX11_placeOf_7 rfl ?_
    refine z_idiv dX11_placeOf_8 (by omega) (by omega) ?_
    refine z_goto 13 dX11_placeOf_9 (by decide) ?_
    refine z_iret dX11_placeOf_13 rfl ?_
    exact ⟨rfl, _, rfl, rfl, rfl⟩
theorem cm_X12_in {v lo hi : Int} : CM X (0, 0) 0 mX12_in G [vl v, vl lo, vl hi] mem (pI G fun z m => bT z (lo ≤ v ∧ v ≤ hi) ∧ m = mem) := by
  refine CM.of (by decide +kernel) 0 (Nat.le_of_ble_eq_true rfl) ?_
  show ZZ X (0, 0) 0 mX12_in G 0 [vl v, vd, vl lo, vd, vl hi, vd] [] mem _
  refine z_lload_n dX12_in_0 rfl ?_
  refine z_lload_n dX12_in_1 rfl ?_
  refine z_lcmp dX12_in_2 ?_
  refine z_if_lt 17 dX12_in_3 (by decide) (fun h3 => ?_) (fun h3 => ?_)
  · rw [lc_lt] at h3
    refine z_iconst dX12_in_17 (by decide) ?_
    refine z_zret dX12_in_18 rfl (by first | exact Or.inl rfl | exact Or.inr rfl | assumption | (split <;> simp) | omega) ?_
    exact ⟨rfl, _, rfl, by omega, rfl⟩
  · rw [lc_lt] at h3
    refine z_lload_n dX12_in_6 rfl ?_
    refine z_lload dX12_in_7 rfl ?_
    refine z_lcmp dX12_in_9 ?_
    refine z_if_gt 17 dX12_in_10 (by decide) (fun h10 => ?_) (fun h10 => ?_)
    · rw [lc_gt] at h10
      refine z_iconst dX12_in_17 (by decide) ?_
      refine z_zret dX12_in_18 rfl (by first | exact Or.inl rfl | exact Or.inr rfl | assumption | (split <;> simp) | omega) ?_
      exact ⟨rfl, _, rfl, by omega, rfl⟩
    · rw [lc_gt] at h10
      refine z_iconst dX12_in_13 (by decide) ?_
      refine z_goto 18 dX12_in_14 (by decide) ?_
      refine z_zret dX12_in_18 rfl (by first | exact Or.inl rfl | exact Or.inr rfl | assumption | (split <;> simp) | omega) ?_
      exact ⟨rfl, _, rfl, by omega, rfl⟩
theorem cm_X12_isMaker {mk : Int} : CM X (0, 0) 1 mX12_isMaker G [vi mk] mem (pI G fun z m => bT z (0 ≤ mk ∧ mk ≤ 5) ∧ m = mem) := by
  refine CM.of (by decide +kernel) 0 (Nat.le_of_ble_eq_true rfl) ?_
  show ZZ X (0, 0) 1 mX12_isMaker G 0 [vi mk] [] mem _
  refine z_iload_n dX12_isMaker_0 rfl ?_
  refine z_i2l dX12_isMaker_1 ?_
  refine z_lconst (z := 0) dX12_isMaker_2 rfl (by decide) ?_
  refine z_ldc2 (z := 5) dX12_isMaker_3 kc_X12_101 (by decide) ?_
  refine z_S3i dX12_isMaker_6 ok_X12_in lk_X12_97 (Nat.le_of_ble_eq_true rfl) (by decide) (cm_X12_in) (fun z1 m1 hm1 => ?_)
  obtain ⟨hz1, rfl⟩ := hm1
  refine z_zret dX12_isMaker_9 rfl (by first | exact Or.inl rfl | exact Or.inr rfl | assumption | (split <;> simp) | omega) ?_
  exact ⟨rfl, _, rfl, hz1, rfl⟩
theorem cm_X12_isScheme {f s : Int} : CM X (0, 0) 1 mX12_isScheme G [vi f, vi s] mem (pI G fun z m => bT z (0 ≤ f ∧ f ≤ 9999 ∧ 1 ≤ s ∧ s ≤ 99) ∧ m = mem) := by
  refine CM.of (by decide +kernel) 0 (Nat.le_of_ble_eq_true rfl) ?_
  show ZZ X (0, 0) 1 mX12_isScheme G 0 [vi f, vi s] [] mem _
  refine z_iload_n dX12_isScheme_0 rfl ?_
  refine z_i2l dX12_isScheme_1 ?_
  refine z_lconst (z := 0) dX12_isScheme_2 rfl (by decide) ?_
  refine z_ldc2 (z := 9999) dX12_isScheme_3 kc_X12_106 (by decide) ?_
  refine z_S3i dX12_isScheme_6 ok_X12_in lk_X12_97 (Nat.le_of_ble_eq_true rfl) (by decide) (cm_X12_in) (fun z1 m1 hm1 => ?_)
  obtain ⟨hz1, rfl⟩ := hm1
  refine z_if_eq 28 dX12_isScheme_9 (by decide) (fun h9 => ?_) (fun h9 => ?_)
  · refine z_iconst dX12_isScheme_28 (by decide) ?_
    refine z_zret dX12_isScheme_29 rfl (by first | exact Or.inl rfl | exact Or.inr rfl | assumption | (split <;> simp) | omega) ?_
    exact ⟨rfl, _, rfl, by omega, rfl⟩
  · refine z_iload_n dX12_isScheme_12 rfl ?_
    refine z_i2l dX12_isScheme_13 ?_
    refine z_lconst (z := 1) dX12_isScheme_14 rfl (by decide) ?_
    refine z_ldc2 (z := 99) dX12_isScheme_15 kc_X12_143 (by decide) ?_
    refine z_S3i dX12_isScheme_18 ok_X12_in lk_X12_97 (Nat.le_of_ble_eq_true rfl) (by decide) (cm_X12_in) (fun z2 m1 hm1 => ?_)
    obtain ⟨hz2, rfl⟩ := hm1
    refine z_if_eq 28 dX12_isScheme_21 (by decide) (fun h21 => ?_) (fun h21 => ?_)
    · refine z_iconst dX12_isScheme_28 (by decide) ?_
      refine z_zret dX12_isScheme_29 rfl (by first | exact Or.inl rfl | exact Or.inr rfl | assumption | (split <;> simp) | omega) ?_
      exact ⟨rfl, _, rfl, by omega, rfl⟩
    · refine z_iconst dX12_isScheme_24 (by decide) ?_
      refine z_goto 29 dX12_isScheme_25 (by decide) ?_
      refine z_zret dX12_isScheme_29 rfl (by first | exact Or.inl rfl | exact Or.inr rfl | assumption | (split <;> simp) | omega) ?_
      exact ⟨rfl, _, rfl, by omega, rfl⟩
theorem cm_X12_isPart {a b : Int} : CM X (0, 0) 1 mX12_isPart G [vi a, vi b] mem (pI G fun z m => bT z (1 ≤ a ∧ a ≤ b ∧ b ≤ 1000) ∧ m = mem) := by
  refine CM.of (by decide +kernel) 0 (Nat.le_of_ble_eq_true rfl) ?_
  show ZZ X (0, 0) 1 mX12_isPart G 0 [vi a, vi b] [] mem _
  refine z_iload_n dX12_isPart_0 rfl ?_
  refine z_i2l dX12_isPart_1 ?_
  refine z_lconst (z := 1) dX12_isPart_2 rfl (by decide) ?_
  refine z_ldc2 (z := 1000) dX12_isPart_3 kc_X12_188 (by decide) ?_
  refine z_S3i dX12_isPart_6 ok_X12_in lk_X12_97 (Nat.le_of_ble_eq_true rfl) (by decide) (cm_X12_in) (fun z1 m1 hm1 => ?_)
  obtain ⟨hz1, rfl⟩ := hm1
  refine z_if_eq 27 dX12_isPart_9 (by decide) (fun h9 => ?_) (fun h9 => ?_)
  · refine z_iconst dX12_isPart_27 (by decide) ?_
    refine z_zret dX12_isPart_28 rfl (by first | exact Or.inl rfl | exact Or.inr rfl | assumption | (split <;> simp) | omega) ?_
    exact ⟨rfl, _, rfl, by omega, rfl⟩
  · refine z_iload_n dX12_isPart_12 rfl ?_
    refine z_i2l dX12_isPart_13 ?_
    refine z_lconst (z := 1) dX12_isPart_14 rfl (by decide) ?_
    refine z_iload_n dX12_isPart_15 rfl ?_
    refine z_i2l dX12_isPart_16 ?_
    refine z_S3i dX12_isPart_17 ok_X12_in lk_X12_97 (Nat.le_of_ble_eq_true rfl) (by decide) (cm_X12_in) (fun z2 m1 hm1 => ?_)
    obtain ⟨hz2, rfl⟩ := hm1
    refine z_if_eq 27 dX12_isPart_20 (by decide) (fun h20 => ?_) (fun h20 => ?_)
    · refine z_iconst dX12_isPart_27 (by decide) ?_
      refine z_zret dX12_isPart_28 rfl (by first | exact Or.inl rfl | exact Or.inr rfl | assumption | (split <;> simp) | omega) ?_
      exact ⟨rfl, _, rfl, by omega, rfl⟩
    · refine z_iconst dX12_isPart_23 (by decide) ?_
      refine z_goto 28 dX12_isPart_24 (by decide) ?_
      refine z_zret dX12_isPart_28 rfl (by first | exact Or.inl rfl | exact Or.inr rfl | assumption | (split <;> simp) | omega) ?_
      exact ⟨rfl, _, rfl, by omega, rfl⟩
-- the finds: six rows of the class, one row of the reference
def finC (mem : Mem) (nf : Nat) (fd : Nat → Nat → Int) : Prop := nf ≤ 60 ∧ mem 1 6 = (nf : Int) ∧ (∀ k i : Nat, k < 6 → i < nf → mem (2 + k) (i : Int) = fd k i) ∧ (∀ i : Nat, nf ≤ i → i < 60 → mem 7 (i : Int) = 0)
def finM (mem : Mem) (nf : Nat) (fd : Nat → Nat → Int) : Prop := nf ≤ 60 ∧ mem 88 3 = (nf : Int) ∧ (∀ k i : Nat, k < 6 → i < nf → mem 91 (6 * (i : Int) + (k : Int)) = fd k i)
def finR (nf : Nat) (fd : Nat → Nat → Int) : Prop := ∀ i : Nat, i < nf → (0 ≤ fd 0 i ∧ fd 0 i ≤ 5) ∧ (0 ≤ fd 1 i ∧ fd 1 i ≤ 9999) ∧ (-1 ≤ fd 2 i ∧ fd 2 i ≤ 29) ∧ (-1 ≤ fd 3 i ∧ fd 3 i ≤ 19) ∧ (0 ≤ fd 4 i ∧ fd 4 i ≤ 3) ∧ (fd 5 i = 0 ∨ fd 5 i = 1)
variable {nf : Nat} {fd : Nat → Nat → Int}
theorem cm_X3_countsFor {i : Nat} {mk : Int} (hf : finC mem nf fd) (hi : i < nf) : CM X (0, 0) 0 mX3_countsFor G0 [vr 1, vi (i : Int), vi mk] mem (pI G0 fun z m => bT z (fd 0 i = mk ∧ fd 5 i = 0) ∧ m = mem) := by
  obtain ⟨hn, hs, hrow, -⟩ := hf
  refine CM.of (by decide +kernel) 0 (Nat.le_of_ble_eq_true rfl) ?_
  show ZZ X (0, 0) 0 mX3_countsFor G0 0 [vr 1, vi (i : Int), vi mk] [] mem _
  refine z_iload_n dX3_countsFor_0 rfl ?_
  refine z_if_lt 35 dX3_countsFor_1 (by decide) (fun h1 => ?_) (fun h1 => ?_)
  · refine z_iconst dX3_countsFor_35 (by decide) ?_
    refine z_zret dX3_countsFor_36 rfl (by first | exact Or.inl rfl | exact Or.inr rfl | assumption | (split <;> simp) | omega) ?_
    exact ⟨rfl, _, rfl, by omega, rfl⟩
  · refine z_iload_n dX3_countsFor_4 rfl ?_
    refine z_aload_n dX3_countsFor_5 rfl ?_
    refine z_gI 6 dX3_countsFor_6 fl_X3_31 (by first | rfl | assumption) rfl rfl ?_
    rw [hs]
    refine z_icmp_ge 35 dX3_countsFor_9 (by decide) (fun h9 => ?_) (fun h9 => ?_)
    · refine z_iconst dX3_countsFor_35 (by decide) ?_
      refine z_zret dX3_countsFor_36 rfl (by first | exact Or.inl rfl | exact Or.inr rfl | assumption | (split <;> simp) | omega) ?_
      exact ⟨rfl, _, rfl, by omega, rfl⟩
    · refine z_aload_n dX3_countsFor_12 rfl ?_
      refine z_getR (ty := .int) dX3_countsFor_13 fl_X3_11 (by first | rfl | assumption) rfl rfl ?_
      refine z_iload_n dX3_countsFor_16 rfl ?_
      refine z_iald dX3_countsFor_17 (by first | rfl | assumption) (by omega) (by omega) ?_
      rw [show mem 2 (i : Int) = fd 0 i from hrow 0 i (by decide) hi]
      refine z_iload_n dX3_countsFor_18 rfl ?_
      refine z_icmp_ne 35 dX3_countsFor_19 (by decide) (fun h19 => ?_) (fun h19 => ?_)
      · refine z_iconst dX3_countsFor_35 (by decide) ?_
        refine z_zret dX3_countsFor_36 rfl (by first | exact Or.inl rfl | exact Or.inr rfl | assumption | (split <;> simp) | omega) ?_
        exact ⟨rfl, _, rfl, by omega, rfl⟩
      · refine z_aload_n dX3_countsFor_22 rfl ?_
        refine z_getR (ty := .int) dX3_countsFor_23 fl_X3_27 (by first | rfl | assumption) rfl rfl ?_
        refine z_iload_n dX3_countsFor_26 rfl ?_
        refine z_zald dX3_countsFor_27 (by first | rfl | assumption) (by omega) (by omega) (fun h27 => ?_)
        rw [show mem 7 (i : Int) = fd 5 i from hrow 5 i (by decide) hi] at h27 ⊢
        refine z_if_ne 35 dX3_countsFor_28 (by decide) (fun h28 => ?_) (fun h28 => ?_)
        · refine z_iconst dX3_countsFor_35 (by decide) ?_
          refine z_zret dX3_countsFor_36 rfl (by first | exact Or.inl rfl | exact Or.inr rfl | assumption | (split <;> simp) | omega) ?_
          exact ⟨rfl, _, rfl, by omega, rfl⟩
        · refine z_iconst dX3_countsFor_31 (by decide) ?_
          refine z_goto 36 dX3_countsFor_32 (by decide) ?_
          refine z_zret dX3_countsFor_36 rfl (by first | exact Or.inl rfl | exact Or.inr rfl | assumption | (split <;> simp) | omega) ?_
          exact ⟨rfl, _, rfl, by omega, rfl⟩
theorem cm_X12_of {i k : Nat} (hf : finM mem nf fd) (hi : i < nf) (hk : k < 6) : CM X (0, 0) 0 mX12_of G0 [vr 88, vi (i : Int), vi (k : Int)] mem (pI G0 fun z m => z = fd k i ∧ m = mem) := by
  obtain ⟨hn, hs, hrow⟩ := hf
  refine CM.of (by decide +kernel) 0 (Nat.le_of_ble_eq_true rfl) ?_
  show ZZ X (0, 0) 0 mX12_of G0 0 [vr 88, vi (i : Int), vi (k : Int)] [] mem _
  refine z_aload_n dX12_of_0 rfl ?_
  refine z_getR (ty := .int) dX12_of_1 fl_X12_16 (by first | rfl | assumption) rfl rfl ?_
  refine z_bipush dX12_of_4 (by decide) ?_
  refine z_iload_n dX12_of_6 rfl ?_
  refine z_imul dX12_of_7 (by omega) ?_
  refine z_iload_n dX12_of_8 rfl ?_
  refine z_iadd dX12_of_9 (by omega) ?_
  refine z_iald dX12_of_10 (by first | rfl | assumption) (by omega) (by omega) ?_
  rw [hrow k i hk hi]
  refine z_iret dX12_of_11 rfl ?_
  exact ⟨rfl, _, rfl, rfl, rfl⟩
theorem cm_X12_counts {i : Nat} {mk : Int} (hf : finM mem nf fd) (hi : i < nf) : CM X (0, 0) 1 mX12_counts G0 [vr 88, vi (i : Int), vi mk] mem (pI G0 fun z m => bT z (fd 0 i = mk ∧ fd 5 i = 0) ∧ m = mem) := by
  refine CM.of (by decide +kernel) 0 (Nat.le_of_ble_eq_true rfl) ?_
  show ZZ X (0, 0) 1 mX12_counts G0 0 [vr 88, vi (i : Int), vi mk] [] mem _
  refine z_aload_n dX12_counts_0 rfl ?_
  refine z_iload_n dX12_counts_1 rfl ?_
  refine z_iconst dX12_counts_2 (by decide) ?_
  refine z_V2i dX12_counts_3 ok_X12_of lk_X12_122 (by first | rfl | assumption) rfl rfl (Nat.le_of_ble_eq_true rfl) (by decide) (cm_X12_of (k := 0) hf hi (by decide)) (fun z1 m1 hm1 => ?_)
  obtain ⟨rfl, rfl⟩ := hm1
  refine z_iload_n dX12_counts_6 rfl ?_
  refine z_icmp_ne 23 dX12_counts_7 (by decide) (fun h7 => ?_) (fun h7 => ?_)
  · refine z_iconst dX12_counts_23 (by decide) ?_
    refine z_zret dX12_counts_24 rfl (by first | exact Or.inl rfl | exact Or.inr rfl | assumption | (split <;> simp) | omega) ?_
    exact ⟨rfl, _, rfl, by omega, rfl⟩
  · refine z_aload_n dX12_counts_10 rfl ?_
    refine z_iload_n dX12_counts_11 rfl ?_
    refine z_iconst dX12_counts_12 (by decide) ?_
    refine z_V2i dX12_counts_13 ok_X12_of lk_X12_122 (by first | rfl | assumption) rfl rfl (Nat.le_of_ble_eq_true rfl) (by decide) (cm_X12_of (k := 5) hf hi (by decide)) (fun z1 m1 hm1 => ?_)
    obtain ⟨rfl, rfl⟩ := hm1
    refine z_if_ne 23 dX12_counts_16 (by decide) (fun h16 => ?_) (fun h16 => ?_)
    · refine z_iconst dX12_counts_23 (by decide) ?_
      refine z_zret dX12_counts_24 rfl (by first | exact Or.inl rfl | exact Or.inr rfl | assumption | (split <;> simp) | omega) ?_
      exact ⟨rfl, _, rfl, by omega, rfl⟩
    · refine z_iconst dX12_counts_19 (by decide) ?_
      refine z_goto 24 dX12_counts_20 (by decide) ?_
      refine z_zret dX12_counts_24 rfl (by first | exact Or.inl rfl | exact Or.inr rfl | assumption | (split <;> simp) | omega) ?_
      exact ⟨rfl, _, rfl, by omega, rfl⟩
theorem cm_X12_isFind {i : Int} (hf : finM mem nf fd) : CM X (0, 0) 1 mX12_isFind G0 [vr 88, vi i] mem (pI G0 fun z m => bT z (0 ≤ i ∧ i < (nf : Int)) ∧ m = mem) := by
  obtain ⟨hn, hs, hrow⟩ := hf
  refine CM.of (by decide +kernel) 0 (Nat.le_of_ble_eq_true rfl) ?_
  show ZZ X (0, 0) 1 mX12_isFind G0 0 [vr 88, vi i] [] mem _
  refine z_iload_n dX12_isFind_0 rfl ?_
  refine z_i2l dX12_isFind_1 ?_
  refine z_lconst (z := 0) dX12_isFind_2 rfl (by decide) ?_
  refine z_aload_n dX12_isFind_3 rfl ?_
  refine z_gI 3 dX12_isFind_4 fl_X12_116 (by first | rfl | assumption) rfl rfl ?_
  rw [hs]
  refine z_iconst dX12_isFind_7 (by decide) ?_
  refine z_isub dX12_isFind_8 (by omega) ?_
  refine z_i2l dX12_isFind_9 ?_
  refine z_S3i dX12_isFind_10 ok_X12_in lk_X12_97 (Nat.le_of_ble_eq_true rfl) (by decide) (cm_X12_in) (fun z1 m1 hm1 => ?_)
  obtain ⟨hz1, rfl⟩ := hm1
  refine z_zret dX12_isFind_13 rfl (by first | exact Or.inl rfl | exact Or.inr rfl | assumption | (split <;> simp) | omega) ?_
  exact ⟨rfl, _, rfl, by omega, rfl⟩
theorem cm_X12_divisor {a b : Nat} (ha : (a : Int) < 2147483648) (hb : (b : Int) < 2147483648) : CM X (0, 0) 0 mX12_divisor G [vi (a : Int), vi (b : Int)] mem (pI G fun z m => z = ((Nat.gcd a b : Nat) : Int) ∧ m = mem) := by
  refine CM.of (by decide +kernel) 3 (Nat.le_of_ble_eq_true rfl) ?_
  show ZZ X (0, 0) 0 mX12_divisor G 0 [vi (a : Int), vi (b : Int), vd, vd, vd] [] mem _
  have loop : ∀ (N x y : Nat) (w : VV), y ≤ N → (x : Int) < 2147483648 ∧ (y : Int) < 2147483648 → Nat.gcd x y = Nat.gcd a b → (∀ z, w ≠ vl z) →
      ZZ X (0, 0) 0 mX12_divisor G 4 [vi (a : Int), vi (b : Int), vi (x : Int), vi (y : Int), w] [] mem (pI G fun z m => z = ((Nat.gcd a b : Nat) : Int) ∧ m = mem) := by
    intro N
    induction N with
    | zero =>
      intro x y w hy hx hg hw
      have : y = 0 := by omega
      subst this
      rw [Nat.gcd_zero_right] at hg
      refine z_iload_n dX12_divisor_4 rfl ?_
      refine z_if_eq 21 dX12_divisor_5 (by decide) (fun h5 => ?_) (fun h5 => ?_)
      · refine z_iload_n dX12_divisor_21 rfl ?_
        refine z_iret dX12_divisor_22 rfl ?_
        exact ⟨rfl, _, rfl, by rw [hg], rfl⟩
      · omega
    | succ N ih =>
      intro x y w hy hx hg hw
      refine z_kill 4 ?_
      dsimp only [List.set]
      refine z_iload_n dX12_divisor_4 rfl ?_
      refine z_if_eq 21 dX12_divisor_5 (by decide) (fun h5 => ?_) (fun h5 => ?_)
      · have : y = 0 := by omega
        subst this
        rw [Nat.gcd_zero_right] at hg
        refine z_iload_n dX12_divisor_21 rfl ?_
        refine z_iret dX12_divisor_22 rfl ?_
        exact ⟨rfl, _, rfl, by rw [hg], rfl⟩
      · refine z_iload_n dX12_divisor_8 rfl ?_
        refine z_iload_n dX12_divisor_9 rfl ?_
        refine z_iremp dX12_divisor_10 (by omega) (by omega) ?_
        rw [← Int.natCast_emod]
        have hr1 := Nat.mod_lt x (show 0 < y by omega)
        refine z_istore dX12_divisor_11 (by decide) rfl ?_
        dsimp only [List.set]
        refine z_iload_n dX12_divisor_13 rfl ?_
        refine z_istore_n dX12_divisor_14 (by decide) rfl ?_
        dsimp only [List.set]
        refine z_iload dX12_divisor_15 rfl ?_
        refine z_istore_n dX12_divisor_17 (by decide) rfl ?_
        dsimp only [List.set]
        refine z_goto 4 dX12_divisor_18 (by decide) ?_
        exact ih y (x % y) _ (by omega) ⟨by omega, by omega⟩ (by rw [← hg, Nat.gcd_comm x y, Nat.gcd_rec y x, Nat.gcd_comm]) (by intro z q; cases q)
  refine z_iload_n dX12_divisor_0 rfl ?_
  refine z_istore_n dX12_divisor_1 (by decide) rfl ?_
  dsimp only [List.set]
  refine z_iload_n dX12_divisor_2 rfl ?_
  refine z_istore_n dX12_divisor_3 (by decide) rfl ?_
  dsimp only [List.set]
  exact loop b a b _ (Nat.le_refl b) ⟨ha, hb⟩ rfl (by intro z q; cases q)
theorem cm_X12_mixed {a n L : Nat} {h : Int} {rs : List (Option Nat)} (hg : G[a]? = some (1, L, rs)) (hn : n ≤ L) (hL : L < 1000000) : CM X (0, 0) 0 mX12_mixed G [vl h, vr a, vi (n : Int)] mem (pL G fun z m => z = mxF (mem a) n h ∧ m = mem) := by
  refine CM.of (by decide +kernel) 3 (Nat.le_of_ble_eq_true rfl) ?_
  show ZZ X (0, 0) 0 mX12_mixed G 0 [vl h, vd, vr a, vi (n : Int), vd, vd, vd] [] mem _
  have loop : ∀ (k i : Nat), k + i = n →
      ZZ X (0, 0) 0 mX12_mixed G 6 [vl h, vd, vr a, vi (n : Int), vl (mxF (mem a) i h), vd, vi (i : Int)] [] mem (pL G fun z m => z = mxF (mem a) n h ∧ m = mem) := by
    intro k
    induction k with
    | zero =>
      intro i hk
      have hi : i = n := by omega
      subst hi
      refine z_iload dX12_mixed_6 rfl ?_
      refine z_iload_n dX12_mixed_8 rfl ?_
      refine z_icmp_ge 32 dX12_mixed_9 (by decide) (fun h9 => ?_) (fun h9 => ?_)
      · refine z_lload dX12_mixed_32 rfl ?_
        refine z_lret dX12_mixed_34 rfl ?_
        exact ⟨rfl, _, rfl, rfl, rfl⟩
      · omega
    | succ k ih =>
      intro i hk
      refine z_iload dX12_mixed_6 rfl ?_
      refine z_iload_n dX12_mixed_8 rfl ?_
      refine z_icmp_ge 32 dX12_mixed_9 (by decide) (fun h9 => ?_) (fun h9 => ?_)
      · omega
      · refine z_ldc2 (z := 31) dX12_mixed_12 kc_X12_308 (by decide) ?_
        refine z_lload dX12_mixed_15 rfl ?_
        refine z_lmulw dX12_mixed_17 ?_
        refine z_aload_n dX12_mixed_18 rfl ?_
        refine z_iload dX12_mixed_19 rfl ?_
        refine z_iald dX12_mixed_21 (by first | rfl | assumption) (by omega) (by omega) ?_
        refine z_i2l dX12_mixed_22 ?_
        refine z_laddw dX12_mixed_23 ?_
        refine z_lstore dX12_mixed_24 (by decide) rfl ?_
        dsimp only [List.set]
        refine z_iinc dX12_mixed_26 rfl (by omega) (by decide) rfl ?_
        dsimp only [List.set]
        refine z_goto 6 dX12_mixed_29 (by decide) ?_
        exact ih (i + 1) (by omega)
  refine z_lload_n dX12_mixed_0 rfl ?_
  refine z_lstore dX12_mixed_1 (by decide) rfl ?_
  dsimp only [List.set]
  refine z_iconst dX12_mixed_3 (by decide) ?_
  refine z_istore dX12_mixed_4 (by decide) rfl ?_
  dsimp only [List.set]
  exact loop n 0 (by omega)
end Help
