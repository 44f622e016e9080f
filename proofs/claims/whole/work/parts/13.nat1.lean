/-! ===== Natural: at, append, trim, become, copy, multiply, divide, remainder, add, subtract ===== -/
section NatA
variable {X : Nat × (Int → Int)} {G : List GC} {o : Nat} {mem : Mem}
theorem cm_X8_at {n : Nat} {i : Int} (hN : isN G o) (hs : mem o 1 = (n : Int)) (hn : n ≤ 64) : CM X (0, 0) 0 mX8_at G [vr o, vi i] mem (pI G fun z m => z = (if 0 ≤ i ∧ i < (n : Int) then mem (o + 1) i else 0) ∧ m = mem) := by
  obtain ⟨hg, hg1⟩ := hN
  refine CM.of (by decide +kernel) 0 (Nat.le_of_ble_eq_true rfl) ?_
  show ZZ X (0, 0) 0 mX8_at G 0 [vr o, vi i] [] mem _
  refine z_iload_n dX8_at_0 rfl ?_
  refine z_if_lt 21 dX8_at_1 (by decide) (fun h1 => ?_) (fun h1 => ?_)
  · refine z_iconst dX8_at_21 (by decide) ?_
    refine z_iret dX8_at_22 rfl ?_
    refine ⟨rfl, _, rfl, ?_, rfl⟩
    first | (rw [if_pos ⟨by omega, by omega⟩]; done) | (rw [if_neg (by omega)]; done)
  · refine z_iload_n dX8_at_4 rfl ?_
    refine z_aload_n dX8_at_5 rfl ?_
    refine z_gI 1 dX8_at_6 fl_X8_13 (by first | rfl | assumption) rfl rfl ?_
    refine z_icmp_ge 21 dX8_at_9 (by decide) (fun h9 => ?_) (fun h9 => ?_)
    · refine z_iconst dX8_at_21 (by decide) ?_
      refine z_iret dX8_at_22 rfl ?_
      refine ⟨rfl, _, rfl, ?_, rfl⟩
      first | (rw [if_pos ⟨by omega, by omega⟩]; done) | (rw [if_neg (by omega)]; done)
    · refine z_aload_n dX8_at_12 rfl ?_
      refine z_getR (ty := .int) dX8_at_13 fl_X8_9 (by first | rfl | assumption) rfl rfl ?_
      refine z_iload_n dX8_at_16 rfl ?_
      refine z_iald dX8_at_17 (by first | rfl | assumption) (by omega) (by omega) ?_
      refine z_goto 22 dX8_at_18 (by decide) ?_
      refine z_iret dX8_at_22 rfl ?_
      refine ⟨rfl, _, rfl, ?_, rfl⟩
      first | (rw [if_pos ⟨by omega, by omega⟩]; done) | (rw [if_neg (by omega)]; done)
theorem cm_X8_append {n : Nat} {z : Int} (hN : isN G o) (hs : mem o 1 = (n : Int)) (hn : n ≤ 64) : CM X (0, 0) 0 mX8_append G [vr o, vi z] mem (pV G fun m => m = if n < 64 then mset (mset mem (o + 1) (n : Int) z) o 1 ((n : Int) + 1) else mem) := by
  obtain ⟨hg, hg1⟩ := hN
  refine CM.of (by decide +kernel) 0 (Nat.le_of_ble_eq_true rfl) ?_
  show ZZ X (0, 0) 0 mX8_append G 0 [vr o, vi z] [] mem _
  refine z_aload_n dX8_append_0 rfl ?_
  refine z_gI 1 dX8_append_1 fl_X8_13 (by first | rfl | assumption) rfl rfl ?_
  refine z_bipush dX8_append_4 (by decide) ?_
  refine z_icmp_ge 29 dX8_append_6 (by decide) (fun h6 => ?_) (fun h6 => ?_)
  · refine z_vret dX8_append_29 rfl ?_
    refine ⟨rfl, rfl, ?_⟩
    first | (rw [if_pos (by omega)]; done) | (rw [if_neg (by omega)]; done)
  · refine z_aload_n dX8_append_9 rfl ?_
    refine z_getR (ty := .int) dX8_append_10 fl_X8_9 (by first | rfl | assumption) rfl rfl ?_
    refine z_aload_n dX8_append_13 rfl ?_
    refine z_gI 1 dX8_append_14 fl_X8_13 (by first | rfl | assumption) rfl rfl ?_
    rw [hs]
    refine z_iload_n dX8_append_17 rfl ?_
    refine z_iast dX8_append_18 (by first | rfl | assumption) (by omega) (by omega) ?_
    refine z_aload_n dX8_append_19 rfl ?_
    refine z_dup dX8_append_20 (by intro z q; cases q) ?_
    refine z_gI 1 dX8_append_21 fl_X8_13 (by first | rfl | assumption) rfl rfl ?_
    rw [mset_ne _ (show o ≠ o + 1 by omega), hs]
    refine z_iconst dX8_append_24 (by decide) ?_
    refine z_iadd dX8_append_25 (by omega) ?_
    refine z_pI 1 dX8_append_26 fm_X8_13 (by first | rfl | assumption) rfl rfl ?_
    refine z_vret dX8_append_29 rfl ?_
    refine ⟨rfl, rfl, ?_⟩
    first | (rw [if_pos (by omega)]; done) | (rw [if_neg (by omega)]; done)
theorem cm_X8_trim {n : Nat} (hN : isN G o) (hs : mem o 1 = (n : Int)) (hn : n ≤ 64) : CM X (0, 0) 0 mX8_trim G [vr o] mem (pV G fun m => ∃ k : Nat, k ≤ n ∧ (∀ i : Nat, k ≤ i → i < n → mem (o + 1) (i : Int) = 0) ∧ (k = 0 ∨ mem (o + 1) ((k : Int) - 1) ≠ 0) ∧ m = mset mem o 1 (k : Int)) := by
  obtain ⟨hg, hg1⟩ := hN
  refine CM.of (by decide +kernel) 1 (Nat.le_of_ble_eq_true rfl) ?_
  show ZZ X (0, 0) 0 mX8_trim G 0 [vr o, vd] [] mem _
  have loop : ∀ j : Nat, j ≤ n → (∀ i : Nat, j ≤ i → i < n → mem (o + 1) (i : Int) = 0) → ZZ X (0, 0) 0 mX8_trim G 7 [vr o, vi ((j : Int) - 1)] [] (mset mem o 1 (j : Int)) (pV G fun m => ∃ k : Nat, k ≤ n ∧ (∀ i : Nat, k ≤ i → i < n → mem (o + 1) (i : Int) = 0) ∧ (k = 0 ∨ mem (o + 1) ((k : Int) - 1) ≠ 0) ∧ m = mset mem o 1 (k : Int)) := by
    intro j
    induction j with
    | zero =>
      intro hj hz
      refine z_iload_n dX8_trim_7 rfl ?_
      refine z_if_lt 31 dX8_trim_8 (by decide) (fun h8 => ?_) (fun h8 => ?_)
      · refine z_vret dX8_trim_31 rfl ?_
        exact ⟨rfl, rfl, 0, by omega, hz, Or.inl rfl, rfl⟩
      · omega
    | succ j ih =>
      intro hj hz
      refine z_iload_n dX8_trim_7 rfl ?_
      refine z_if_lt 31 dX8_trim_8 (by decide) (fun h8 => ?_) (fun h8 => ?_)
      · omega
      · refine z_aload_n dX8_trim_11 rfl ?_
        refine z_getR (ty := .int) dX8_trim_12 fl_X8_9 (by first | rfl | assumption) rfl rfl ?_
        refine z_iload_n dX8_trim_15 rfl ?_
        refine z_iald dX8_trim_16 (by first | rfl | assumption) (by omega) (by omega) ?_
        rw [mset_ne _ (show o + 1 ≠ o by omega)]
        refine z_if_ne 31 dX8_trim_17 (by decide) (fun h17 => ?_) (fun h17 => ?_)
        · refine z_vret dX8_trim_31 rfl ?_
          exact ⟨rfl, rfl, j + 1, hj, hz, Or.inr (by rw [show ((j + 1 : Nat) : Int) - 1 = (j : Int) by omega]; rw [show ((j + 1 : Nat) : Int) - 1 = (j : Int) by omega] at h17; exact h17), rfl⟩
        · refine z_aload_n dX8_trim_20 rfl ?_
          refine z_iload_n dX8_trim_21 rfl ?_
          refine z_pI 1 dX8_trim_22 fm_X8_13 (by first | rfl | assumption) rfl rfl ?_
          rw [mset_mset]
          refine z_iinc dX8_trim_25 rfl (by omega) (by decide) rfl ?_
          dsimp only [List.set]
          refine z_goto 7 dX8_trim_28 (by decide) ?_
          rw [show ((j + 1 : Nat) : Int) - 1 = (j : Int) by omega] at h17 ⊢
          exact ih (by omega) (fun i h1 h2 => by by_cases e : i = j; exact e ▸ h17; exact hz i (by omega) h2)
  refine z_aload_n dX8_trim_0 rfl ?_
  refine z_gI 1 dX8_trim_1 fl_X8_13 (by first | rfl | assumption) rfl rfl ?_
  rw [hs]
  refine z_iconst dX8_trim_4 (by decide) ?_
  refine z_isub dX8_trim_5 (by omega) ?_
  refine z_istore_n dX8_trim_6 (by decide) rfl ?_
  dsimp only [List.set]
  have h := loop n (Nat.le_refl n) (fun i h1 h2 => by omega)
  rw [mset_self hs] at h
  exact h
end NatA
