/-! ===== Sureness.begin: its first half ===== -/
def ppN : Nat → Nat
  | 0 => 1
  | i + 1 => ppN i * (ppF (i : Int)).toNat
theorem pp_ok : ∀ i : Fin 35, 0 ≤ ppF ((i.val : Nat) : Int) ∧ ppF ((i.val : Nat) : Int) < 200 ∧ (ppN i.val : Int) * ppF ((i.val : Nat) : Int) < zB ^ 64 := by decide +kernel
theorem pp_all : ppN 35 = wP := by decide +kernel
theorem wS_le (k d : Nat) : wS k d ≤ wP := by
  induction d with
  | zero => exact Nat.le_refl _
  | succ d ih => exact Nat.le_trans (wS_fall k d) ih
theorem wP_lt : ((wP * 1000 : Nat) : Int) < zB ^ 64 := by decide +kernel
section Begin
variable {X : Nat × (Int → Int)} {mem : Mem}
theorem cm_X9_begin : CM X (0, 0) 2 mX9_begin G0 [vr 10] mem (pV G0 fun m => natAt m 11 wP ∧ onN 11 mem m) := by
  refine CM.of (by decide +kernel) 4 (Nat.le_of_ble_eq_true rfl) ?_
  show ZZ X (0, 0) 2 mX9_begin G0 0 [vr 10, vd, vd, vd, vd] [] mem _
  have one : ∀ (d i : Nat) (m : Mem) (u4 : VV), i + d = 35 → natAt m 11 (ppN i) → onN 11 mem m → (∀ z, u4 ≠ vl z) → ZZ X (0, 0) 2 mX9_begin G0 17 [vr 10, vc 0, vi 35, vi (i : Int), u4] [] m (pV G0 fun m => natAt m 11 wP ∧ onN 11 mem m) := by
    intro d
    induction d with
    | zero =>
      intro i m u4 hi hv hon hu
      have : i = 35 := by omega
      subst this
      rw [pp_all] at hv
      refine z_iload_n dX9_begin_17 rfl ?_
      refine z_iload_n dX9_begin_18 rfl ?_
      refine z_icmp_ge 42 dX9_begin_19 (by decide) (fun h19 => ?_) (fun h19 => ?_)
      · refine z_vret dX9_begin_42 rfl ?_
        exact ⟨rfl, rfl, hv, hon⟩
      · omega
    | succ d ih =>
      intro i m u4 hi hv hon hu
      obtain ⟨q1, q2, q3⟩ := pp_ok ⟨i, by omega⟩
      dsimp only at q1 q2 q3
      refine z_kill 4 ?_
      dsimp only [List.set]
      refine z_iload_n dX9_begin_17 rfl ?_
      refine z_iload_n dX9_begin_18 rfl ?_
      refine z_icmp_ge 42 dX9_begin_19 (by decide) (fun h19 => ?_) (fun h19 => ?_)
      · omega
      · refine z_sload_n dX9_begin_22 rfl ?_
        refine z_iload_n dX9_begin_23 rfl ?_
        refine z_sald dX9_begin_24 rfl (by omega) (by omega) ?_
        refine z_istore dX9_begin_25 (by decide) rfl ?_
        dsimp only [List.set]
        refine z_aload_n dX9_begin_27 rfl ?_
        refine z_getR (ty := .int) dX9_begin_28 fl_X9_10 (by first | rfl | assumption) rfl rfl ?_
        refine z_iload dX9_begin_31 rfl ?_
        refine z_V1v dX9_begin_33 ok_X8_multiply lk_X9_64 (by first | rfl | assumption) rfl rfl (Nat.le_of_ble_eq_true rfl) (by decide) (cm_X8_multiply isN_11 hv q1 (by omega) q3) (fun m2 hm2 => ?_)
        obtain ⟨n1, on1⟩ := hm2
        refine z_iinc dX9_begin_36 rfl (by omega) (by decide) rfl ?_
        dsimp only [List.set]
        refine z_goto 17 dX9_begin_39 (by decide) ?_
        exact ih (i + 1) _ _ (by omega) n1 (fun x h1 h2 => (on1 x h1 h2).trans (hon x h1 h2)) (by intro z q; cases q)
  refine z_aload_n dX9_begin_0 rfl ?_
  refine z_getR (ty := .int) dX9_begin_1 fl_X9_10 (by first | rfl | assumption) rfl rfl ?_
  refine z_lconst (z := 1) dX9_begin_4 rfl (by decide) ?_
  refine z_V1v dX9_begin_5 ok_X8_become lk_X9_41 (by first | rfl | assumption) rfl rfl (Nat.le_of_ble_eq_true rfl) (by decide) (cm_X8_become isN_11 (by decide) (by decide)) (fun m2 hm2 => ?_)
  refine z_gets _ sl_X9_71 dX9_begin_8 ?_
  refine z_sstore_n dX9_begin_11 (by decide) rfl ?_
  dsimp only [List.set]
  refine z_sload_n dX9_begin_12 rfl ?_
  refine z_slen dX9_begin_13 rfl ?_
  refine z_istore_n dX9_begin_14 (by decide) rfl ?_
  dsimp only [List.set]
  refine z_iconst dX9_begin_15 (by decide) ?_
  refine z_istore_n dX9_begin_16 (by decide) rfl ?_
  dsimp only [List.set]
  exact one 35 0 _ _ (by omega) hm2.1 hm2.2 (by intro z q; cases q)
end Begin
