/-! ===== Sureness.begin: its first half ===== -/
def ppN : Nat → Nat
  | 0 => 1
  | i + 1 => ppN i * (ppF (i : Int)).toNat
theorem pp_ok : ∀ i : Fin 35, 0 ≤ ppF ((i.val : Nat) : Int) ∧ ppF ((i.val : Nat) : Int) < 200 ∧ (ppN i.val : Int) * ppF ((i.val : Nat) : Int) < zB ^ 64 := by decide +kernel
theorem pp_all : ppN 35 = wP := by decide +kernel
theorem wS_le (k d : Nat) : wS k d ≤ wP := by
  induction d with
  | zero => exact Nat.le_refl _
  | succ d ih => exact Nat.le_trans (wS_fall k d) ih
theorem wP_lt : ((wP * 1000 : Nat) : Int) < zB ^ 64 := by decide +kernel
section Begin
variable {X : Nat × (Int → Int)} {mem : Mem}
theorem cm_X9_begin {k lo hi : Nat} (hk : mem 10 3 = (k : Int)) (hl : mem 10 4 = (lo : Int)) (hh : mem 10 5 = (hi : Int)) (hk60 : k ≤ 60) (hkl : k ≤ lo) (hlh : lo ≤ hi) (hh150 : hi ≤ 150) : CM X (0, 0) 3 mX9_begin G0 [vr 10] mem (pV G0 fun m => natAt m 11 (wS k (lo - k)) ∧ onN 11 mem m) := by
  refine CM.of (by decide +kernel) 4 (Nat.le_of_ble_eq_true rfl) ?_
  show ZZ X (0, 0) 3 mX9_begin G0 0 [vr 10, vd, vd, vd, vd] [] mem _
  have two : ∀ (e d : Nat) (m : Mem) (u2 u3 u4 : VV), k + d + e = lo → natAt m 11 (wS k d) → onN 11 mem m → ZZ X (0, 0) 3 mX9_begin G0 49 [vr 10, vi ((k : Int) + (d : Int) + 1), u2, u3, u4] [] m (pV G0 fun m => natAt m 11 (wS k (lo - k)) ∧ onN 11 mem m) := by
    intro e
    induction e with
    | zero =>
      intro d m u2 u3 u4 hd hv hon
      have e10 := hon 10 (by decide) (by decide)
      have : d = lo - k := by omega
      subst this
      refine z_iload_n dX9_begin_49 rfl ?_
      refine z_aload_n dX9_begin_50 rfl ?_
      refine z_gI 4 dX9_begin_51 fl_X9_32 (by first | rfl | assumption) rfl rfl ?_
      rw [e10, hl]
      refine z_icmp_gt 68 dX9_begin_54 (by decide) (fun h54 => ?_) (fun h54 => ?_)
      · refine z_vret dX9_begin_68 rfl ?_
        exact ⟨rfl, rfl, hv, hon⟩
      · omega
    | succ e ih =>
      intro d m u2 u3 u4 hd hv hon
      have e10 := hon 10 (by decide) (by decide)
      have hb := wS_le k d
      refine z_iload_n dX9_begin_49 rfl ?_
      refine z_aload_n dX9_begin_50 rfl ?_
      refine z_gI 4 dX9_begin_51 fl_X9_32 (by first | rfl | assumption) rfl rfl ?_
      rw [e10, hl]
      refine z_icmp_gt 68 dX9_begin_54 (by decide) (fun h54 => ?_) (fun h54 => ?_)
      · omega
      · refine z_aload_n dX9_begin_57 rfl ?_
        refine z_iload_n dX9_begin_58 rfl ?_
        rw [show (k : Int) + (d : Int) + 1 = ((k + d + 1 : Nat) : Int) by omega]
        refine z_V1v dX9_begin_59 ok_X9_step lk_X9_49 (by first | rfl | assumption) rfl rfl (Nat.le_of_ble_eq_true rfl) (by decide) (cm_X9_step (k := k) (hi := hi) (by rw [e10]; exact hk) (by rw [e10]; exact hh) (by omega) (by omega) (by omega) hv (mulZ hb (by omega : k + d + 1 - k ≤ 1000) wP_lt)) (fun m2 hm2 => ?_)
        obtain ⟨n1, -, on1⟩ := hm2
        have n1' := n1 (by omega)
        rw [show k + d + 1 - k = d + 1 by omega] at n1'
        refine z_iinc dX9_begin_62 rfl (by omega) (by decide) rfl ?_
        dsimp only [List.set]
        refine z_goto 49 dX9_begin_65 (by decide) ?_
        rw [show ((k + d + 1 : Nat) : Int) + 1 = (k : Int) + ((d + 1 : Nat) : Int) + 1 by omega]
        exact ih (d + 1) _ _ _ _ (by omega) n1' (fun x h1 h2 => (on1 x h1 h2).trans (hon x h1 h2))
  have one : ∀ (d i : Nat) (m : Mem) (u4 : VV), i + d = 35 → natAt m 11 (ppN i) → onN 11 mem m → (∀ z, u4 ≠ vl z) → ZZ X (0, 0) 3 mX9_begin G0 17 [vr 10, vc 0, vi 35, vi (i : Int), u4] [] m (pV G0 fun m => natAt m 11 (wS k (lo - k)) ∧ onN 11 mem m) := by
    intro d
    induction d with
    | zero =>
      intro i m u4 hi hv hon hu
      have e10 := hon 10 (by decide) (by decide)
      have : i = 35 := by omega
      subst this
      rw [pp_all] at hv
      have h2 := two (lo - k) 0 m (vi 35) (vi 35) u4 (by omega) hv hon
      refine z_iload_n dX9_begin_17 rfl ?_
      refine z_iload_n dX9_begin_18 rfl ?_
      refine z_icmp_ge 42 dX9_begin_19 (by decide) (fun h19 => ?_) (fun h19 => ?_)
      · refine z_aload_n dX9_begin_42 rfl ?_
        refine z_gI 3 dX9_begin_43 fl_X9_22 (by first | rfl | assumption) rfl rfl ?_
        rw [e10, hk]
        refine z_iconst dX9_begin_46 (by decide) ?_
        refine z_iadd dX9_begin_47 (by omega) ?_
        refine z_istore_n dX9_begin_48 (by decide) rfl ?_
        dsimp only [List.set]
        rw [show (k : Int) + ((0 : Nat) : Int) + 1 = (k : Int) + 1 by omega] at h2
        exact h2
      · omega
    | succ d ih =>
      intro i m u4 hi hv hon hu
      obtain ⟨q1, q2, q3⟩ := pp_ok ⟨i, by omega⟩
      dsimp only at q1 q2 q3
      refine z_kill 4 ?_
      dsimp only [List.set]
      refine z_iload_n dX9_begin_17 rfl ?_
      refine z_iload_n dX9_begin_18 rfl ?_
      refine z_icmp_ge 42 dX9_begin_19 (by decide) (fun h19 => ?_) (fun h19 => ?_)
      · omega
      · refine z_sload_n dX9_begin_22 rfl ?_
        refine z_iload_n dX9_begin_23 rfl ?_
        refine z_sald dX9_begin_24 rfl (by omega) (by omega) ?_
        refine z_istore dX9_begin_25 (by decide) rfl ?_
        dsimp only [List.set]
        refine z_aload_n dX9_begin_27 rfl ?_
        refine z_getR (ty := .int) dX9_begin_28 fl_X9_10 (by first | rfl | assumption) rfl rfl ?_
        refine z_iload dX9_begin_31 rfl ?_
        refine z_V1v dX9_begin_33 ok_X8_multiply lk_X9_58 (by first | rfl | assumption) rfl rfl (Nat.le_of_ble_eq_true rfl) (by decide) (cm_X8_multiply isN_11 hv q1 (by omega) q3) (fun m2 hm2 => ?_)
        obtain ⟨n1, on1⟩ := hm2
        refine z_iinc dX9_begin_36 rfl (by omega) (by decide) rfl ?_
        dsimp only [List.set]
        refine z_goto 17 dX9_begin_39 (by decide) ?_
        exact ih (i + 1) _ _ (by omega) n1 (fun x h1 h2 => (on1 x h1 h2).trans (hon x h1 h2)) (by intro z q; cases q)
  refine z_aload_n dX9_begin_0 rfl ?_
  refine z_getR (ty := .int) dX9_begin_1 fl_X9_10 (by first | rfl | assumption) rfl rfl ?_
  refine z_lconst (z := 1) dX9_begin_4 rfl (by decide) ?_
  refine z_V1v dX9_begin_5 ok_X8_become lk_X9_38 (by first | rfl | assumption) rfl rfl (Nat.le_of_ble_eq_true rfl) (by decide) (cm_X8_become isN_11 (by decide) (by decide)) (fun m2 hm2 => ?_)
  refine z_gets _ sl_X9_68 dX9_begin_8 ?_
  refine z_sstore_n dX9_begin_11 (by decide) rfl ?_
  dsimp only [List.set]
  refine z_sload_n dX9_begin_12 rfl ?_
  refine z_slen dX9_begin_13 rfl ?_
  refine z_istore_n dX9_begin_14 (by decide) rfl ?_
  dsimp only [List.set]
  refine z_iconst dX9_begin_15 (by decide) ?_
  refine z_istore_n dX9_begin_16 (by decide) rfl ?_
  dsimp only [List.set]
  exact one 35 0 _ _ (by omega) hm2.1 hm2.2 (by intro z q; cases q)
end Begin
