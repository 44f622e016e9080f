/-! ===== Sureness: one step of the weight ===== -/
section Step
variable {X : Nat × (Int → Int)} {mem : Mem}
theorem cm_X9_step {n k hi v : Nat} (hk : mem 10 4 = (k : Int)) (hh : mem 10 6 = (hi : Int)) (hkn : k ≤ n) (hn1 : 1 ≤ n) (hn : n ≤ 151) (hv : natAt mem 11 v) (hb : (v : Int) * ((n - k : Nat) : Int) < zB ^ 64) : CM X (0, 0) 2 mX9_step G0 [vr 10, vi (n : Int)] mem (pV G0 fun m => (n ≤ hi → natAt m 11 (v * (n - k) / n)) ∧ (¬ n ≤ hi → natAt m 11 v) ∧ onN 11 mem m) := by
  refine CM.of (by decide +kernel) 0 (Nat.le_of_ble_eq_true rfl) ?_
  show ZZ X (0, 0) 2 mX9_step G0 0 [vr 10, vi (n : Int)] [] mem _
  refine z_iload_n dX9_step_0 rfl ?_
  refine z_aload_n dX9_step_1 rfl ?_
  refine z_gI 6 dX9_step_2 fl_X9_38 (by first | rfl | assumption) rfl rfl ?_
  rw [hh]
  refine z_icmp_gt 29 dX9_step_5 (by decide) (fun h5 => ?_) (fun h5 => ?_)
  · refine z_vret dX9_step_29 rfl ?_
    first | exact ⟨rfl, rfl, fun q => by omega, fun _ => hv, fun _ _ _ => rfl⟩ | exact ⟨rfl, rfl, fun _ => n2, fun q => by omega, fun x h1 h2 => (on2 x h1 h2).trans (on1 x h1 h2)⟩
  · refine z_aload_n dX9_step_8 rfl ?_
    refine z_getR (ty := .int) dX9_step_9 fl_X9_10 (by first | rfl | assumption) rfl rfl ?_
    refine z_iload_n dX9_step_12 rfl ?_
    refine z_aload_n dX9_step_13 rfl ?_
    refine z_gI 4 dX9_step_14 fl_X9_25 (by first | rfl | assumption) rfl rfl ?_
    rw [hk]
    refine z_isub dX9_step_17 (by omega) ?_
    rw [show (n : Int) - (k : Int) = ((n - k : Nat) : Int) by omega]
    refine z_V1v dX9_step_18 ok_X8_multiply lk_X9_64 (by first | rfl | assumption) rfl rfl (Nat.le_of_ble_eq_true rfl) (by decide) (cm_X8_multiply isN_11 hv (by omega) (by omega) hb) (fun m2 hm2 => ?_)
    obtain ⟨n1, on1⟩ := hm2
    rw [Int.toNat_natCast] at n1
    refine z_aload_n dX9_step_21 rfl ?_
    refine z_getR (ty := .int) dX9_step_22 fl_X9_10 (by first | rfl | assumption) rfl rfl ?_
    refine z_iload_n dX9_step_25 rfl ?_
    refine z_V1v dX9_step_26 ok_X8_divide lk_X9_75 (by first | rfl | assumption) rfl rfl (Nat.le_of_ble_eq_true rfl) (by decide) (cm_X8_divide isN_11 n1 (by omega) (by omega)) (fun m3 hm3 => ?_)
    obtain ⟨n2, on2⟩ := hm3
    rw [Int.toNat_natCast] at n2
    refine z_vret dX9_step_29 rfl ?_
    first | exact ⟨rfl, rfl, fun q => by omega, fun _ => hv, fun _ _ _ => rfl⟩ | exact ⟨rfl, rfl, fun _ => n2, fun q => by omega, fun x h1 h2 => (on2 x h1 h2).trans (on1 x h1 h2)⟩
end Step
