/-! ===== the reference's long numbers: six registers of 66 digits in the row 89, their widths in the row 90 ===== -/
def updF (f : Int → Int) (i v : Int) : Int → Int := fun j => if j = i then v else f j
theorem updF_eq (f : Int → Int) (i v : Int) : updF f i v i = v := if_pos rfl
theorem updF_ne (f : Int → Int) {i j : Int} (v : Int) (h : j ≠ i) : updF f i v j = f j := if_neg h
theorem nv_updS (f : Int → Int) (i : Nat) (v : Int) : nv (updF f (i : Int) v) (i + 1) = nv f i + v * zB ^ i := by
  show nv _ i + _ * zB ^ i = _
  rw [updF_eq, nv_congr (g := f) (fun j hj => updF_ne f v (by omega))]
theorem dig_updS {f : Int → Int} {i : Nat} {v : Int} (h : dig f i) (h0 : 0 ≤ v) (h1 : v < 1073741824) : dig (updF f (i : Int) v) (i + 1) := by
  intro j hj
  by_cases q : j = i
  · subst q
    rw [updF_eq]
    exact ⟨h0, h1⟩
  · rw [updF_ne f v (by omega)]
    exact h j (by omega)
theorem dig_upd {f : Int → Int} {i n : Nat} {v : Int} (h : dig f n) (h0 : 0 ≤ v) (h1 : v < 1073741824) : dig (updF f (i : Int) v) n := by
  intro j hj
  by_cases q : j = i
  · subst q
    rw [updF_eq]
    exact ⟨h0, h1⟩
  · rw [updF_ne f v (by omega)]
    exact h j hj
theorem nv_upd {f : Int → Int} {i : Nat} {v : Int} : ∀ {n : Nat}, i < n → nv (updF f (i : Int) v) n = nv f n + (v - f (i : Int)) * zB ^ i
  | 0, h => by omega
  | n + 1, h => by
    by_cases e : i = n
    · subst e
      rw [nv_updS]
      show _ = nv f i + f (i : Int) * zB ^ i + _
      rw [Int.sub_mul]
      omega
    · show nv _ n + _ * zB ^ n = nv f n + f (n : Int) * zB ^ n + _
      rw [nv_upd (n := n) (by omega), updF_ne f v (by omega)]
      omega
def rowM (m : Mem) (r : Nat) : Int → Int := fun j => m 89 (66 * (r : Int) + j)
theorem rowM_set (m : Mem) (r : Nat) (i v : Int) : rowM (mset m 89 (66 * (r : Int) + i) v) r = updF (rowM m r) i v := by
  funext j
  unfold rowM updF
  by_cases e : j = i
  · subst e
    rw [mset_eq, if_pos rfl]
  · rw [mset_nej m 89 (by omega), if_neg e]
theorem rowM_w (m : Mem) (r : Nat) (i v : Int) : rowM (mset m 90 i v) r = rowM m r := by
  funext j
  unfold rowM
  rw [mset_ne m (by decide)]
theorem wideM (m : Mem) (i v j : Int) : mset m 89 i v 90 j = m 90 j := by rw [mset_ne m (by decide)]
/-- register r holds v -/
def regAt (mem : Mem) (r : Nat) (v : Nat) : Prop := dig (rowM mem r) 66 ∧ nv (rowM mem r) 66 = (v : Int) ∧ ∃ n : Nat, n ≤ 66 ∧ mem 90 (r : Int) = (n : Int) ∧ (∀ j : Nat, n ≤ j → j < 66 → rowM mem r (j : Int) = 0) ∧ (n = 0 ∨ rowM mem r ((n : Int) - 1) ≠ 0)
/-- only register r has changed -/
def onR (r : Nat) (mem m : Mem) : Prop := (∀ a, a ≠ 89 → a ≠ 90 → m a = mem a) ∧ (∀ j : Int, j < 66 * (r : Int) ∨ 66 * (r : Int) + 66 ≤ j → m 89 j = mem 89 j) ∧ (∀ j : Int, j ≠ (r : Int) → m 90 j = mem 90 j)
theorem onR.rf (r : Nat) (mem : Mem) : onR r mem mem := ⟨fun _ _ _ => rfl, fun _ _ => rfl, fun _ _ => rfl⟩
theorem onR.tr {r : Nat} {m1 m2 m3 : Mem} (h1 : onR r m1 m2) (h2 : onR r m2 m3) : onR r m1 m3 := ⟨fun a ha hb => (h2.1 a ha hb).trans (h1.1 a ha hb), fun j hj => (h2.2.1 j hj).trans (h1.2.1 j hj), fun j hj => (h2.2.2 j hj).trans (h1.2.2 j hj)⟩
theorem onR_l {r : Nat} {mem : Mem} {i v : Int} (h0 : 0 ≤ i) (h1 : i < 66) : onR r mem (mset mem 89 (66 * (r : Int) + i) v) := ⟨fun a ha hb => mset_ne mem ha _ _, fun j hj => mset_nej mem 89 (by omega) v, fun j _ => wideM mem _ v j⟩
theorem onR_w {r : Nat} {mem : Mem} {v : Int} : onR r mem (mset mem 90 (r : Int) v) := ⟨fun a ha hb => mset_ne mem hb _ _, fun j _ => by rw [mset_ne mem (by decide)], fun j hj => mset_nej mem 90 hj v⟩
theorem rowM.off {r s : Nat} {mem m : Mem} (h : onR r mem m) (hs : s ≠ r) {j : Int} (h0 : 0 ≤ j) (h1 : j < 66) : rowM m s j = rowM mem s j := h.2.1 _ (by omega)
theorem regAt.off {r s v : Nat} {mem m : Mem} (hv : regAt mem s v) (h : onR r mem m) (hs : s ≠ r) : regAt m s v := by
  obtain ⟨hd, hn, n, h1, h2, h3, h4⟩ := hv
  have e : ∀ j : Nat, j < 66 → rowM m s (j : Int) = rowM mem s (j : Int) := fun j hj => rowM.off h hs (by omega) (by omega)
  refine ⟨fun j hj => by rw [e j hj]; exact hd j hj, by rw [nv_congr e]; exact hn, n, h1, by rw [h.2.2 _ (by omega)]; exact h2, fun j a b => by rw [e j b]; exact h3 j a b, ?_⟩
  rcases h4 with q | q
  · exact Or.inl q
  · by_cases z : n = 0
    · exact Or.inl z
    · exact Or.inr (by rw [rowM.off h hs (by omega) (by omega)]; exact q)
section ModA
variable {X : Nat × (Int → Int)} {mem : Mem}
theorem cm_X12_trims {r n : Nat} (hr : r < 6) (hs : mem 90 (r : Int) = (n : Int)) (hn : n ≤ 66) : CM X (0, 0) 0 mX12_trims G0 [vr 88, vi (r : Int)] mem (pV G0 fun m => ∃ k : Nat, k ≤ n ∧ (∀ i : Nat, k ≤ i → i < n → rowM mem r (i : Int) = 0) ∧ (k = 0 ∨ rowM mem r ((k : Int) - 1) ≠ 0) ∧ m = mset mem 90 (r : Int) (k : Int)) := by
  refine CM.of (by decide +kernel) 0 (Nat.le_of_ble_eq_true rfl) ?_
  show ZZ X (0, 0) 0 mX12_trims G0 0 [vr 88, vi (r : Int)] [] mem _
  have loop : ∀ j : Nat, j ≤ n → (∀ i : Nat, j ≤ i → i < n → rowM mem r (i : Int) = 0) → ZZ X (0, 0) 0 mX12_trims G0 0 [vr 88, vi (r : Int)] [] (mset mem 90 (r : Int) (j : Int)) (pV G0 fun m => ∃ k : Nat, k ≤ n ∧ (∀ i : Nat, k ≤ i → i < n → rowM mem r (i : Int) = 0) ∧ (k = 0 ∨ rowM mem r ((k : Int) - 1) ≠ 0) ∧ m = mset mem 90 (r : Int) (k : Int)) := by
    intro j
    induction j with
    | zero =>
      intro hj hz
      refine z_aload_n dX12_trims_0 rfl ?_
      refine z_getR (ty := .int) dX12_trims_1 fl_X12_13 (by first | rfl | assumption) rfl rfl ?_
      refine z_iload_n dX12_trims_4 rfl ?_
      refine z_iald dX12_trims_5 (by first | rfl | assumption) (by omega) (by omega) ?_
      rw [mset_eq]
      refine z_if_le 43 dX12_trims_6 (by decide) (fun h6 => ?_) (fun h6 => ?_)
      · refine z_vret dX12_trims_43 rfl ?_
        exact ⟨rfl, rfl, 0, by omega, hz, Or.inl rfl, rfl⟩
      · omega
    | succ j ih =>
      intro hj hz
      have e1 : 66 * (r : Int) + ((j + 1 : Nat) : Int) - 1 = 66 * (r : Int) + (j : Int) := by omega
      refine z_aload_n dX12_trims_0 rfl ?_
      refine z_getR (ty := .int) dX12_trims_1 fl_X12_13 (by first | rfl | assumption) rfl rfl ?_
      refine z_iload_n dX12_trims_4 rfl ?_
      refine z_iald dX12_trims_5 (by first | rfl | assumption) (by omega) (by omega) ?_
      rw [mset_eq]
      refine z_if_le 43 dX12_trims_6 (by decide) (fun h6 => ?_) (fun h6 => ?_)
      · omega
      · refine z_aload_n dX12_trims_9 rfl ?_
        refine z_getR (ty := .int) dX12_trims_10 fl_X12_7 (by first | rfl | assumption) rfl rfl ?_
        refine z_bipush dX12_trims_13 (by decide) ?_
        refine z_iload_n dX12_trims_15 rfl ?_
        refine z_imul dX12_trims_16 (by omega) ?_
        refine z_aload_n dX12_trims_17 rfl ?_
        refine z_getR (ty := .int) dX12_trims_18 fl_X12_13 (by first | rfl | assumption) rfl rfl ?_
        refine z_iload_n dX12_trims_21 rfl ?_
        refine z_iald dX12_trims_22 (by first | rfl | assumption) (by omega) (by omega) ?_
        rw [mset_eq]
        refine z_iadd dX12_trims_23 (by omega) ?_
        refine z_iconst dX12_trims_24 (by decide) ?_
        refine z_isub dX12_trims_25 (by omega) ?_
        rw [e1]
        refine z_iald dX12_trims_26 (by first | rfl | assumption) (by omega) (by omega) ?_
        rw [mset_ne _ (by decide)]
        refine z_if_ne 43 dX12_trims_27 (by decide) (fun h27 => ?_) (fun h27 => ?_)
        · refine z_vret dX12_trims_43 rfl ?_
          exact ⟨rfl, rfl, j + 1, hj, hz, Or.inr (by rw [show ((j + 1 : Nat) : Int) - 1 = (j : Int) by omega]; exact h27), rfl⟩
        · refine z_aload_n dX12_trims_30 rfl ?_
          refine z_getR (ty := .int) dX12_trims_31 fl_X12_13 (by first | rfl | assumption) rfl rfl ?_
          refine z_iload_n dX12_trims_34 rfl ?_
          refine z_dup2 dX12_trims_35 (by intro z q; cases q) (by intro z q; cases q) ?_
          refine z_iald dX12_trims_36 (by first | rfl | assumption) (by omega) (by omega) ?_
          rw [mset_eq]
          refine z_iconst dX12_trims_37 (by decide) ?_
          refine z_isub dX12_trims_38 (by omega) ?_
          refine z_iast dX12_trims_39 (by first | rfl | assumption) (by omega) (by omega) ?_
          rw [mset_mset, show ((j + 1 : Nat) : Int) - 1 = (j : Int) by omega]
          refine z_goto 0 dX12_trims_40 (by decide) ?_
          exact ih (by omega) (fun i h1 h2 => by by_cases e : i = j; exact e ▸ h27; exact hz i (by omega) h2)
  have h := loop n (Nat.le_refl n) (fun i h1 h2 => by omega)
  rw [mset_self hs] at h
  exact h
theorem trims_reg {m : Mem} {r n v : Nat} (hr : r < 6) (hn : n ≤ 66) (hd : dig (rowM mem r) 66) (hv : nv (rowM mem r) 66 = (v : Int)) (hz : ∀ j : Nat, n ≤ j → j < 66 → rowM mem r (j : Int) = 0) (h : ∃ k : Nat, k ≤ n ∧ (∀ i : Nat, k ≤ i → i < n → rowM mem r (i : Int) = 0) ∧ (k = 0 ∨ rowM mem r ((k : Int) - 1) ≠ 0) ∧ m = mset mem 90 (r : Int) (k : Int)) : regAt m r v ∧ onR r mem m := by
  obtain ⟨k, h1, h2, h3, rfl⟩ := h
  refine ⟨⟨?_, ?_, k, by omega, mset_eq _ _ _ _, ?_, ?_⟩, onR_w⟩
  · rw [rowM_w]; exact hd
  · rw [rowM_w]; exact hv
  · rw [rowM_w]
    intro j a b
    by_cases q : j < n
    · exact h2 j a q
    · exact hz j (by omega) b
  · rw [rowM_w]; exact h3
-- shifts by 0 and 60
theorem lshr0 {x : Int} (hx : i64 x) : lshrV x 0 = x := by
  have := lshrk hx (k := 0) (by decide)
  simpa using this
theorem lshr60 {x : Int} (hx : i64 x) : lshrV x 60 = x / 1152921504606846976 := by
  unfold lshrV
  rw [show (Int32.ofInt 60).toInt64 &&& 63 = (60 : Int64) by decide, ← Int64.toInt_toBitVec, Int64.toBitVec_shiftRight, show (BitVec.smod (Int64.toBitVec 60) 64) = 60#64 by decide, BitVec.toInt_sshiftRight', Int64.toInt_toBitVec, ti64 hx, Int.shiftRight_eq_div_pow]
  rfl
theorem cm_X12_sets {r v : Nat} (hr : r < 6) (hv : (v : Int) < 9223372036854775808) : CM X (0, 0) 1 mX12_sets G0 [vr 88, vi (r : Int), vl (v : Int)] mem (pV G0 fun m => regAt m r v ∧ onR r mem m) := by
  have hv3 : v < 1073741824 ^ 3 := by
    have : (1073741824 : Nat) ^ 3 = 1237940039285380274899124224 := by decide
    omega
  refine CM.of (by decide +kernel) 1 (Nat.le_of_ble_eq_true rfl) ?_
  show ZZ X (0, 0) 1 mX12_sets G0 0 [vr 88, vi (r : Int), vl (v : Int), vd, vd] [] mem _
  have loop : ∀ (k i : Nat) (m : Mem), k + i = 66 → onR r mem m → (∀ j : Nat, j < i → rowM m r (j : Int) = ((v / 1073741824 ^ j % 1073741824 : Nat) : Int)) →
      ZZ X (0, 0) 1 mX12_sets G0 3 [vr 88, vi (r : Int), vl (v : Int), vd, vi (i : Int)] [] m (pV G0 fun m => regAt m r v ∧ onR r mem m) := by
    intro k
    induction k with
    | zero =>
      intro i m hk hon hd
      have hi : i = 66 := by omega
      subst hi
      have hdg : dig (rowM m r) 66 := fun j hj => by rw [hd j hj]; omega
      have hnv : nv (rowM m r) 66 = (v : Int) := by
        rw [nv_of_dig hd, Nat.mod_eq_of_lt (Nat.lt_of_lt_of_le hv3 (Nat.pow_le_pow_right (by decide) (by decide)))]
      refine z_iload dX12_sets_3 rfl ?_
      refine z_bipush dX12_sets_5 (by decide) ?_
      refine z_icmp_ge 50 dX12_sets_7 (by decide) (fun h7 => ?_) (fun h7 => ?_)
      · refine z_aload_n dX12_sets_50 rfl ?_
        refine z_getR (ty := .int) dX12_sets_51 fl_X12_13 (by first | rfl | assumption) rfl rfl ?_
        refine z_iload_n dX12_sets_54 rfl ?_
        refine z_iconst dX12_sets_55 (by decide) ?_
        refine z_iast dX12_sets_56 (by first | rfl | assumption) (by omega) (by omega) ?_
        refine z_aload_n dX12_sets_57 rfl ?_
        refine z_iload_n dX12_sets_58 rfl ?_
        refine z_V1v dX12_sets_59 ok_X12_trims lk_X12_68 (by first | rfl | assumption) rfl rfl (Nat.le_of_ble_eq_true rfl) (by decide) (cm_X12_trims hr (mset_eq _ _ _ _ : _ = ((3 : Nat) : Int)) (by decide)) (fun m2 hm2 => ?_)
        refine z_vret dX12_sets_62 rfl ?_
        obtain ⟨q1, q2⟩ := trims_reg hr (by decide) (by rw [rowM_w]; exact hdg) (by rw [rowM_w]; exact hnv) (fun j a b => by rw [rowM_w, hd j b, Nat.div_eq_of_lt (Nat.lt_of_lt_of_le hv3 (Nat.pow_le_pow_right (by decide) a))]; rfl) hm2
        exact ⟨rfl, rfl, q1, (hon.tr onR_w).tr q2⟩
      · omega
    | succ k ih =>
      intro i m hk hon hd
      have fin : ∀ z : Int, z = ((v / 1073741824 ^ i % 1073741824 : Nat) : Int) → ZZ X (0, 0) 1 mX12_sets G0 43 [vr 88, vi (r : Int), vl (v : Int), vd, vi (i : Int)] [vi z, vi (66 * (r : Int) + (i : Int)), vr 89] m (pV G0 fun m => regAt m r v ∧ onR r mem m) := by
        intro z hz
        subst hz
        refine z_iast dX12_sets_43 (by first | rfl | assumption) (by omega) (by omega) ?_
        refine z_iinc dX12_sets_44 rfl (by omega) (by decide) rfl ?_
        dsimp only [List.set]
        refine z_goto 3 dX12_sets_47 (by decide) ?_
        refine ih (i + 1) _ (by omega) (hon.tr (onR_l (by omega) (by omega))) (fun j hj => ?_)
        rw [rowM_set]
        by_cases e : j = i
        · subst e; rw [updF_eq]
        · rw [updF_ne _ _ (by omega)]; exact hd j (by omega)
      refine z_iload dX12_sets_3 rfl ?_
      refine z_bipush dX12_sets_5 (by decide) ?_
      refine z_icmp_ge 50 dX12_sets_7 (by decide) (fun h7 => ?_) (fun h7 => ?_)
      · omega
      · refine z_aload_n dX12_sets_10 rfl ?_
        refine z_getR (ty := .int) dX12_sets_11 fl_X12_7 (by first | rfl | assumption) rfl rfl ?_
        refine z_bipush dX12_sets_14 (by decide) ?_
        refine z_iload_n dX12_sets_16 rfl ?_
        refine z_imul dX12_sets_17 (by omega) ?_
        refine z_iload dX12_sets_18 rfl ?_
        refine z_iadd dX12_sets_20 (by omega) ?_
        refine z_iload dX12_sets_21 rfl ?_
        refine z_iconst dX12_sets_23 (by decide) ?_
        refine z_icmp_ge 42 dX12_sets_24 (by decide) (fun h24 => ?_) (fun h24 => ?_)
        · refine z_iconst dX12_sets_42 (by decide) ?_
          exact fin _ (by rw [Nat.div_eq_of_lt (Nat.lt_of_lt_of_le hv3 (Nat.pow_le_pow_right (by decide) (by omega)))]; rfl)
        · obtain rfl | rfl | rfl : i = 0 ∨ i = 1 ∨ i = 2 := by omega
          · refine z_lload_n dX12_sets_27 rfl ?_
            refine z_bipush dX12_sets_28 (by decide) ?_
            refine z_iload dX12_sets_30 rfl ?_
            refine z_imul dX12_sets_32 (by decide) ?_
            refine z_lshr dX12_sets_33 ?_
            refine z_ldc2 (z := 1073741823) dX12_sets_34 kc_X12_66 (by decide) ?_
            refine z_land dX12_sets_37 ?_
            rw [land30, show (30 : Int) * ((0 : Nat) : Int) = 0 by rfl, lshr0 (by omega)]
            refine z_l2i dX12_sets_38 (by omega) ?_
            refine z_goto 43 dX12_sets_39 (by decide) ?_
            exact fin _ (by rw [Nat.pow_zero, Nat.div_one, Int.natCast_emod]; rfl)
          · refine z_lload_n dX12_sets_27 rfl ?_
            refine z_bipush dX12_sets_28 (by decide) ?_
            refine z_iload dX12_sets_30 rfl ?_
            refine z_imul dX12_sets_32 (by decide) ?_
            refine z_lshr dX12_sets_33 ?_
            refine z_ldc2 (z := 1073741823) dX12_sets_34 kc_X12_66 (by decide) ?_
            refine z_land dX12_sets_37 ?_
            rw [land30, show (30 : Int) * ((1 : Nat) : Int) = 30 by rfl, lshr30 (by omega)]
            refine z_l2i dX12_sets_38 (by omega) ?_
            refine z_goto 43 dX12_sets_39 (by decide) ?_
            exact fin _ (by rw [Nat.pow_one, Int.natCast_emod, Int.natCast_ediv]; rfl)
          · refine z_lload_n dX12_sets_27 rfl ?_
            refine z_bipush dX12_sets_28 (by decide) ?_
            refine z_iload dX12_sets_30 rfl ?_
            refine z_imul dX12_sets_32 (by decide) ?_
            refine z_lshr dX12_sets_33 ?_
            refine z_ldc2 (z := 1073741823) dX12_sets_34 kc_X12_66 (by decide) ?_
            refine z_land dX12_sets_37 ?_
            rw [land30, show (30 : Int) * ((2 : Nat) : Int) = 60 by rfl, lshr60 (by omega)]
            refine z_l2i dX12_sets_38 (by omega) ?_
            refine z_goto 43 dX12_sets_39 (by decide) ?_
            exact fin _ (by rw [show (1073741824 : Nat) ^ 2 = 1152921504606846976 by decide, Int.natCast_emod, Int.natCast_ediv]; rfl)
  refine z_iconst dX12_sets_0 (by decide) ?_
  refine z_istore dX12_sets_1 (by decide) rfl ?_
  dsimp only [List.set]
  exact loop 66 0 mem (by omega) (onR.rf _ _) (fun j hj => by omega)
theorem cm_X12_takes {r s v : Nat} (hr : r < 6) (hs : s < 6) (hrs : s ≠ r) (hv : regAt mem s v) : CM X (0, 0) 0 mX12_takes G0 [vr 88, vi (r : Int), vi (s : Int)] mem (pV G0 fun m => regAt m r v ∧ onR r mem m) := by
  obtain ⟨hd, hnv, n, hn, hw, hz, ht⟩ := hv
  refine CM.of (by decide +kernel) 1 (Nat.le_of_ble_eq_true rfl) ?_
  show ZZ X (0, 0) 0 mX12_takes G0 0 [vr 88, vi (r : Int), vi (s : Int), vd] [] mem _
  have loop : ∀ (k i : Nat) (m : Mem), k + i = 66 → onR r mem m → (∀ j : Nat, j < i → rowM m r (j : Int) = rowM mem s (j : Int)) →
      ZZ X (0, 0) 0 mX12_takes G0 2 [vr 88, vi (r : Int), vi (s : Int), vi (i : Int)] [] m (pV G0 fun m => regAt m r v ∧ onR r mem m) := by
    intro k
    induction k with
    | zero =>
      intro i m hk hon he
      have hi : i = 66 := by omega
      subst hi
      refine z_iload_n dX12_takes_2 rfl ?_
      refine z_bipush dX12_takes_3 (by decide) ?_
      refine z_icmp_ge 36 dX12_takes_5 (by decide) (fun h5 => ?_) (fun h5 => ?_)
      · refine z_aload_n dX12_takes_36 rfl ?_
        refine z_getR (ty := .int) dX12_takes_37 fl_X12_13 (by first | rfl | assumption) rfl rfl ?_
        refine z_iload_n dX12_takes_40 rfl ?_
        refine z_aload_n dX12_takes_41 rfl ?_
        refine z_getR (ty := .int) dX12_takes_42 fl_X12_13 (by first | rfl | assumption) rfl rfl ?_
        refine z_iload_n dX12_takes_45 rfl ?_
        refine z_iald dX12_takes_46 (by first | rfl | assumption) (by omega) (by omega) ?_
        rw [hon.2.2 _ (by omega), hw]
        refine z_iast dX12_takes_47 (by first | rfl | assumption) (by omega) (by omega) ?_
        refine z_vret dX12_takes_48 rfl ?_
        refine ⟨rfl, rfl, ⟨?_, ?_, n, hn, mset_eq _ _ _ _, ?_, ?_⟩, hon.tr onR_w⟩
        · rw [rowM_w]; exact fun j hj => by rw [he j hj]; exact hd j hj
        · rw [rowM_w, nv_congr he]; exact hnv
        · rw [rowM_w]; exact fun j a b => by rw [he j b]; exact hz j a b
        · rw [rowM_w]
          rcases ht with q | q
          · exact Or.inl q
          · by_cases z : n = 0
            · exact Or.inl z
            · refine Or.inr ?_
              rw [show (n : Int) - 1 = ((n - 1 : Nat) : Int) by omega] at q ⊢
              rw [he _ (by omega)]
              exact q
      · omega
    | succ k ih =>
      intro i m hk hon he
      refine z_iload_n dX12_takes_2 rfl ?_
      refine z_bipush dX12_takes_3 (by decide) ?_
      refine z_icmp_ge 36 dX12_takes_5 (by decide) (fun h5 => ?_) (fun h5 => ?_)
      · omega
      · refine z_aload_n dX12_takes_8 rfl ?_
        refine z_getR (ty := .int) dX12_takes_9 fl_X12_7 (by first | rfl | assumption) rfl rfl ?_
        refine z_bipush dX12_takes_12 (by decide) ?_
        refine z_iload_n dX12_takes_14 rfl ?_
        refine z_imul dX12_takes_15 (by omega) ?_
        refine z_iload_n dX12_takes_16 rfl ?_
        refine z_iadd dX12_takes_17 (by omega) ?_
        refine z_aload_n dX12_takes_18 rfl ?_
        refine z_getR (ty := .int) dX12_takes_19 fl_X12_7 (by first | rfl | assumption) rfl rfl ?_
        refine z_bipush dX12_takes_22 (by decide) ?_
        refine z_iload_n dX12_takes_24 rfl ?_
        refine z_imul dX12_takes_25 (by omega) ?_
        refine z_iload_n dX12_takes_26 rfl ?_
        refine z_iadd dX12_takes_27 (by omega) ?_
        refine z_iald dX12_takes_28 (by first | rfl | assumption) (by omega) (by omega) ?_
        rw [show m 89 (66 * (s : Int) + (i : Int)) = rowM mem s (i : Int) from rowM.off hon hrs (by omega) (by omega)]
        refine z_iast dX12_takes_29 (by first | rfl | assumption) (by omega) (by omega) ?_
        refine z_iinc dX12_takes_30 rfl (by omega) (by decide) rfl ?_
        dsimp only [List.set]
        refine z_goto 2 dX12_takes_33 (by decide) ?_
        refine ih (i + 1) _ (by omega) (hon.tr (onR_l (by omega) (by omega))) (fun j hj => ?_)
        rw [rowM_set]
        by_cases e : j = i
        · subst e; rw [updF_eq]
        · rw [updF_ne _ _ (by omega)]; exact he j (by omega)
  refine z_iconst dX12_takes_0 (by decide) ?_
  refine z_istore_n dX12_takes_1 (by decide) rfl ?_
  dsimp only [List.set]
  exact loop 66 0 mem (by omega) (onR.rf _ _) (fun j hj => by omega)
end ModA
