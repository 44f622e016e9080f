/-! ===== Sureness: prepare, share, spanEnd ===== -/
section Sure
variable {X : Nat × (Int → Int)} {mem : Mem} {k lo hi : Nat}
def suF (m : Mem) (k lo hi : Nat) : Prop := m 10 4 = (k : Int) ∧ m 10 5 = (lo : Int) ∧ m 10 6 = (hi : Int)
def suAt (m : Mem) (k lo hi : Nat) : Prop := suF m k lo hi ∧ natAt m 13 (wSum k lo (hi + 1 - lo) * wQ k lo)
theorem suF.off {m : Mem} (h : suF mem k lo hi) (e : m 10 = mem 10) : suF m k lo hi := by
  unfold suF
  rw [e]
  exact h
theorem cm_X9_prepare {le : Int} (hlo : (if 1 < le then le else 1) = (lo : Int)) (hk60 : k ≤ 60) (hkl : k ≤ lo) (hl1 : 1 ≤ lo) (hlh : lo ≤ hi) (hh : hi ≤ 150) : CM X (0, 0) 3 mX9_prepare G0 [vr 10, vi (k : Int), vi le, vi (hi : Int)] mem (pV G0 fun m => suAt m k lo hi ∧ ∀ x, x < 10 ∨ 14 < x → m x = mem x) := by
  refine CM.of (by decide +kernel) 1 (Nat.le_of_ble_eq_true rfl) ?_
  show ZZ X (0, 0) 3 mX9_prepare G0 0 [vr 10, vi (k : Int), vi le, vi (hi : Int), vd] [] mem _
  have loop : ∀ (e c : Nat) (m : Mem), lo + c + e = hi + 1 → suF m k lo hi → natAt m 13 (wSum k lo c * wQ k lo) → (lo + c ≤ hi → natAt m 11 (wS k (lo + c - k) * wQ k lo)) → (∀ x, x < 10 ∨ 14 < x → m x = mem x) → ZZ X (0, 0) 3 mX9_prepare G0 37 [vr 10, vi (k : Int), vi le, vi (hi : Int), vi ((lo : Int) + (c : Int))] [] m (pV G0 fun m => suAt m k lo hi ∧ ∀ x, x < 10 ∨ 14 < x → m x = mem x) := by
    intro e
    induction e with
    | zero =>
      intro c m hc hf hw hv ho
      have hce : c = hi + 1 - lo := by omega
      subst hce
      refine z_iload dX9_prepare_37 rfl ?_
      refine z_aload_n dX9_prepare_39 rfl ?_
      refine z_gI 6 dX9_prepare_40 fl_X9_38 (by first | rfl | assumption) rfl rfl ?_
      rw [hf.2.2]
      refine z_icmp_gt 71 dX9_prepare_43 (by decide) (fun h43 => ?_) (fun h43 => ?_)
      · refine z_vret dX9_prepare_71 rfl ?_
        exact ⟨rfl, rfl, ⟨hf, hw⟩, ho⟩
      · omega
    | succ e ih =>
      intro c m hc hf hw hv ho
      have hv1 := hv (by omega)
      have hb : ((wSum k lo c * wQ k lo + wS k (lo + c - k) * wQ k lo : Nat) : Int) < zB ^ 64 := by
        rw [← Nat.add_mul]
        exact lt64 (wSumQ_lt1 hk60 hkl (by omega) (c := c + 1) (by omega))
      refine z_iload dX9_prepare_37 rfl ?_
      refine z_aload_n dX9_prepare_39 rfl ?_
      refine z_gI 6 dX9_prepare_40 fl_X9_38 (by first | rfl | assumption) rfl rfl ?_
      rw [hf.2.2]
      refine z_icmp_gt 71 dX9_prepare_43 (by decide) (fun h43 => ?_) (fun h43 => ?_)
      · omega
      · refine z_aload_n dX9_prepare_46 rfl ?_
        refine z_getR (ty := .int) dX9_prepare_47 fl_X9_16 (by first | rfl | assumption) rfl rfl ?_
        refine z_aload_n dX9_prepare_50 rfl ?_
        refine z_getR (ty := .int) dX9_prepare_51 fl_X9_10 (by first | rfl | assumption) rfl rfl ?_
        refine z_V1v dX9_prepare_54 ok_X8_add lk_X9_48 (by first | rfl | assumption) rfl rfl (Nat.le_of_ble_eq_true rfl) (by decide) (cm_X8_add isN_13 isN_11 hw hv1 (by decide) hb) (fun m2 hm2 => ?_)
        obtain ⟨n1, on1⟩ := hm2
        have v1 := hv1.off on1 (by decide) (by decide) (by decide)
        have f1 := hf.off (on1 10 (by decide) (by decide))
        refine z_aload_n dX9_prepare_57 rfl ?_
        refine z_iload dX9_prepare_58 rfl ?_
        refine z_iconst dX9_prepare_60 (by decide) ?_
        refine z_iadd dX9_prepare_61 (by omega) ?_
        rw [show (lo : Int) + (c : Int) + 1 = ((lo + c + 1 : Nat) : Int) by omega]
        refine z_V1v dX9_prepare_62 ok_X9_step lk_X9_52 (by first | rfl | assumption) rfl rfl (Nat.le_of_ble_eq_true rfl) (by decide) (cm_X9_step (k := k) (hi := hi) (n := lo + c + 1) f1.1 f1.2.2 (by omega) (by omega) (by omega) v1 (mulZ (wQ_le hk60 hkl (by omega) c) (by omega : lo + c + 1 - k ≤ 1000) wP_lt)) (fun m3 hm3 => ?_)
        obtain ⟨s1, s2, on2⟩ := hm3
        refine z_iinc dX9_prepare_65 rfl (by omega) (by decide) rfl ?_
        dsimp only [List.set]
        refine z_goto 37 dX9_prepare_68 (by decide) ?_
        rw [show (lo : Int) + (c : Int) + 1 = (lo : Int) + ((c + 1 : Nat) : Int) by omega]
        refine ih (c + 1) _ (by omega) (f1.off (on2 10 (by decide) (by decide))) (by
            have hq : wSum k lo (c + 1) * wQ k lo = wSum k lo c * wQ k lo + wS k (lo + c - k) * wQ k lo := Nat.add_mul _ _ _
            rw [hq]
            exact n1.off on2 (by decide) (by decide) (by decide)) (fun q => ?_) (fun x hx => ?_)
        · have s3 := s1 (by omega)
          have hst := wS_stepb (k := k) (d := lo + c - k) (b := wQ k lo) hk60 (by omega)
          rw [show lo + c - k + 1 = lo + c + 1 - k by omega, show k + (lo + c - k) + 1 = lo + c + 1 by omega] at hst
          rw [hst] at s3
          exact s3
        · rw [on2 x (by omega) (by omega), on1 x (by omega) (by omega)]
          exact ho x hx
  refine z_aload_n dX9_prepare_0 rfl ?_
  refine z_iload_n dX9_prepare_1 rfl ?_
  refine z_pI 4 dX9_prepare_2 fm_X9_25 (by first | rfl | assumption) rfl rfl ?_
  refine z_aload_n dX9_prepare_5 rfl ?_
  refine z_iconst dX9_prepare_6 (by decide) ?_
  refine z_iload_n dX9_prepare_7 rfl ?_
  refine z_max dX9_prepare_8 lm_X9_29 (by decide) (Nat.le_of_ble_eq_true rfl) ?_
  rw [hlo]
  refine z_pI 5 dX9_prepare_11 fm_X9_35 (by first | rfl | assumption) rfl rfl ?_
  refine z_aload_n dX9_prepare_14 rfl ?_
  refine z_iload_n dX9_prepare_15 rfl ?_
  refine z_pI 6 dX9_prepare_16 fm_X9_38 (by first | rfl | assumption) rfl rfl ?_
  generalize hm1 : mset (mset (mset mem 10 4 (k : Int)) 10 5 (lo : Int)) 10 6 (hi : Int) = m1
  have f1 : suF m1 k lo hi := by
    rw [← hm1]
    exact ⟨by simp [mset], by simp [mset], by simp [mset]⟩
  have o1 : ∀ x, x < 10 ∨ 14 < x → m1 x = mem x := by
    intro x hx
    rw [← hm1, mset_ne _ (by omega), mset_ne _ (by omega), mset_ne _ (by omega)]
  refine z_aload_n dX9_prepare_19 rfl ?_
  refine z_getR (ty := .int) dX9_prepare_20 fl_X9_16 (by first | rfl | assumption) rfl rfl ?_
  refine z_lconst (z := 0) dX9_prepare_23 rfl (by decide) ?_
  refine z_V1v dX9_prepare_24 ok_X8_become lk_X9_41 (by first | rfl | assumption) rfl rfl (Nat.le_of_ble_eq_true rfl) (by decide) (cm_X8_become isN_13 (by decide) (by decide)) (fun m2 hm2 => ?_)
  obtain ⟨n2, on2⟩ := hm2
  have f2 := f1.off (on2 10 (by decide) (by decide))
  refine z_aload_n dX9_prepare_27 rfl ?_
  refine z_V0v dX9_prepare_28 ok_X9_begin lk_X9_45 (by first | rfl | assumption) rfl rfl (Nat.le_of_ble_eq_true rfl) (by decide) (cm_X9_begin) (fun m3 hm3 => ?_)
  obtain ⟨n3, on3⟩ := hm3
  have f3 := f2.off (on3 10 (by decide) (by decide))
  refine z_aload_n dX9_prepare_31 rfl ?_
  refine z_gI 5 dX9_prepare_32 fl_X9_35 (by first | rfl | assumption) rfl rfl ?_
  rw [f3.2.1]
  refine z_istore dX9_prepare_35 (by decide) rfl ?_
  dsimp only [List.set]
  refine (show (lo : Int) = (lo : Int) + ((0 : Nat) : Int) by omega) ▸ loop (hi + 1 - lo) 0 _ (by omega) f3 (by rw [show wSum k lo 0 * wQ k lo = 0 from Nat.zero_mul _]; exact n2.off on3 (by decide) (by decide) (by decide)) (fun _ => by rw [Nat.add_zero, wQ_eq hk60 hkl (by omega)]; exact n3) (fun x hx => ?_)
  rw [on3 x (by omega) (by omega), on2 x (by omega) (by omega)]
  exact o1 x hx
theorem cm_X9_share {x y : Int} (hs : suAt mem k lo hi) (hk60 : k ≤ 60) (hkl : k ≤ lo) (hl1 : 1 ≤ lo) (hlh : lo ≤ hi) (hh : hi ≤ 150) : CM X (0, 0) 5 mX9_share G0 [vr 10, vi x, vi y, vr 79] mem (pV G0 fun m => lowF m (wPart k lo x y (hi + 1 - lo)) (wSum k lo (hi + 1 - lo)) ∧ ∀ x, x < 11 ∨ (16 < x ∧ x < 80) ∨ 88 ≤ x → m x = mem x) := by
  obtain ⟨hf0, hW⟩ := hs
  have hQ := wQ_pos hk60 hkl (show lo ≤ 150 by omega)
  have hWp : 0 < wSum k lo (hi + 1 - lo) * wQ k lo := Nat.mul_pos (wSum_pos hk60 (by omega) hkl (by omega)) hQ
  refine CM.of (by decide +kernel) 1 (Nat.le_of_ble_eq_true rfl) ?_
  show ZZ X (0, 0) 5 mX9_share G0 0 [vr 10, vi x, vi y, vr 79, vd] [] mem _
  have loop : ∀ (e c : Nat) (m : Mem), lo + c + e = hi + 1 → suF m k lo hi → natAt m 13 (wSum k lo (hi + 1 - lo) * wQ k lo) → natAt m 15 (wPart k lo x y c * wQ k lo) → (lo + c ≤ hi → natAt m 11 (wS k (lo + c - k) * wQ k lo)) → (∀ x, x < 11 ∨ 16 < x → m x = mem x) → ZZ X (0, 0) 5 mX9_share G0 18 [vr 10, vi x, vi y, vr 79, vi ((lo : Int) + (c : Int))] [] m (pV G0 fun m => lowF m (wPart k lo x y (hi + 1 - lo)) (wSum k lo (hi + 1 - lo)) ∧ ∀ x, x < 11 ∨ (16 < x ∧ x < 80) ∨ 88 ≤ x → m x = mem x) := by
    intro e
    induction e with
    | zero =>
      intro c m hc hf hw hp hv ho
      have hce : c = hi + 1 - lo := by omega
      subst hce
      refine z_iload dX9_share_18 rfl ?_
      refine z_aload_n dX9_share_20 rfl ?_
      refine z_gI 6 dX9_share_21 fl_X9_38 (by first | rfl | assumption) rfl rfl ?_
      rw [hf.2.2]
      refine z_icmp_gt 64 dX9_share_24 (by decide) (fun h24 => ?_) (fun h24 => ?_)
      · refine z_aload_n dX9_share_64 rfl ?_
        refine z_aload_n dX9_share_65 rfl ?_
        refine z_getR (ty := .int) dX9_share_66 fl_X9_19 (by first | rfl | assumption) rfl rfl ?_
        refine z_aload_n dX9_share_69 rfl ?_
        refine z_getR (ty := .int) dX9_share_70 fl_X9_16 (by first | rfl | assumption) rfl rfl ?_
        refine z_V2v dX9_share_73 ok_X4_become_ lk_X9_56 (by first | rfl | assumption) rfl rfl (Nat.le_of_ble_eq_true rfl) (by decide) (cm_X4_become_ isF_79 isN_15 isN_13 hp hw hWp (by decide) (by decide)) (fun m2 hm2 => ?_)
        obtain ⟨n1, on1⟩ := hm2
        rw [(q_low hQ).1, (q_low hQ).2] at n1
        refine z_vret dX9_share_76 rfl ?_
        refine ⟨rfl, rfl, n1, fun x hx => ?_⟩
        rw [on1 x (by omega)]
        exact ho x (by omega)
      · omega
    | succ e ih =>
      intro c m hc hf hw hp hv ho
      have hv1 := hv (by omega)
      have join : ∀ m' : Mem, suF m' k lo hi → natAt m' 13 (wSum k lo (hi + 1 - lo) * wQ k lo) → natAt m' 15 (wPart k lo x y (c + 1) * wQ k lo) → natAt m' 11 (wS k (lo + c - k) * wQ k lo) → (∀ x, x < 11 ∨ 16 < x → m' x = mem x) → ZZ X (0, 0) 5 mX9_share G0 50 [vr 10, vi x, vi y, vr 79, vi ((lo : Int) + (c : Int))] [] m' (pV G0 fun m => lowF m (wPart k lo x y (hi + 1 - lo)) (wSum k lo (hi + 1 - lo)) ∧ ∀ x, x < 11 ∨ (16 < x ∧ x < 80) ∨ 88 ≤ x → m x = mem x) := by
        intro m' hf' hw' hp' hv' ho'
        refine z_aload_n dX9_share_50 rfl ?_
        refine z_iload dX9_share_51 rfl ?_
        refine z_iconst dX9_share_53 (by decide) ?_
        refine z_iadd dX9_share_54 (by omega) ?_
        rw [show (lo : Int) + (c : Int) + 1 = ((lo + c + 1 : Nat) : Int) by omega]
        refine z_V1v dX9_share_55 ok_X9_step lk_X9_52 (by first | rfl | assumption) rfl rfl (Nat.le_of_ble_eq_true rfl) (by decide) (cm_X9_step (k := k) (hi := hi) (n := lo + c + 1) hf'.1 hf'.2.2 (by omega) (by omega) (by omega) hv' (mulZ (wQ_le hk60 hkl (by omega) c) (by omega : lo + c + 1 - k ≤ 1000) wP_lt)) (fun m3 hm3 => ?_)
        obtain ⟨s1, s2, on2⟩ := hm3
        refine z_iinc dX9_share_58 rfl (by omega) (by decide) rfl ?_
        dsimp only [List.set]
        refine z_goto 18 dX9_share_61 (by decide) ?_
        rw [show (lo : Int) + (c : Int) + 1 = (lo : Int) + ((c + 1 : Nat) : Int) by omega]
        refine ih (c + 1) _ (by omega) (hf'.off (on2 10 (by decide) (by decide))) (hw'.off on2 (by decide) (by decide) (by decide)) (hp'.off on2 (by decide) (by decide) (by decide)) (fun q => ?_) (fun x hx => ?_)
        · have s3 := s1 (by omega)
          have hst := wS_stepb (k := k) (d := lo + c - k) (b := wQ k lo) hk60 (by omega)
          rw [show lo + c - k + 1 = lo + c + 1 - k by omega, show k + (lo + c - k) + 1 = lo + c + 1 by omega] at hst
          rw [hst] at s3
          exact s3
        · rw [on2 x (by omega) (by omega)]
          exact ho' x hx
      have hpe : wPart k lo x y (c + 1) = wPart k lo x y c + (if x ≤ ((lo + c : Nat) : Int) ∧ ((lo + c : Nat) : Int) ≤ y then wS k (lo + c - k) else 0) := rfl
      have hb : ((wPart k lo x y c * wQ k lo + wS k (lo + c - k) * wQ k lo : Nat) : Int) < zB ^ 64 := by
        rw [← Nat.add_mul]
        exact lt64 (Nat.le_trans (Nat.mul_le_mul_right _ (Nat.add_le_add_right (wPart_le k lo x y c) _)) (wSumQ_lt1 hk60 hkl (by omega) (c := c + 1) (by omega)))
      refine z_iload dX9_share_18 rfl ?_
      refine z_aload_n dX9_share_20 rfl ?_
      refine z_gI 6 dX9_share_21 fl_X9_38 (by first | rfl | assumption) rfl rfl ?_
      rw [hf.2.2]
      refine z_icmp_gt 64 dX9_share_24 (by decide) (fun h24 => ?_) (fun h24 => ?_)
      · omega
      · refine z_iload dX9_share_27 rfl ?_
        refine z_iload_n dX9_share_29 rfl ?_
        refine z_icmp_lt 50 dX9_share_30 (by decide) (fun h30 => ?_) (fun h30 => ?_)
        · rw [if_neg (by omega)] at hpe
          first
          | exact join _ hf hw (by rw [hpe, Nat.add_zero]; exact hp) hv1 ho
          | exact join _ (hf.off (on1 10 (by decide) (by decide))) (hw.off on1 (by decide) (by decide) (by decide)) (by rw [hpe, Nat.add_mul]; exact n1) (hv1.off on1 (by decide) (by decide) (by decide)) (fun x hx => (on1 x (by omega) (by omega)).trans (ho x hx))
        · refine z_iload dX9_share_33 rfl ?_
          refine z_iload_n dX9_share_35 rfl ?_
          refine z_icmp_gt 50 dX9_share_36 (by decide) (fun h36 => ?_) (fun h36 => ?_)
          · rw [if_neg (by omega)] at hpe
            first
            | exact join _ hf hw (by rw [hpe, Nat.add_zero]; exact hp) hv1 ho
            | exact join _ (hf.off (on1 10 (by decide) (by decide))) (hw.off on1 (by decide) (by decide) (by decide)) (by rw [hpe, Nat.add_mul]; exact n1) (hv1.off on1 (by decide) (by decide) (by decide)) (fun x hx => (on1 x (by omega) (by omega)).trans (ho x hx))
          · rw [if_pos (by omega)] at hpe
            refine z_aload_n dX9_share_39 rfl ?_
            refine z_getR (ty := .int) dX9_share_40 fl_X9_19 (by first | rfl | assumption) rfl rfl ?_
            refine z_aload_n dX9_share_43 rfl ?_
            refine z_getR (ty := .int) dX9_share_44 fl_X9_10 (by first | rfl | assumption) rfl rfl ?_
            refine z_V1v dX9_share_47 ok_X8_add lk_X9_48 (by first | rfl | assumption) rfl rfl (Nat.le_of_ble_eq_true rfl) (by decide) (cm_X8_add isN_15 isN_11 hp hv1 (by decide) hb) (fun m2 hm2 => ?_)
            obtain ⟨n1, on1⟩ := hm2
            first
            | exact join _ hf hw (by rw [hpe, Nat.add_zero]; exact hp) hv1 ho
            | exact join _ (hf.off (on1 10 (by decide) (by decide))) (hw.off on1 (by decide) (by decide) (by decide)) (by rw [hpe, Nat.add_mul]; exact n1) (hv1.off on1 (by decide) (by decide) (by decide)) (fun x hx => (on1 x (by omega) (by omega)).trans (ho x hx))
  refine z_aload_n dX9_share_0 rfl ?_
  refine z_getR (ty := .int) dX9_share_1 fl_X9_19 (by first | rfl | assumption) rfl rfl ?_
  refine z_lconst (z := 0) dX9_share_4 rfl (by decide) ?_
  refine z_V1v dX9_share_5 ok_X8_become lk_X9_41 (by first | rfl | assumption) rfl rfl (Nat.le_of_ble_eq_true rfl) (by decide) (cm_X8_become isN_15 (by decide) (by decide)) (fun m2 hm2 => ?_)
  obtain ⟨n2, on2⟩ := hm2
  have f2 := hf0.off (on2 10 (by decide) (by decide))
  refine z_aload_n dX9_share_8 rfl ?_
  refine z_V0v dX9_share_9 ok_X9_begin lk_X9_45 (by first | rfl | assumption) rfl rfl (Nat.le_of_ble_eq_true rfl) (by decide) (cm_X9_begin) (fun m3 hm3 => ?_)
  obtain ⟨n3, on3⟩ := hm3
  have f3 := f2.off (on3 10 (by decide) (by decide))
  refine z_aload_n dX9_share_12 rfl ?_
  refine z_gI 5 dX9_share_13 fl_X9_35 (by first | rfl | assumption) rfl rfl ?_
  rw [f3.2.1]
  refine z_istore dX9_share_16 (by decide) rfl ?_
  dsimp only [List.set]
  refine (show (lo : Int) = (lo : Int) + ((0 : Nat) : Int) by omega) ▸ loop (hi + 1 - lo) 0 _ (by omega) f3 ((hW.off on2 (by decide) (by decide) (by decide)).off on3 (by decide) (by decide) (by decide)) (by rw [show wPart k lo x y 0 * wQ k lo = 0 from Nat.zero_mul _]; exact n2.off on3 (by decide) (by decide) (by decide)) (fun _ => by rw [Nat.add_zero, wQ_eq hk60 hkl (by omega)]; exact n3) (fun x hx => ?_)
  rw [on3 x (by omega) (by omega), on2 x (by omega) (by omega)]
theorem cm_X9_spanEnd {a b : Nat} (hs : suAt mem k lo hi) (hk60 : k ≤ 60) (hkl : k ≤ lo) (hl1 : 1 ≤ lo) (hlh : lo ≤ hi) (hh : hi ≤ 150) (ha1 : 1 ≤ a) (hab : a ≤ b) (hb1 : b ≤ 1000) : CM X (0, 0) 3 mX9_spanEnd G0 [vr 10, vi (a : Int), vi (b : Int)] mem (pI G0 fun z m => z = (spY k lo hi a b : Int) ∧ ∀ x, x < 11 ∨ (16 < x ∧ x < 105 ∧ x ≠ 30 ∧ x ≠ 31) → m x = mem x) := by
  obtain ⟨hf0, hW⟩ := hs
  unfold spY
  have hl150 : lo ≤ 150 := by omega
  have hQ := wQ_pos hk60 hkl hl150
  have hWb := wSumQ_lt hk60 hkl hl150 (c := hi + 1 - lo) (by omega)
  generalize hWe : wSum k lo (hi + 1 - lo) = W at hW hWb ⊢
  refine CM.of (by decide +kernel) 1 (Nat.le_of_ble_eq_true rfl) ?_
  show ZZ X (0, 0) 3 mX9_spanEnd G0 0 [vr 10, vi (a : Int), vi (b : Int), vd] [] mem _
  have last : ∀ (c : Nat) (m : Mem), c = spE k lo W a b (hi - lo) 0 → (∀ x, x < 11 ∨ (16 < x ∧ x < 105 ∧ x ≠ 30 ∧ x ≠ 31) → m x = mem x) → ZZ X (0, 0) 3 mX9_spanEnd G0 91 [vr 10, vi (a : Int), vi (b : Int), vi ((lo : Int) + (c : Int))] [] m (pI G0 fun z m => z = ((lo + spE k lo W a b (hi - lo) 0 : Nat) : Int) ∧ ∀ x, x < 11 ∨ (16 < x ∧ x < 105 ∧ x ≠ 30 ∧ x ≠ 31) → m x = mem x) := by
    intro c m hc ho
    rw [← hc]
    refine z_iload_n dX9_spanEnd_91 rfl ?_
    refine z_iret dX9_spanEnd_92 rfl ?_
    exact ⟨rfl, _, rfl, by omega, ho⟩
  have loop : ∀ (e c : Nat) (m : Mem), lo + c + e = hi → spE k lo W a b (hi - lo) 0 = spE k lo W a b e c → suF m k lo hi → natAt m 30 (W * wQ k lo * a) → natAt m 15 (wSum k lo (c + 1) * (wQ k lo * b)) → natAt m 11 (wS k (lo + c - k) * (wQ k lo * b)) → (∀ x, x < 11 ∨ (16 < x ∧ x < 105 ∧ x ≠ 30 ∧ x ≠ 31) → m x = mem x) → ZZ X (0, 0) 3 mX9_spanEnd G0 47 [vr 10, vi (a : Int), vi (b : Int), vi ((lo : Int) + (c : Int))] [] m (pI G0 fun z m => z = ((lo + spE k lo W a b (hi - lo) 0 : Nat) : Int) ∧ ∀ x, x < 11 ∨ (16 < x ∧ x < 105 ∧ x ≠ 30 ∧ x ≠ 31) → m x = mem x) := by
    intro e
    induction e with
    | zero =>
      intro c m hc hsp hf hw hp hv ho
      refine z_iload_n dX9_spanEnd_47 rfl ?_
      refine z_aload_n dX9_spanEnd_48 rfl ?_
      refine z_gI 6 dX9_spanEnd_49 fl_X9_38 (by first | rfl | assumption) rfl rfl ?_
      rw [hf.2.2]
      refine z_icmp_ge 91 dX9_spanEnd_52 (by decide) (fun h52 => ?_) (fun h52 => ?_)
      · exact last c _ hsp.symm ho
      · omega
    | succ e ih =>
      intro c m hc hsp hf hw hp hv ho
      have hse : spE k lo W a b (e + 1) c = if wSum k lo (c + 1) * b < W * a then spE k lo W a b e (c + 1) else c := rfl
      rw [hse] at hsp
      have hb2 : ((wSum k lo (c + 1) * (wQ k lo * b) + wS k (lo + c + 1 - k) * (wQ k lo * b) : Nat) : Int) < zB ^ 64 := by
        rw [← Nat.add_mul, ← Nat.mul_assoc]
        exact lt64 (wSumQ_ltb hk60 hkl hl150 (c := c + 2) (by omega) hb1)
      have hb3 : ((wS k (lo + c - k) * (wQ k lo * b) : Nat) : Int) * ((lo + c + 1 - k : Nat) : Int) < zB ^ 64 := by
        rw [← Nat.mul_assoc]
        exact mulZ (Nat.mul_le_mul (wQ_le hk60 hkl hl150 c) hb1) (by omega : lo + c + 1 - k ≤ 151) (by decide +kernel)
      refine z_iload_n dX9_spanEnd_47 rfl ?_
      refine z_aload_n dX9_spanEnd_48 rfl ?_
      refine z_gI 6 dX9_spanEnd_49 fl_X9_38 (by first | rfl | assumption) rfl rfl ?_
      rw [hf.2.2]
      refine z_icmp_ge 91 dX9_spanEnd_52 (by decide) (fun h52 => ?_) (fun h52 => ?_)
      · omega
      · refine z_aload_n dX9_spanEnd_55 rfl ?_
        refine z_getR (ty := .int) dX9_spanEnd_56 fl_X9_19 (by first | rfl | assumption) rfl rfl ?_
        refine z_aload_n dX9_spanEnd_59 rfl ?_
        refine z_getR (ty := .int) dX9_spanEnd_60 fl_X9_22 (by first | rfl | assumption) rfl rfl ?_
        refine z_V1i dX9_spanEnd_63 ok_X8_compareWith lk_X9_67 (by first | rfl | assumption) rfl rfl (Nat.le_of_ble_eq_true rfl) (by decide) (cm_X8_compareWith isN_15 isN_30 hp hw) (fun z1 m2 hm2 => ?_)
        obtain ⟨hz1, rfl⟩ := hm2
        refine z_if_ge 91 dX9_spanEnd_66 (by decide) (fun h66 => ?_) (fun h66 => ?_)
        · have hno : ¬ wSum k lo (c + 1) * b < W * a := by
            intro q
            rw [if_pos ((q_lt hQ).mpr q)] at hz1
            omega
          rw [if_neg hno] at hsp
          exact last c _ hsp.symm ho
        · have hyes : wSum k lo (c + 1) * b < W * a := by
            refine Classical.byContradiction fun q => ?_
            rw [if_neg (fun w => q ((q_lt hQ).mp w))] at hz1
            split at hz1 <;> omega
          rw [if_pos hyes] at hsp
          refine z_iinc dX9_spanEnd_69 rfl (by omega) (by decide) rfl ?_
          dsimp only [List.set]
          rw [show (lo : Int) + (c : Int) + 1 = ((lo + c + 1 : Nat) : Int) by omega]
          refine z_aload_n dX9_spanEnd_72 rfl ?_
          refine z_iload_n dX9_spanEnd_73 rfl ?_
          refine z_V1v dX9_spanEnd_74 ok_X9_step lk_X9_52 (by first | rfl | assumption) rfl rfl (Nat.le_of_ble_eq_true rfl) (by decide) (cm_X9_step (k := k) (hi := hi) (n := lo + c + 1) hf.1 hf.2.2 (by omega) (by omega) (by omega) hv hb3) (fun m3 hm3 => ?_)
          obtain ⟨s1, s2, on2⟩ := hm3
          have s3 := s1 (by omega)
          have hst := wS_stepb (k := k) (d := lo + c - k) (b := wQ k lo * b) hk60 (by omega)
          rw [show lo + c - k + 1 = lo + c + 1 - k by omega, show k + (lo + c - k) + 1 = lo + c + 1 by omega] at hst
          rw [hst] at s3
          refine z_aload_n dX9_spanEnd_77 rfl ?_
          refine z_getR (ty := .int) dX9_spanEnd_78 fl_X9_19 (by first | rfl | assumption) rfl rfl ?_
          refine z_aload_n dX9_spanEnd_81 rfl ?_
          refine z_getR (ty := .int) dX9_spanEnd_82 fl_X9_10 (by first | rfl | assumption) rfl rfl ?_
          refine z_V1v dX9_spanEnd_85 ok_X8_add lk_X9_48 (by first | rfl | assumption) rfl rfl (Nat.le_of_ble_eq_true rfl) (by decide) (cm_X8_add isN_15 isN_11 (hp.off on2 (by decide) (by decide) (by decide)) s3 (by decide) hb2) (fun m4 hm4 => ?_)
          obtain ⟨n4, on4⟩ := hm4
          refine z_goto 47 dX9_spanEnd_88 (by decide) ?_
          rw [show ((lo + c + 1 : Nat) : Int) = (lo : Int) + ((c + 1 : Nat) : Int) by omega]
          refine ih (c + 1) _ (by omega) hsp ((hf.off (on2 10 (by decide) (by decide))).off (on4 10 (by decide) (by decide))) ((hw.off on2 (by decide) (by decide) (by decide)).off on4 (by decide) (by decide) (by decide)) ?_ (s3.off on4 (by decide) (by decide) (by decide)) (fun x hx => ?_)
          · have hq : wSum k lo (c + 1 + 1) * (wQ k lo * b) = wSum k lo (c + 1) * (wQ k lo * b) + wS k (lo + c + 1 - k) * (wQ k lo * b) := Nat.add_mul _ _ _
            rw [hq]
            exact n4
          · rw [on4 x (by omega) (by omega), on2 x (by omega) (by omega)]
            exact ho x hx
  refine z_aload_n dX9_spanEnd_0 rfl ?_
  refine z_getR (ty := .int) dX9_spanEnd_1 fl_X9_22 (by first | rfl | assumption) rfl rfl ?_
  refine z_aload_n dX9_spanEnd_4 rfl ?_
  refine z_getR (ty := .int) dX9_spanEnd_5 fl_X9_16 (by first | rfl | assumption) rfl rfl ?_
  refine z_V1v dX9_spanEnd_8 ok_X8_copy lk_X9_61 (by first | rfl | assumption) rfl rfl (Nat.le_of_ble_eq_true rfl) (by decide) (cm_X8_copy isN_30 isN_13 hW (by decide)) (fun m2 hm2 => ?_)
  obtain ⟨n2, on2⟩ := hm2
  have f2 := hf0.off (on2 10 (by decide) (by decide))
  refine z_aload_n dX9_spanEnd_11 rfl ?_
  refine z_getR (ty := .int) dX9_spanEnd_12 fl_X9_22 (by first | rfl | assumption) rfl rfl ?_
  refine z_iload_n dX9_spanEnd_15 rfl ?_
  refine z_V1v dX9_spanEnd_16 ok_X8_multiply lk_X9_64 (by first | rfl | assumption) rfl rfl (Nat.le_of_ble_eq_true rfl) (by decide) (cm_X8_multiply isN_30 n2 (by omega) (by omega) (mulZ hWb (by omega : a ≤ 1000) (by decide +kernel))) (fun m3 hm3 => ?_)
  obtain ⟨n3, on3⟩ := hm3
  rw [Int.toNat_natCast] at n3
  have f3 := f2.off (on3 10 (by decide) (by decide))
  refine z_aload_n dX9_spanEnd_19 rfl ?_
  refine z_V0v dX9_spanEnd_20 ok_X9_begin lk_X9_45 (by first | rfl | assumption) rfl rfl (Nat.le_of_ble_eq_true rfl) (by decide) (cm_X9_begin) (fun m4 hm4 => ?_)
  obtain ⟨n4, on4⟩ := hm4
  have f4 := f3.off (on4 10 (by decide) (by decide))
  refine z_aload_n dX9_spanEnd_23 rfl ?_
  refine z_getR (ty := .int) dX9_spanEnd_24 fl_X9_10 (by first | rfl | assumption) rfl rfl ?_
  refine z_iload_n dX9_spanEnd_27 rfl ?_
  refine z_V1v dX9_spanEnd_28 ok_X8_multiply lk_X9_64 (by first | rfl | assumption) rfl rfl (Nat.le_of_ble_eq_true rfl) (by decide) (cm_X8_multiply isN_11 n4 (by omega) (by omega) (mulZ (Nat.le_refl wP) hb1 wP_lt)) (fun m5 hm5 => ?_)
  obtain ⟨n5, on5⟩ := hm5
  rw [Int.toNat_natCast, ← wQ_eq hk60 hkl hl150, Nat.mul_assoc] at n5
  have f5 := f4.off (on5 10 (by decide) (by decide))
  refine z_aload_n dX9_spanEnd_31 rfl ?_
  refine z_getR (ty := .int) dX9_spanEnd_32 fl_X9_19 (by first | rfl | assumption) rfl rfl ?_
  refine z_aload_n dX9_spanEnd_35 rfl ?_
  refine z_getR (ty := .int) dX9_spanEnd_36 fl_X9_10 (by first | rfl | assumption) rfl rfl ?_
  refine z_V1v dX9_spanEnd_39 ok_X8_copy lk_X9_61 (by first | rfl | assumption) rfl rfl (Nat.le_of_ble_eq_true rfl) (by decide) (cm_X8_copy isN_15 isN_11 n5 (by decide)) (fun m6 hm6 => ?_)
  obtain ⟨n6, on6⟩ := hm6
  have f6 := f5.off (on6 10 (by decide) (by decide))
  refine z_aload_n dX9_spanEnd_42 rfl ?_
  refine z_gI 5 dX9_spanEnd_43 fl_X9_35 (by first | rfl | assumption) rfl rfl ?_
  rw [f6.2.1]
  refine z_istore_n dX9_spanEnd_46 (by decide) rfl ?_
  dsimp only [List.set]
  refine (show (lo : Int) = (lo : Int) + ((0 : Nat) : Int) by omega) ▸ loop (hi - lo) 0 _ (by omega) rfl f6 (((n3.off on4 (by decide) (by decide) (by decide)).off on5 (by decide) (by decide) (by decide)).off on6 (by decide) (by decide) (by decide)) ?_ (n5.off on6 (by decide) (by decide) (by decide)) (fun x hx => ?_)
  · have hq : wSum k lo (0 + 1) = wS k (lo - k) := by
      show 0 + wS k (lo + 0 - k) = _
      rw [Nat.zero_add, Nat.add_zero]
    rw [hq]
    exact n6
  · rw [on6 x (by omega) (by omega), on5 x (by omega) (by omega), on4 x (by omega) (by omega), on3 x (by omega) (by omega), on2 x (by omega) (by omega)]
end Sure
