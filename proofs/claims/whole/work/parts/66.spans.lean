/-! ===== the reference's spans ===== -/
section Spans
variable {X : Nat × (Int → Int)} {mem : Mem} {k lo mo : Nat}
theorem cm_X12_spans {a b : Nat} (hw : rwAt mem k lo mo) (hm : mem 88 4 = (mo : Int)) (hk60 : k ≤ 60) (hkl : k ≤ lo) (hl1 : 1 ≤ lo) (hlm : lo ≤ mo) (hmo : mo ≤ 150) (ha1 : 1 ≤ a) (hab : a ≤ b) (hb1 : b ≤ 1000) : CM X (0, 0) 3 mX12_spans G0 [vr 88, vi (a : Int), vi (b : Int)] mem (pV G0 fun m => (m 88 10 = (lo : Int) ∧ m 88 11 = (spY k lo mo a b : Int)) ∧ onWg mem m ∧ m 88 9 = mem 88 9 ∧ m 92 = mem 92) := by
  obtain ⟨h9, hkp⟩ := hw
  obtain ⟨c, hc1, hc2, hc3, hc4⟩ := spY_r hk60 hkl hlm hmo hab
  rw [hc1]
  have hT := rSum_b2 (k := k) (lo := lo) (mo := mo) hmo (c := mo + 1 - lo) (by omega)
  generalize hTe : rSum k lo mo (mo + 1 - lo) = T at *
  refine CM.of (by decide +kernel) 2 (Nat.le_of_ble_eq_true rfl) ?_
  show ZZ X (0, 0) 3 mX12_spans G0 0 [vr 88, vi (a : Int), vi (b : Int), vd, vd] [] mem _
  have body : ∀ (j x : Nat) (m : Mem), lo ≤ x → x + j ≤ mo → on89 mem m → (∀ r v : Nat, r < 2 → regAt mem r v → regAt m r v) → regAt m 5 (T * a) → (∀ m' : Mem, on89 mem m' → (∀ r v : Nat, r < 2 → regAt mem r v → regAt m' r v) → regAt m' 5 (T * a) → ¬ (rSum k lo mo (x + j + 1 - lo) - rSum k lo mo (x - lo)) * b < T * a → ZZ X (0, 0) 3 mX12_spans G0 93 [vr 88, vi (a : Int), vi (b : Int), vi (j : Int), vi (x : Int)] [] m' (pV G0 fun m => (m 88 10 = (lo : Int) ∧ m 88 11 = ((lo + c : Nat) : Int)) ∧ onWg mem m ∧ m 88 9 = mem 88 9 ∧ m 92 = mem 92)) → (∀ m' : Mem, on89 mem m' → (∀ r v : Nat, r < 2 → regAt mem r v → regAt m' r v) → regAt m' 5 (T * a) → (rSum k lo mo (x + j + 1 - lo) - rSum k lo mo (x - lo)) * b < T * a → ZZ X (0, 0) 3 mX12_spans G0 108 [vr 88, vi (a : Int), vi (b : Int), vi (j : Int), vi (x : Int)] [] m' (pV G0 fun m => (m 88 10 = (lo : Int) ∧ m 88 11 = ((lo + c : Nat) : Int)) ∧ onWg mem m ∧ m 88 9 = mem 88 9 ∧ m 92 = mem 92)) → ZZ X (0, 0) 3 mX12_spans G0 46 [vr 88, vi (a : Int), vi (b : Int), vi (j : Int), vi (x : Int)] [] m (pV G0 fun m => (m 88 10 = (lo : Int) ∧ m 88 11 = ((lo + c : Nat) : Int)) ∧ onWg mem m ∧ m 88 9 = mem 88 9 ∧ m 92 = mem 92) := by
    intro j x m hx hxj ho hrg h5 kA kB
    have k1 := (hkp (x + j) hxj).2.row (ho 94 (by decide) (by decide))
    have k2 := (hkp (x - 1) (by omega)).2
    rw [show x - 1 + 1 - lo = x - lo by omega] at k2
    have hmon : rSum k lo mo (x - lo) ≤ rSum k lo mo (x + j + 1 - lo) := by
      have := rSum_mono (k := k) (lo := lo) (mo := mo) (x := x - lo) (j + 1)
      rw [show x - lo + (j + 1) = x + j + 1 - lo by omega] at this
      exact this
    have hbd := rSum_b2 (k := k) (lo := lo) (mo := mo) hmo (c := x + j + 1 - lo) (by omega)
    have hbd2 := Nat.le_trans (Nat.sub_le _ (rSum k lo mo (x - lo))) hbd
    refine z_aload_n dX12_spans_46 rfl ?_
    refine z_iconst dX12_spans_47 (by decide) ?_
    refine z_aload_n dX12_spans_48 rfl ?_
    refine z_getR (ty := .int) dX12_spans_49 fl_X12_25 (by first | rfl | assumption) rfl rfl ?_
    refine z_iload dX12_spans_52 rfl ?_
    refine z_iload_n dX12_spans_54 rfl ?_
    refine z_iadd dX12_spans_55 (by omega) ?_
    rw [show (x : Int) + (j : Int) = ((x + j : Nat) : Int) by omega]
    refine z_V3v dX12_spans_56 ok_X12_gets lk_X12_184 (by first | rfl | assumption) rfl rfl (Nat.le_of_ble_eq_true rfl) (by decide) (cm_X12_gets (r := 2) g0_94 (by decide) (by decide) (by omega : x + j < 152) (by decide) k1) (fun m2 hm2 => ?_)
    obtain ⟨r2, o2⟩ := hm2
    refine z_aload_n dX12_spans_59 rfl ?_
    refine z_iconst dX12_spans_60 (by decide) ?_
    refine z_aload_n dX12_spans_61 rfl ?_
    refine z_getR (ty := .int) dX12_spans_62 fl_X12_25 (by first | rfl | assumption) rfl rfl ?_
    refine z_iload dX12_spans_65 rfl ?_
    refine z_iconst dX12_spans_67 (by decide) ?_
    refine z_isub dX12_spans_68 (by omega) ?_
    rw [show (x : Int) - 1 = ((x - 1 : Nat) : Int) by omega]
    refine z_V3v dX12_spans_69 ok_X12_gets lk_X12_184 (by first | rfl | assumption) rfl rfl (Nat.le_of_ble_eq_true rfl) (by decide) (cm_X12_gets (r := 3) g0_94 (by decide) (by decide) (by omega : x - 1 < 152) (by decide) (k2.row ((o2.1 94 (by decide) (by decide)).trans (ho 94 (by decide) (by decide))))) (fun m3 hm3 => ?_)
    obtain ⟨r3, o3⟩ := hm3
    refine z_aload_n dX12_spans_72 rfl ?_
    refine z_iconst dX12_spans_73 (by decide) ?_
    refine z_iconst dX12_spans_74 (by decide) ?_
    refine z_V2v dX12_spans_75 ok_X12_lessens lk_X12_88 (by first | rfl | assumption) rfl rfl (Nat.le_of_ble_eq_true rfl) (by decide) (cm_X12_lessens (r := 2) (s := 3) (by decide) (by decide) (by decide) (r2.off o3 (by decide)) r3 hmon) (fun m4 hm4 => ?_)
    obtain ⟨r4, o4⟩ := hm4
    refine z_aload_n dX12_spans_78 rfl ?_
    refine z_iconst dX12_spans_79 (by decide) ?_
    refine z_iload_n dX12_spans_80 rfl ?_
    refine z_V2v dX12_spans_81 ok_X12_times lk_X12_159 (by first | rfl | assumption) rfl rfl (Nat.le_of_ble_eq_true rfl) (by decide) (cm_X12_times (r := 2) (by decide) r4 (by omega) (by omega) (lt66 hbd2 hb1)) (fun m5 hm5 => ?_)
    obtain ⟨r5, o5⟩ := hm5
    rw [Int.toNat_natCast] at r5
    have h5' := (((h5.off o2 (by decide)).off o3 (by decide)).off o4 (by decide)).off o5 (by decide)
    refine z_aload_n dX12_spans_84 rfl ?_
    refine z_iconst dX12_spans_85 (by decide) ?_
    refine z_iconst dX12_spans_86 (by decide) ?_
    refine z_V2i dX12_spans_87 ok_X12_against lk_X12_84 (by first | rfl | assumption) rfl rfl (Nat.le_of_ble_eq_true rfl) (by decide) (cm_X12_against (r := 2) (s := 5) (by decide) (by decide) r5 h5') (fun z1 m6 hm6 => ?_)
    obtain ⟨hz, rfl⟩ := hm6
    have ho' := (((ho.tr o2.to).tr o3.to).tr o4.to).tr o5.to
    have hrg' : ∀ r v : Nat, r < 2 → regAt mem r v → regAt m6 r v := fun r v hr hv => ((((hrg r v hr hv).off o2 (by omega)).off o3 (by omega)).off o4 (by omega)).off o5 (by omega)
    refine z_if_lt 108 dX12_spans_90 (by decide) (fun h90 => ?_) (fun h90 => ?_)
    · refine kB _ ho' hrg' h5' (Classical.byContradiction fun q => ?_)
      rw [if_neg q] at hz
      split at hz <;> omega
    · refine kA _ ho' hrg' h5' (fun q => ?_)
      rw [if_pos q] at hz
      omega
  have inner : ∀ (j : Nat), j < c → ∀ (e x : Nat) (m : Mem), x + j + e = mo + 1 → lo ≤ x → on89 mem m → (∀ r v : Nat, r < 2 → regAt mem r v → regAt m r v) → regAt m 5 (T * a) → (∀ (x' : Nat) (m' : Mem), on89 mem m' → (∀ r v : Nat, r < 2 → regAt mem r v → regAt m' r v) → regAt m' 5 (T * a) → ZZ X (0, 0) 3 mX12_spans G0 114 [vr 88, vi (a : Int), vi (b : Int), vi (j : Int), vi (x' : Int)] [] m' (pV G0 fun m => (m 88 10 = (lo : Int) ∧ m 88 11 = ((lo + c : Nat) : Int)) ∧ onWg mem m ∧ m 88 9 = mem 88 9 ∧ m 92 = mem 92)) → ZZ X (0, 0) 3 mX12_spans G0 35 [vr 88, vi (a : Int), vi (b : Int), vi (j : Int), vi (x : Int)] [] m (pV G0 fun m => (m 88 10 = (lo : Int) ∧ m 88 11 = ((lo + c : Nat) : Int)) ∧ onWg mem m ∧ m 88 9 = mem 88 9 ∧ m 92 = mem 92) := by
    intro j hj e
    induction e with
    | zero =>
      intro x m he hx ho hrg h5 kk
      have h4 : m 88 4 = (mo : Int) := by rw [ho 88 (by decide) (by decide)]; exact hm
      refine z_iload dX12_spans_35 rfl ?_
      refine z_iload_n dX12_spans_37 rfl ?_
      refine z_iadd dX12_spans_38 (by omega) ?_
      refine z_aload_n dX12_spans_39 rfl ?_
      refine z_gI 4 dX12_spans_40 fl_X12_59 (by first | rfl | assumption) rfl rfl ?_
      rw [h4]
      refine z_icmp_gt 114 dX12_spans_43 (by decide) (fun h43 => ?_) (fun h43 => ?_)
      · exact kk x m ho hrg h5
      · omega
    | succ e ih =>
      intro x m he hx ho hrg h5 kk
      have h4 : m 88 4 = (mo : Int) := by rw [ho 88 (by decide) (by decide)]; exact hm
      have hwin := rWin (k := k) (lo := lo) (mo := mo) (c := j + 1) (x := x - lo) (by omega)
      rw [show x - lo + (j + 1) = x + j + 1 - lo by omega] at hwin
      have hlt := hc4 j hj
      have hle := Nat.mul_le_mul_right b hwin
      have bd := body j x m hx (by omega) ho hrg h5 (fun m' _ _ _ q => absurd (Nat.lt_of_le_of_lt hle hlt) q) (fun m' ho' hrg' h5' _ => by
        refine z_iinc dX12_spans_108 rfl (by omega) (by decide) rfl ?_
        dsimp only [List.set]
        refine z_goto 35 dX12_spans_111 (by decide) ?_
        rw [show (x : Int) + 1 = ((x + 1 : Nat) : Int) by omega]
        exact ih (x + 1) m' (by omega) (by omega) ho' hrg' h5' kk
        )
      refine z_iload dX12_spans_35 rfl ?_
      refine z_iload_n dX12_spans_37 rfl ?_
      refine z_iadd dX12_spans_38 (by omega) ?_
      refine z_aload_n dX12_spans_39 rfl ?_
      refine z_gI 4 dX12_spans_40 fl_X12_59 (by first | rfl | assumption) rfl rfl ?_
      rw [h4]
      refine z_icmp_gt 114 dX12_spans_43 (by decide) (fun h43 => ?_) (fun h43 => ?_)
      · omega
      · exact bd
  have outer : ∀ (e j : Nat) (m : Mem) (u4 : VV), j + e = c → on89 mem m → (∀ r v : Nat, r < 2 → regAt mem r v → regAt m r v) → regAt m 5 (T * a) → ZZ X (0, 0) 3 mX12_spans G0 21 [vr 88, vi (a : Int), vi (b : Int), vi (j : Int), u4] [] m (pV G0 fun m => (m 88 10 = (lo : Int) ∧ m 88 11 = ((lo + c : Nat) : Int)) ∧ onWg mem m ∧ m 88 9 = mem 88 9 ∧ m 92 = mem 92) := by
    intro e
    induction e with
    | zero =>
      intro j m u4 he ho hrg h5
      have h4 : m 88 4 = (mo : Int) := by rw [ho 88 (by decide) (by decide)]; exact hm
      have h9' : m 88 9 = (lo : Int) := by rw [ho 88 (by decide) (by decide)]; exact h9
      have hjc : j = c := by omega
      subst hjc
      have bd := body j lo m (Nat.le_refl _) hc2 ho hrg h5 (fun m' ho' hrg' h5' _ => by
        refine z_aload_n dX12_spans_93 rfl ?_
        refine z_iload dX12_spans_94 rfl ?_
        refine z_pI 10 dX12_spans_96 fm_X12_190 (by first | rfl | assumption) rfl rfl ?_
        refine z_aload_n dX12_spans_99 rfl ?_
        refine z_iload dX12_spans_100 rfl ?_
        refine z_iload_n dX12_spans_102 rfl ?_
        refine z_iadd dX12_spans_103 (by omega) ?_
        refine z_pI 11 dX12_spans_104 fm_X12_193 (by first | rfl | assumption) rfl rfl ?_
        refine z_vret dX12_spans_107 rfl ?_
        refine ⟨rfl, rfl, ⟨?_, ?_⟩, ⟨fun x hx => ?_, fun j' q1 q2 q3 => ?_, fun r v hr hv => ?_⟩, ?_, ?_⟩
        · rw [mset_nej _ _ (by decide)]; exact mset_eq _ _ _ _
        · rw [mset_eq]; omega
        · rw [mset_ne _ (by omega), mset_ne _ (by omega)]; exact ho' x (by omega) (by omega)
        · rw [mset_nej _ _ q3, mset_nej _ _ q2, ho' 88 (by decide) (by decide)]
        · exact (hrg' r v hr hv).kp (by rw [mset_ne _ (by decide), mset_ne _ (by decide)]) (by rw [mset_ne _ (by decide), mset_ne _ (by decide)])
        · rw [mset_nej _ _ (by decide), mset_nej _ _ (by decide), ho' 88 (by decide) (by decide)]
        · rw [mset_ne _ (by decide), mset_ne _ (by decide)]; exact ho' 92 (by decide) (by decide)
        ) (fun m' _ _ _ q => by
          rw [show lo + j + 1 - lo = j + 1 by omega, Nat.sub_self] at q
          exact absurd q (Nat.not_lt.mpr hc3))
      refine z_kill 4 ?_
      dsimp only [List.set]
      refine z_iload_n dX12_spans_21 rfl ?_
      refine z_aload_n dX12_spans_22 rfl ?_
      refine z_gI 4 dX12_spans_23 fl_X12_59 (by first | rfl | assumption) rfl rfl ?_
      rw [h4]
      refine z_icmp_ge 120 dX12_spans_26 (by decide) (fun h26 => ?_) (fun h26 => ?_)
      · omega
      · refine z_aload_n dX12_spans_29 rfl ?_
        refine z_gI 9 dX12_spans_30 fl_X12_156 (by first | rfl | assumption) rfl rfl ?_
        rw [h9']
        refine z_istore dX12_spans_33 (by decide) rfl ?_
        dsimp only [List.set]
        refine z_iload dX12_spans_35 rfl ?_
        refine z_iload_n dX12_spans_37 rfl ?_
        refine z_iadd dX12_spans_38 (by omega) ?_
        refine z_aload_n dX12_spans_39 rfl ?_
        refine z_gI 4 dX12_spans_40 fl_X12_59 (by first | rfl | assumption) rfl rfl ?_
        rw [h4]
        refine z_icmp_gt 114 dX12_spans_43 (by decide) (fun h43 => ?_) (fun h43 => ?_)
        · omega
        · exact bd
    | succ e ih =>
      intro j m u4 he ho hrg h5
      have h4 : m 88 4 = (mo : Int) := by rw [ho 88 (by decide) (by decide)]; exact hm
      have h9' : m 88 9 = (lo : Int) := by rw [ho 88 (by decide) (by decide)]; exact h9
      have inn := inner j (by omega) (mo + 1 - lo - j) lo m (by omega) (Nat.le_refl _) ho hrg h5 (fun x' m' ho' hrg' h5' => by
        refine z_iinc dX12_spans_114 rfl (by omega) (by decide) rfl ?_
        dsimp only [List.set]
        refine z_goto 21 dX12_spans_117 (by decide) ?_
        rw [show (j : Int) + 1 = ((j + 1 : Nat) : Int) by omega]
        exact ih (j + 1) m' _ (by omega) ho' hrg' h5'
        )
      refine z_kill 4 ?_
      dsimp only [List.set]
      refine z_iload_n dX12_spans_21 rfl ?_
      refine z_aload_n dX12_spans_22 rfl ?_
      refine z_gI 4 dX12_spans_23 fl_X12_59 (by first | rfl | assumption) rfl rfl ?_
      rw [h4]
      refine z_icmp_ge 120 dX12_spans_26 (by decide) (fun h26 => ?_) (fun h26 => ?_)
      · omega
      · refine z_aload_n dX12_spans_29 rfl ?_
        refine z_gI 9 dX12_spans_30 fl_X12_156 (by first | rfl | assumption) rfl rfl ?_
        rw [h9']
        refine z_istore dX12_spans_33 (by decide) rfl ?_
        dsimp only [List.set]
        exact inn
  have kT := (hkp mo (Nat.le_refl _)).2
  rw [hTe] at kT
  refine z_aload_n dX12_spans_0 rfl ?_
  refine z_iconst dX12_spans_1 (by decide) ?_
  refine z_aload_n dX12_spans_2 rfl ?_
  refine z_getR (ty := .int) dX12_spans_3 fl_X12_25 (by first | rfl | assumption) rfl rfl ?_
  refine z_aload_n dX12_spans_6 rfl ?_
  refine z_gI 4 dX12_spans_7 fl_X12_59 (by first | rfl | assumption) rfl rfl ?_
  rw [hm]
  refine z_V3v dX12_spans_10 ok_X12_gets lk_X12_184 (by first | rfl | assumption) rfl rfl (Nat.le_of_ble_eq_true rfl) (by decide) (cm_X12_gets (r := 5) g0_94 (by decide) (by decide) (by omega : mo < 152) (by decide) kT) (fun m2 hm2 => ?_)
  obtain ⟨r2, o2⟩ := hm2
  refine z_aload_n dX12_spans_13 rfl ?_
  refine z_iconst dX12_spans_14 (by decide) ?_
  refine z_iload_n dX12_spans_15 rfl ?_
  refine z_V2v dX12_spans_16 ok_X12_times lk_X12_159 (by first | rfl | assumption) rfl rfl (Nat.le_of_ble_eq_true rfl) (by decide) (cm_X12_times (r := 5) (by decide) r2 (by omega) (by omega) (lt66 hT (by omega))) (fun m3 hm3 => ?_)
  obtain ⟨r3, o3⟩ := hm3
  rw [Int.toNat_natCast] at r3
  refine z_iconst dX12_spans_19 (by decide) ?_
  refine z_istore_n dX12_spans_20 (by decide) rfl ?_
  dsimp only [List.set]
  exact outer c 0 _ _ (by omega) (o2.to.tr o3.to) (fun r v hr hv => (hv.off o2 (by omega)).off o3 (by omega)) r3
end Spans
