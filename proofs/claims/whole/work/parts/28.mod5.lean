section ModE
variable {X : Nat × (Int → Int)} {mem : Mem}
theorem reg_wide {r v : Nat} (hv : regAt mem r v) : ∃ n : Nat, mem 90 (r : Int) = (n : Int) ∧ n ≤ 66 ∧ (n = 0 ↔ v = 0) := by
  obtain ⟨hd, hnv, n, hn, hwd, hz, ht⟩ := hv
  have hvn : nv (rowM mem r) n = (v : Int) := by rw [← hnv]; exact (nv_pad hn hz).symm
  refine ⟨n, hwd, hn, ?_, ?_⟩
  · intro q
    subst q
    have : nv (rowM mem r) 0 = 0 := rfl
    omega
  · intro q
    have := nv_top (k := 0) (fun j hj => hd j (by omega)) ht (by rw [hvn, q]; decide)
    omega
theorem gcd_half {x y : Nat} (hx : x % 2 = 0) (hy : y % 2 = 1) : Nat.gcd (x / 2) y = Nat.gcd x y := by
  have e : x = 2 ^ 1 * (x / 2) := by omega
  rw [e, gcd_odd_mul hy, Nat.mul_div_cancel_left _ (by decide)]
/-- lowers: registers 0 and 1 in lowest terms -/
theorem cm_X12_lowers {a b : Nat} (ha : regAt mem 0 a) (hb : regAt mem 1 b) (hb0 : 0 < b) : CM X (0, 0) 2 mX12_lowers G0 [vr 88] mem (pV G0 fun m => regAt m 0 (a / Nat.gcd a b) ∧ regAt m 1 (b / Nat.gcd a b) ∧ on89 mem m) := by
  obtain ⟨n, hwd, hn66, hn⟩ := reg_wide ha
  have hwd' : mem 90 0 = (n : Int) := hwd
  refine CM.of (by decide +kernel) 1 (Nat.le_of_ble_eq_true rfl) ?_
  show ZZ X (0, 0) 2 mX12_lowers G0 0 [vr 88, vd] [] mem _
  by_cases ha0 : a = 0
  · have hn0 := hn.mpr ha0
    subst ha0
    rw [Nat.gcd_zero_left, Nat.zero_div, Nat.div_self hb0]
    refine z_aload_n dX12_lowers_0 rfl ?_
    refine z_getR (ty := .int) dX12_lowers_1 fl_X12_13 (by first | rfl | assumption) rfl rfl ?_
    refine z_iconst dX12_lowers_4 (by decide) ?_
    refine z_iald dX12_lowers_5 (by first | rfl | assumption) (by omega) (by omega) ?_
    rw [hwd', hn0]
    refine z_if_ne 16 dX12_lowers_6 (by decide) (fun h6 => ?_) (fun h6 => ?_)
    · exact absurd rfl h6
    · refine z_aload_n dX12_lowers_9 rfl ?_
      refine z_iconst dX12_lowers_10 (by decide) ?_
      refine z_lconst (z := 1) dX12_lowers_11 rfl (by decide) ?_
      refine z_V2v dX12_lowers_12 ok_X12_sets lk_X12_63 (by first | rfl | assumption) rfl rfl (Nat.le_of_ble_eq_true rfl) (by decide) (cm_X12_sets (r := 1) (v := 1) (by decide) (by decide)) (fun m1 hm1 => ?_)
      refine z_vret dX12_lowers_15 rfl ?_
      exact ⟨rfl, rfl, ha.off hm1.2 (by decide), hm1.1, hm1.2.to⟩
  · have hn0 : n ≠ 0 := fun q => ha0 (hn.mp q)
    have ha' : 0 < a := by omega
    -- the second part: both by the odd measure
    have last : ∀ (g x y k : Nat) (m : Mem), a = 2 ^ k * x → b = 2 ^ k * y → Nat.gcd x y = g → g % 2 = 1 → regAt m 0 x → regAt m 1 y → regAt m 3 g → on89 mem m → ∀ w : VV, ZZ X (0, 0) 2 mX12_lowers G0 145 [vr 88, w] [] m (pV G0 fun m => regAt m 0 (a / Nat.gcd a b) ∧ regAt m 1 (b / Nat.gcd a b) ∧ on89 mem m) := by
      intro g x y k m ea eb hg hodd h0 h1 h3 hon w
      have hgab : Nat.gcd a b = 2 ^ k * g := by rw [ea, eb, Nat.gcd_mul_left, hg]
      have d1 : a / Nat.gcd a b = x / g := by rw [hgab, ea, Nat.mul_div_mul_left _ _ (Nat.two_pow_pos k)]
      have d2 : b / Nat.gcd a b = y / g := by rw [hgab, eb, Nat.mul_div_mul_left _ _ (Nat.two_pow_pos k)]
      rw [d1, d2]
      refine z_aload_n dX12_lowers_145 rfl ?_
      refine z_iconst dX12_lowers_146 (by decide) ?_
      refine z_V1v dX12_lowers_147 ok_X12_parts lk_X12_91 (by first | rfl | assumption) rfl rfl (Nat.le_of_ble_eq_true rfl) (by decide) (cm_X12_parts (r := 0) (by decide) h0 h3 hodd (hg ▸ Nat.gcd_dvd_left x y)) (fun m1 hm1 => ?_)
      obtain ⟨p1, p2, p3⟩ := hm1
      refine z_aload_n dX12_lowers_150 rfl ?_
      refine z_iconst dX12_lowers_151 (by decide) ?_
      refine z_V1v dX12_lowers_152 ok_X12_parts lk_X12_91 (by first | rfl | assumption) rfl rfl (Nat.le_of_ble_eq_true rfl) (by decide) (cm_X12_parts (r := 1) (by decide) (p3 1 y (by decide) (by decide) h1) (p3 3 g (by decide) (by decide) h3) hodd (hg ▸ Nat.gcd_dvd_right x y)) (fun m2 hm2 => ?_)
      obtain ⟨q1, q2, q3⟩ := hm2
      refine z_vret dX12_lowers_155 rfl ?_
      exact ⟨rfl, rfl, q3 0 _ (by decide) (by decide) p1, q1, (hon.tr p2).tr q2⟩
    -- the turns of the measuring
    have main : ∀ (N g x y k s t : Nat) (m : Mem) (w : VV), s + t ≤ N → a = 2 ^ k * x → b = 2 ^ k * y → Nat.gcd x y = g → g % 2 = 1 → 0 < t → regAt m 0 x → regAt m 1 y → regAt m 2 s → regAt m 3 t → on89 mem m → (∀ z, w ≠ vl z) → (s = 0 → t = g) → (0 < s → ∃ i j s0 t0 : Nat, s = 2 ^ i * s0 ∧ t = 2 ^ j * t0 ∧ s0 % 2 = 1 ∧ t0 % 2 = 1 ∧ Nat.gcd s0 t0 = g) →
        ZZ X (0, 0) 2 mX12_lowers G0 57 [vr 88, w] [] m (pV G0 fun m => regAt m 0 (a / Nat.gcd a b) ∧ regAt m 1 (b / Nat.gcd a b) ∧ on89 mem m) := by
      intro N
      induction N with
      | zero => intro g x y k s t m w h1 _ _ _ _ h2; omega
      | succ N ih =>
        intro g x y k s t m w hst ea eb hg hodd ht0 h0 h1 h2 h3 hon hw hs0 hsp
        refine z_kill 1 ?_
        dsimp only [List.set]
        obtain ⟨n2, hw2, hn2, hn20⟩ := reg_wide h2
        have hw2' : m 90 2 = (n2 : Int) := hw2
        -- behind the twos of both
        have sub : ∀ (s1 t1 : Nat) (m1 : Mem), s1 ≤ s → t1 ≤ t → s1 % 2 = 1 → t1 % 2 = 1 → Nat.gcd s1 t1 = g → regAt m1 0 x → regAt m1 1 y → regAt m1 2 s1 → regAt m1 3 t1 → on89 mem m1 →
            ZZ X (0, 0) 2 mX12_lowers G0 98 [vr 88, vd] [] m1 (pV G0 fun m => regAt m 0 (a / Nat.gcd a b) ∧ regAt m 1 (b / Nat.gcd a b) ∧ on89 mem m) := by
          intro s1 t1 m1 hs1 ht1 os ot hgg k0 k1 k2 k3 hon1
          by_cases hlt : s1 < t1
          · obtain ⟨i, u, hiu⟩ := odd_part (t1 - s1) (by omega)
            obtain ⟨g1, g2⟩ := gcd_turn ot os hlt hiu
            refine z_aload_n dX12_lowers_98 rfl ?_
            refine z_iconst dX12_lowers_99 (by decide) ?_
            refine z_iconst dX12_lowers_100 (by decide) ?_
            refine z_V2i dX12_lowers_101 ok_X12_against lk_X12_84 (by first | rfl | assumption) rfl rfl (Nat.le_of_ble_eq_true rfl) (by decide) (cm_X12_against (r := 2) (s := 3) (by decide) (by decide) k2 k3) (fun z m2 hm2 => ?_)
            obtain ⟨rfl, rfl⟩ := hm2
            rw [if_pos hlt]
            refine z_if_lt 111 dX12_lowers_104 (by decide) (fun h104 => ?_) (fun h104 => ?_)
            · refine z_iconst dX12_lowers_111 (by decide) ?_
              refine z_istore_n dX12_lowers_112 (by decide) rfl ?_
              dsimp only [List.set]
              refine z_aload_n dX12_lowers_113 rfl ?_
              refine z_iload_n dX12_lowers_114 rfl ?_
              refine z_iconst dX12_lowers_115 (by decide) ?_
              refine z_iload_n dX12_lowers_116 rfl ?_
              refine z_isub dX12_lowers_117 (by omega) ?_
              refine z_V2v dX12_lowers_118 ok_X12_lessens lk_X12_88 (by first | rfl | assumption) rfl rfl (Nat.le_of_ble_eq_true rfl) (by decide) (cm_X12_lessens (r := 3) (s := 2) (by decide) (by decide) (by decide) k3 k2 (by omega)) (fun m3 hm3 => ?_)
              obtain ⟨l1, l2⟩ := hm3
              obtain ⟨n3, hw3, -, hn3⟩ := reg_wide l1
              have hw3' : m3 90 3 = (n3 : Int) := hw3
              refine z_aload_n dX12_lowers_121 rfl ?_
              refine z_getR (ty := .int) dX12_lowers_122 fl_X12_13 (by first | rfl | assumption) rfl rfl ?_
              refine z_iconst dX12_lowers_125 (by decide) ?_
              refine z_iald dX12_lowers_126 (by first | rfl | assumption) (by omega) (by omega) ?_
              rw [hw3']
              refine z_if_ne 142 dX12_lowers_127 (by decide) (fun h127 => ?_) (fun h127 => ?_)
              · refine z_goto 57 dX12_lowers_142 (by decide) ?_
                exact ih g x y k s1 (t1 - s1) _ _ (by omega) ea eb hg hodd (by omega) (k0.off l2 (by decide)) (k1.off l2 (by decide)) (k2.off l2 (by decide)) l1 (hon1.tr l2.to) (by intro z q; cases q) (fun q => by omega) (fun _ => ⟨0, i, s1, 2 * u + 1, by simp, hiu, os, by omega, by rw [Nat.gcd_comm, g1, Nat.gcd_comm, hgg]⟩)
              · omega
            · omega
          · refine z_aload_n dX12_lowers_98 rfl ?_
            refine z_iconst dX12_lowers_99 (by decide) ?_
            refine z_iconst dX12_lowers_100 (by decide) ?_
            refine z_V2i dX12_lowers_101 ok_X12_against lk_X12_84 (by first | rfl | assumption) rfl rfl (Nat.le_of_ble_eq_true rfl) (by decide) (cm_X12_against (r := 2) (s := 3) (by decide) (by decide) k2 k3) (fun z m2 hm2 => ?_)
            obtain ⟨rfl, rfl⟩ := hm2
            rw [if_neg hlt]
            refine z_if_lt 111 dX12_lowers_104 (by decide) (fun h104 => ?_) (fun h104 => ?_)
            · exfalso; split at h104 <;> omega
            · refine z_iconst dX12_lowers_107 (by decide) ?_
              refine z_goto 112 dX12_lowers_108 (by decide) ?_
              refine z_istore_n dX12_lowers_112 (by decide) rfl ?_
              dsimp only [List.set]
              refine z_aload_n dX12_lowers_113 rfl ?_
              refine z_iload_n dX12_lowers_114 rfl ?_
              refine z_iconst dX12_lowers_115 (by decide) ?_
              refine z_iload_n dX12_lowers_116 rfl ?_
              refine z_isub dX12_lowers_117 (by omega) ?_
              refine z_V2v dX12_lowers_118 ok_X12_lessens lk_X12_88 (by first | rfl | assumption) rfl rfl (Nat.le_of_ble_eq_true rfl) (by decide) (cm_X12_lessens (r := 2) (s := 3) (by decide) (by decide) (by decide) k2 k3 (by omega)) (fun m3 hm3 => ?_)
              obtain ⟨l1, l2⟩ := hm3
              have k3' := k3.off l2 (by decide)
              obtain ⟨n3, hw3, -, hn3⟩ := reg_wide k3'
              have hw3' : m3 90 3 = (n3 : Int) := hw3
              refine z_aload_n dX12_lowers_121 rfl ?_
              refine z_getR (ty := .int) dX12_lowers_122 fl_X12_13 (by first | rfl | assumption) rfl rfl ?_
              refine z_iconst dX12_lowers_125 (by decide) ?_
              refine z_iald dX12_lowers_126 (by first | rfl | assumption) (by omega) (by omega) ?_
              rw [hw3']
              refine z_if_ne 142 dX12_lowers_127 (by decide) (fun h127 => ?_) (fun h127 => ?_)
              · refine z_goto 57 dX12_lowers_142 (by decide) ?_
                refine ih g x y k (s1 - t1) t1 _ _ (by omega) ea eb hg hodd (by omega) (k0.off l2 (by decide)) (k1.off l2 (by decide)) l1 k3' (hon1.tr l2.to) (by intro z q; cases q) (fun q => ?_) (fun q => ?_)
                · have : s1 = t1 := by omega
                  rw [this, Nat.gcd_self] at hgg
                  exact hgg
                · obtain ⟨i, u, hiu⟩ := odd_part (s1 - t1) q
                  obtain ⟨g1, g2⟩ := gcd_turn os ot (by omega) hiu
                  exact ⟨i, 0, 2 * u + 1, t1, hiu, by simp, by omega, ot, by rw [g1, hgg]⟩
              · omega
        -- the twos of register 3
        have twoB : ∀ (j s1 t0 : Nat) (m1 : Mem), s1 ≤ s → 2 ^ j * t0 ≤ t → s1 % 2 = 1 → t0 % 2 = 1 → Nat.gcd s1 t0 = g → regAt m1 0 x → regAt m1 1 y → regAt m1 2 s1 → regAt m1 3 (2 ^ j * t0) → on89 mem m1 →
            ZZ X (0, 0) 2 mX12_lowers G0 82 [vr 88, vd] [] m1 (pV G0 fun m => regAt m 0 (a / Nat.gcd a b) ∧ regAt m 1 (b / Nat.gcd a b) ∧ on89 mem m) := by
          intro j
          induction j with
          | zero =>
            intro s1 t0 m1 e1 e2 os ot hgg k0 k1 k2 k3 hon1
            rw [Nat.pow_zero, Nat.one_mul] at e2 k3
            refine z_aload_n dX12_lowers_82 rfl ?_
            refine z_iconst dX12_lowers_83 (by decide) ?_
            refine z_V1i dX12_lowers_84 ok_X12_isEven lk_X12_73 (by first | rfl | assumption) rfl rfl (Nat.le_of_ble_eq_true rfl) (by decide) (cm_X12_isEven (r := 3) (by decide) k3) (fun z m2 hm2 => ?_)
            obtain ⟨rfl, rfl⟩ := hm2
            rw [if_neg (by omega)]
            refine z_if_eq 98 dX12_lowers_87 (by decide) (fun h87 => ?_) (fun h87 => ?_)
            · exact sub s1 t0 _ e1 e2 os ot hgg k0 k1 k2 k3 hon1
            · exact absurd rfl h87
          | succ j ihj =>
            intro s1 t0 m1 e1 e2 os ot hgg k0 k1 k2 k3 hon1
            have ev : 2 ^ (j + 1) * t0 = 2 * (2 ^ j * t0) := by rw [Nat.pow_succ, Nat.mul_comm (2 ^ j) 2, Nat.mul_assoc]
            rw [ev] at e2 k3
            refine z_aload_n dX12_lowers_82 rfl ?_
            refine z_iconst dX12_lowers_83 (by decide) ?_
            refine z_V1i dX12_lowers_84 ok_X12_isEven lk_X12_73 (by first | rfl | assumption) rfl rfl (Nat.le_of_ble_eq_true rfl) (by decide) (cm_X12_isEven (r := 3) (by decide) k3) (fun z m2 hm2 => ?_)
            obtain ⟨rfl, rfl⟩ := hm2
            rw [if_pos (by omega)]
            refine z_if_eq 98 dX12_lowers_87 (by decide) (fun h87 => ?_) (fun h87 => ?_)
            · omega
            · refine z_aload_n dX12_lowers_90 rfl ?_
              refine z_iconst dX12_lowers_91 (by decide) ?_
              refine z_V1v dX12_lowers_92 ok_X12_halves lk_X12_77 (by first | rfl | assumption) rfl rfl (Nat.le_of_ble_eq_true rfl) (by decide) (cm_X12_halves (r := 3) (by decide) k3) (fun m3 hm3 => ?_)
              obtain ⟨l1, l2⟩ := hm3
              rw [Nat.mul_div_cancel_left _ (by decide)] at l1
              refine z_goto 82 dX12_lowers_95 (by decide) ?_
              exact ihj s1 t0 _ e1 (by omega) os ot hgg (k0.off l2 (by decide)) (k1.off l2 (by decide)) (k2.off l2 (by decide)) l1 (hon1.tr l2.to)
        have twoA : ∀ (i s0 : Nat) (m1 : Mem), 2 ^ i * s0 ≤ s → s0 % 2 = 1 → (∃ j t0 : Nat, t = 2 ^ j * t0 ∧ t0 % 2 = 1 ∧ Nat.gcd s0 t0 = g) → regAt m1 0 x → regAt m1 1 y → regAt m1 2 (2 ^ i * s0) → regAt m1 3 t → on89 mem m1 →
            ZZ X (0, 0) 2 mX12_lowers G0 66 [vr 88, vd] [] m1 (pV G0 fun m => regAt m 0 (a / Nat.gcd a b) ∧ regAt m 1 (b / Nat.gcd a b) ∧ on89 mem m) := by
          intro i
          induction i with
          | zero =>
            intro s0 m1 e1 os hjt k0 k1 k2 k3 hon1
            obtain ⟨j, t0, et, ot, hgg⟩ := hjt
            rw [Nat.pow_zero, Nat.one_mul] at e1 k2
            refine z_aload_n dX12_lowers_66 rfl ?_
            refine z_iconst dX12_lowers_67 (by decide) ?_
            refine z_V1i dX12_lowers_68 ok_X12_isEven lk_X12_73 (by first | rfl | assumption) rfl rfl (Nat.le_of_ble_eq_true rfl) (by decide) (cm_X12_isEven (r := 2) (by decide) k2) (fun z m2 hm2 => ?_)
            obtain ⟨rfl, rfl⟩ := hm2
            rw [if_neg (by omega)]
            refine z_if_eq 82 dX12_lowers_71 (by decide) (fun h71 => ?_) (fun h71 => ?_)
            · exact twoB j s0 t0 _ e1 (by omega) os ot hgg k0 k1 k2 (et ▸ k3) hon1
            · exact absurd rfl h71
          | succ i ihi =>
            intro s0 m1 e1 os hjt k0 k1 k2 k3 hon1
            have ev : 2 ^ (i + 1) * s0 = 2 * (2 ^ i * s0) := by rw [Nat.pow_succ, Nat.mul_comm (2 ^ i) 2, Nat.mul_assoc]
            rw [ev] at e1 k2
            refine z_aload_n dX12_lowers_66 rfl ?_
            refine z_iconst dX12_lowers_67 (by decide) ?_
            refine z_V1i dX12_lowers_68 ok_X12_isEven lk_X12_73 (by first | rfl | assumption) rfl rfl (Nat.le_of_ble_eq_true rfl) (by decide) (cm_X12_isEven (r := 2) (by decide) k2) (fun z m2 hm2 => ?_)
            obtain ⟨rfl, rfl⟩ := hm2
            rw [if_pos (by omega)]
            refine z_if_eq 82 dX12_lowers_71 (by decide) (fun h71 => ?_) (fun h71 => ?_)
            · omega
            · refine z_aload_n dX12_lowers_74 rfl ?_
              refine z_iconst dX12_lowers_75 (by decide) ?_
              refine z_V1v dX12_lowers_76 ok_X12_halves lk_X12_77 (by first | rfl | assumption) rfl rfl (Nat.le_of_ble_eq_true rfl) (by decide) (cm_X12_halves (r := 2) (by decide) k2) (fun m3 hm3 => ?_)
              obtain ⟨l1, l2⟩ := hm3
              rw [Nat.mul_div_cancel_left _ (by decide)] at l1
              refine z_goto 66 dX12_lowers_79 (by decide) ?_
              exact ihi s0 _ (by omega) os hjt (k0.off l2 (by decide)) (k1.off l2 (by decide)) l1 (k3.off l2 (by decide)) (hon1.tr l2.to)
        refine z_aload_n dX12_lowers_57 rfl ?_
        refine z_getR (ty := .int) dX12_lowers_58 fl_X12_13 (by first | rfl | assumption) rfl rfl ?_
        refine z_iconst dX12_lowers_61 (by decide) ?_
        refine z_iald dX12_lowers_62 (by first | rfl | assumption) (by omega) (by omega) ?_
        rw [hw2']
        refine z_if_le 145 dX12_lowers_63 (by decide) (fun h63 => ?_) (fun h63 => ?_)
        · have : s = 0 := hn20.mp (by omega)
          exact last g x y k m ea eb hg hodd h0 h1 (hs0 this ▸ h3) hon _
        · have hs1 : 0 < s := by
            rcases Nat.eq_zero_or_pos s with q | q
            · have := hn20.mpr q
              omega
            · exact q
          obtain ⟨i, j, s0, t0, es, et, os, ot, hgg⟩ := hsp hs1
          exact twoA i s0 m (by omega) os ⟨j, t0, et, ot, hgg⟩ h0 h1 (es ▸ h2) h3 hon
    -- the twos of both
    have both : ∀ (N x y k : Nat) (m : Mem), x ≤ N → 0 < x → a = 2 ^ k * x → b = 2 ^ k * y → regAt m 0 x → regAt m 1 y → on89 mem m →
        ZZ X (0, 0) 2 mX12_lowers G0 16 [vr 88, vd] [] m (pV G0 fun m => regAt m 0 (a / Nat.gcd a b) ∧ regAt m 1 (b / Nat.gcd a b) ∧ on89 mem m) := by
      intro N
      induction N with
      | zero => intro x y k m h1 h2; omega
      | succ N ih =>
        intro x y k m hN hx ea eb h0 h1 hon
        have hy : 0 < y := by
          rcases Nat.eq_zero_or_pos y with q | q
          · rw [q, Nat.mul_zero] at eb; omega
          · exact q
        have stop : (x % 2 = 1 ∨ y % 2 = 1) → ZZ X (0, 0) 2 mX12_lowers G0 45 [vr 88, vd] [] m (pV G0 fun m => regAt m 0 (a / Nat.gcd a b) ∧ regAt m 1 (b / Nat.gcd a b) ∧ on89 mem m) := by
          intro hodd
          obtain ⟨i, s0, es⟩ := odd_part x hx
          obtain ⟨j, t0, et⟩ := odd_part y hy
          have hmin : min i j = 0 := by
            rcases hodd with q | q
            · have : i = 0 := by
                rcases Nat.eq_zero_or_pos i with w | w
                · exact w
                · obtain ⟨i', rfl⟩ : ∃ i', i = i' + 1 := ⟨i - 1, by omega⟩
                  rw [Nat.pow_succ, Nat.mul_comm (2 ^ i') 2, Nat.mul_assoc] at es
                  omega
              omega
            · have : j = 0 := by
                rcases Nat.eq_zero_or_pos j with w | w
                · exact w
                · obtain ⟨j', rfl⟩ : ∃ j', j = j' + 1 := ⟨j - 1, by omega⟩
                  rw [Nat.pow_succ, Nat.mul_comm (2 ^ j') 2, Nat.mul_assoc] at et
                  omega
              omega
          have hg : Nat.gcd x y = Nat.gcd (2 * s0 + 1) (2 * t0 + 1) := by
            rw [es, et, gcd_twos (by omega) (by omega), hmin, Nat.pow_zero, Nat.one_mul]
          have godd : Nat.gcd x y % 2 = 1 := by
            rw [hg]
            obtain ⟨u, hu⟩ := Nat.gcd_dvd_left (2 * s0 + 1) (2 * t0 + 1)
            rcases Nat.mod_two_eq_zero_or_one (Nat.gcd (2 * s0 + 1) (2 * t0 + 1)) with w | w
            · have : (2 * s0 + 1) % 2 = 0 := by rw [hu, Nat.mul_mod, w]; simp
              omega
            · exact w
          refine z_aload_n dX12_lowers_45 rfl ?_
          refine z_iconst dX12_lowers_46 (by decide) ?_
          refine z_iconst dX12_lowers_47 (by decide) ?_
          refine z_V2v dX12_lowers_48 ok_X12_takes lk_X12_80 (by first | rfl | assumption) rfl rfl (Nat.le_of_ble_eq_true rfl) (by decide) (cm_X12_takes (r := 2) (s := 0) (by decide) (by decide) (by decide) h0) (fun m1 hm1 => ?_)
          obtain ⟨l1, l2⟩ := hm1
          refine z_aload_n dX12_lowers_51 rfl ?_
          refine z_iconst dX12_lowers_52 (by decide) ?_
          refine z_iconst dX12_lowers_53 (by decide) ?_
          refine z_V2v dX12_lowers_54 ok_X12_takes lk_X12_80 (by first | rfl | assumption) rfl rfl (Nat.le_of_ble_eq_true rfl) (by decide) (cm_X12_takes (r := 3) (s := 1) (by decide) (by decide) (by decide) (h1.off l2 (by decide))) (fun m2 hm2 => ?_)
          obtain ⟨l3, l4⟩ := hm2
          exact main (x + y) (Nat.gcd x y) x y k x y _ _ (Nat.le_refl _) ea eb rfl godd hy ((h0.off l2 (by decide)).off l4 (by decide)) ((h1.off l2 (by decide)).off l4 (by decide)) (l1.off l4 (by decide)) l3 ((hon.tr l2.to).tr l4.to) (by intro z q; cases q) (fun q => by omega) (fun _ => ⟨i, j, 2 * s0 + 1, 2 * t0 + 1, es, et, by omega, by omega, hg.symm⟩)
        refine z_aload_n dX12_lowers_16 rfl ?_
        refine z_iconst dX12_lowers_17 (by decide) ?_
        refine z_V1i dX12_lowers_18 ok_X12_isEven lk_X12_73 (by first | rfl | assumption) rfl rfl (Nat.le_of_ble_eq_true rfl) (by decide) (cm_X12_isEven (r := 0) (by decide) h0) (fun z m1 hm1 => ?_)
        obtain ⟨rfl, rfl⟩ := hm1
        refine z_if_eq 45 dX12_lowers_21 (by decide) (fun h21 => ?_) (fun h21 => ?_)
        · refine stop (Or.inl ?_)
          split at h21 <;> omega
        · have ex : x % 2 = 0 := by
            by_cases q : x % 2 = 0
            · exact q
            · rw [if_neg q] at h21; omega
          refine z_aload_n dX12_lowers_24 rfl ?_
          refine z_iconst dX12_lowers_25 (by decide) ?_
          refine z_V1i dX12_lowers_26 ok_X12_isEven lk_X12_73 (by first | rfl | assumption) rfl rfl (Nat.le_of_ble_eq_true rfl) (by decide) (cm_X12_isEven (r := 1) (by decide) h1) (fun z m1 hm1 => ?_)
          obtain ⟨rfl, rfl⟩ := hm1
          refine z_if_eq 45 dX12_lowers_29 (by decide) (fun h29 => ?_) (fun h29 => ?_)
          · refine stop (Or.inr ?_)
            split at h29 <;> omega
          · have ey : y % 2 = 0 := by
              by_cases q : y % 2 = 0
              · exact q
              · rw [if_neg q] at h29; omega
            refine z_aload_n dX12_lowers_32 rfl ?_
            refine z_iconst dX12_lowers_33 (by decide) ?_
            refine z_V1v dX12_lowers_34 ok_X12_halves lk_X12_77 (by first | rfl | assumption) rfl rfl (Nat.le_of_ble_eq_true rfl) (by decide) (cm_X12_halves (r := 0) (by decide) h0) (fun m2 hm2 => ?_)
            obtain ⟨l1, l2⟩ := hm2
            refine z_aload_n dX12_lowers_37 rfl ?_
            refine z_iconst dX12_lowers_38 (by decide) ?_
            refine z_V1v dX12_lowers_39 ok_X12_halves lk_X12_77 (by first | rfl | assumption) rfl rfl (Nat.le_of_ble_eq_true rfl) (by decide) (cm_X12_halves (r := 1) (by decide) (h1.off l2 (by decide))) (fun m3 hm3 => ?_)
            obtain ⟨l3, l4⟩ := hm3
            refine z_goto 16 dX12_lowers_42 (by decide) ?_
            exact ih (x / 2) (y / 2) (k + 1) _ (by omega) (by omega) (by rw [Nat.pow_succ, Nat.mul_assoc, ea]; congr 1; omega) (by rw [Nat.pow_succ, Nat.mul_assoc, eb]; congr 1; omega) (l1.off l4 (by decide)) l3 ((hon.tr l2.to).tr l4.to)
    refine z_aload_n dX12_lowers_0 rfl ?_
    refine z_getR (ty := .int) dX12_lowers_1 fl_X12_13 (by first | rfl | assumption) rfl rfl ?_
    refine z_iconst dX12_lowers_4 (by decide) ?_
    refine z_iald dX12_lowers_5 (by first | rfl | assumption) (by omega) (by omega) ?_
    rw [hwd']
    refine z_if_ne 16 dX12_lowers_6 (by decide) (fun h6 => ?_) (fun h6 => ?_)
    · exact both a a b 0 mem (Nat.le_refl a) ha' (by simp) (by simp) ha hb on89.rf
    · omega
theorem cm_X12_tells {a b : Nat} (ha : (a : Int) < 9223372036854775808) (hb : (b : Int) < 9223372036854775808) (hb0 : 0 < b) : CM X (0, 0) 3 mX12_tells G0 [vr 88, vl (a : Int), vl (b : Int)] mem (pI G0 fun z m => z = 1 ∧ regAt m 0 (a / Nat.gcd a b) ∧ regAt m 1 (b / Nat.gcd a b) ∧ on89 mem m) := by
  refine CM.of (by decide +kernel) 0 (Nat.le_of_ble_eq_true rfl) ?_
  show ZZ X (0, 0) 3 mX12_tells G0 0 [vr 88, vl (a : Int), vd, vl (b : Int), vd] [] mem _
  refine z_aload_n dX12_tells_0 rfl ?_
  refine z_iconst dX12_tells_1 (by decide) ?_
  refine z_lload_n dX12_tells_2 rfl ?_
  refine z_V2v dX12_tells_3 ok_X12_sets lk_X12_63 (by first | rfl | assumption) rfl rfl (Nat.le_of_ble_eq_true rfl) (by decide) (cm_X12_sets (r := 0) (by decide) ha) (fun m1 hm1 => ?_)
  obtain ⟨l1, l2⟩ := hm1
  refine z_aload_n dX12_tells_6 rfl ?_
  refine z_iconst dX12_tells_7 (by decide) ?_
  refine z_lload_n dX12_tells_8 rfl ?_
  refine z_V2v dX12_tells_9 ok_X12_sets lk_X12_63 (by first | rfl | assumption) rfl rfl (Nat.le_of_ble_eq_true rfl) (by decide) (cm_X12_sets (r := 1) (by decide) hb) (fun m2 hm2 => ?_)
  obtain ⟨l3, l4⟩ := hm2
  refine z_aload_n dX12_tells_12 rfl ?_
  refine z_V0v dX12_tells_13 ok_X12_lowers lk_X12_94 (by first | rfl | assumption) rfl rfl (Nat.le_of_ble_eq_true rfl) (by decide) (cm_X12_lowers (l1.off l4 (by decide)) l3 hb0) (fun m3 hm3 => ?_)
  obtain ⟨l5, l6, l7⟩ := hm3
  refine z_iconst dX12_tells_16 (by decide) ?_
  refine z_iret dX12_tells_17 rfl ?_
  exact ⟨rfl, _, rfl, rfl, l5, l6, (l2.to.tr l4.to).tr l7⟩
end ModE
