/-! ===== the reference's weighs ===== -/
section Weighs
variable {X : Nat × (Int → Int)} {mem : Mem} {L : List Int} {f s : Int} {k lo mo : Nat}
theorem keptAt.row {m : Mem} {c n v : Nat} (h : keptAt mem c n v) (e : m c = mem c) : keptAt m c n v := by
  unfold keptAt
  rw [e]
  exact h
/-- what weighing leaves as it is -/
def onWg (mem m : Mem) : Prop := (∀ x, x < 88 ∨ (90 < x ∧ x ≠ 93 ∧ x ≠ 94) → m x = mem x) ∧ (∀ j : Int, j ≠ 9 → j ≠ 10 → j ≠ 11 → m 88 j = mem 88 j) ∧ ∀ r v : Nat, r < 2 → regAt mem r v → regAt m r v
theorem onWg.rf : onWg mem mem := ⟨fun _ _ => rfl, fun _ _ _ _ => rfl, fun _ _ _ h => h⟩
theorem onWg.tr {m1 m2 : Mem} (h : onWg mem m1) (h2 : onWg m1 m2) : onWg mem m2 := ⟨fun x hx => (h2.1 x hx).trans (h.1 x hx), fun j a b c => (h2.2.1 j a b c).trans (h.2.1 j a b c), fun r v hr hv => h2.2.2 r v hr (h.2.2 r v hr hv)⟩
theorem onWg.reg {m1 m2 : Mem} {r : Nat} (h : onWg mem m1) (h2 : onR r m1 m2) (hr : 2 ≤ r) : onWg mem m2 := h.tr ⟨fun x hx => h2.1 x (by omega) (by omega), fun j _ _ _ => by rw [h2.1 88 (by decide) (by decide)], fun q v hq hv => hv.off h2 (by omega)⟩
theorem onWg.kp {m1 m2 : Mem} {c n : Nat} (h : onWg mem m1) (h2 : onK c n m1 m2) (hc : c = 93 ∨ c = 94) : onWg mem m2 := h.tr ⟨fun x hx => h2.2 x (by omega), fun j _ _ _ => by rw [h2.2 88 (by omega)], fun q v hq hv => hv.kp (h2.2 89 (by omega)) (h2.2 90 (by omega))⟩
def rwAt (m : Mem) (k lo mo : Nat) : Prop := m 88 9 = (lo : Int) ∧ ∀ n : Nat, n ≤ mo → keptAt m 93 n (rWt k lo mo n) ∧ keptAt m 94 n (rSum k lo mo (n + 1 - lo))
theorem g0_93 : G0[93]? = some (1, 5168, []) := rfl
theorem g0_94 : G0[94]? = some (1, 5168, []) := rfl
theorem cm_X12_weighs (hL : numsAt mem L) (hm : mem 88 4 = (mo : Int)) (hr : ∀ y ∈ L, 0 ≤ y ∧ y ≤ 9999) (hfit : fitP L f s) (hs : 0 < s) (hs9 : s ≤ 99) (hf : 0 ≤ f) (hlo : (lo : Int) = if topN L f s = 0 then 1 else topN L f s) (hkl : L.length ≤ lo) (hlm : lo ≤ mo) (hmo : mo ≤ 150) : CM X (0, 0) 2 mX12_weighs G0 [vr 88, vi f, vi s] mem (pV G0 fun m => rwAt m L.length lo mo ∧ onWg mem m) := by
  have hb := top_bd hr hfit hs hf
  have hk6 : mem 88 6 = (L.length : Int) := hL.1
  have hl1 : 1 ≤ lo := by
    split at hlo <;> omega
  generalize hke : L.length = k at *
  generalize hte : topN L f s = t at *
  refine CM.of (by decide +kernel) 2 (Nat.le_of_ble_eq_true rfl) ?_
  show ZZ X (0, 0) 2 mX12_weighs G0 0 [vr 88, vi f, vi s, vd, vd] [] mem _
  have three : ∀ (e c : Nat) (m : Mem), lo + c + e = mo + 1 → m 88 9 = (lo : Int) → onWg mem m → regAt m 2 (rS k lo mo (c - 1)) → regAt m 3 (rSum k lo mo c) → (∀ n : Nat, n < lo + c → keptAt m 93 n (rWt k lo mo n) ∧ keptAt m 94 n (rSum k lo mo (n + 1 - lo))) → ZZ X (0, 0) 2 mX12_weighs G0 108 [vr 88, vi f, vi s, vi t, vi ((lo : Int) + (c : Int))] [] m (pV G0 fun m => rwAt m k lo mo ∧ onWg mem m) := by
    intro e
    induction e with
    | zero =>
      intro c m hc h9 ho h2 h3 hkp
      have h4 : m 88 4 = (mo : Int) := (ho.2.1 4 (by decide) (by decide) (by decide)).trans hm
      refine z_iload dX12_weighs_108 rfl ?_
      refine z_aload_n dX12_weighs_110 rfl ?_
      refine z_gI 4 dX12_weighs_111 fl_X12_59 (by first | rfl | assumption) rfl rfl ?_
      rw [h4]
      refine z_icmp_gt 179 dX12_weighs_114 (by decide) (fun h114 => ?_) (fun h114 => ?_)
      · refine z_vret dX12_weighs_179 rfl ?_
        exact ⟨rfl, rfl, ⟨h9, fun n hn => hkp n (by omega)⟩, ho⟩
      · omega
    | succ e ih =>
      intro c m hc h9 ho h2 h3 hkp
      have h4 : m 88 4 = (mo : Int) := (ho.2.1 4 (by decide) (by decide) (by decide)).trans hm
      have h6 : m 88 6 = (k : Int) := (ho.2.1 6 (by decide) (by decide) (by decide)).trans hk6
      have join : ∀ m' : Mem, m' 88 9 = (lo : Int) → onWg mem m' → regAt m' 2 (rS k lo mo c) → regAt m' 3 (rSum k lo mo c) → (∀ n : Nat, n < lo + c → keptAt m' 93 n (rWt k lo mo n) ∧ keptAt m' 94 n (rSum k lo mo (n + 1 - lo))) → ZZ X (0, 0) 2 mX12_weighs G0 145 [vr 88, vi f, vi s, vi t, vi ((lo : Int) + (c : Int))] [] m' (pV G0 fun m => rwAt m k lo mo ∧ onWg mem m) := by
        intro m' h9 ho h2 h3 hkp
        have hS := rS_b2 (k := k) (lo := lo) (mo := mo) hmo (c := c) (by omega)
        have hU := rSum_b2 (k := k) (lo := lo) (mo := mo) hmo (c := c + 1) (by omega)
        rw [show (lo : Int) + (c : Int) = ((lo + c : Nat) : Int) by omega]
        refine z_aload_n dX12_weighs_145 rfl ?_
        refine z_aload_n dX12_weighs_146 rfl ?_
        refine z_getR (ty := .int) dX12_weighs_147 fl_X12_22 (by first | rfl | assumption) rfl rfl ?_
        refine z_iload dX12_weighs_150 rfl ?_
        refine z_iconst dX12_weighs_152 (by decide) ?_
        refine z_V3v dX12_weighs_153 ok_X12_keeps lk_X12_162 (by first | rfl | assumption) rfl rfl (Nat.le_of_ble_eq_true rfl) (by decide) (cm_X12_keeps (r := 2) g0_93 (by decide) (by omega : lo + c < 152) (by decide)) (fun m2 hm2 => ?_)
        have o2 : onK 93 (lo + c) m' m2 := ⟨hm2.2.1, hm2.2.2⟩
        have w2 := keptAt.of (n := lo + c) h2 (lt34 hS) hm2.1
        have r2 := h2.kp (o2.2 89 (by decide)) (o2.2 90 (by decide))
        have r3 := h3.kp (o2.2 89 (by decide)) (o2.2 90 (by decide))
        refine z_aload_n dX12_weighs_156 rfl ?_
        refine z_iconst dX12_weighs_157 (by decide) ?_
        refine z_iconst dX12_weighs_158 (by decide) ?_
        refine z_V2v dX12_weighs_159 ok_X12_adds lk_X12_169 (by first | rfl | assumption) rfl rfl (Nat.le_of_ble_eq_true rfl) (by decide) (cm_X12_adds (r := 3) (s := 2) (by decide) (by decide) (by decide) r3 r2 (lt65 (Nat.le_trans hU (Nat.mul_le_mul_left _ (by decide))))) (fun m3 hm3 => ?_)
        obtain ⟨r4, o3⟩ := hm3
        refine z_aload_n dX12_weighs_162 rfl ?_
        refine z_aload_n dX12_weighs_163 rfl ?_
        refine z_getR (ty := .int) dX12_weighs_164 fl_X12_25 (by first | rfl | assumption) rfl rfl ?_
        refine z_iload dX12_weighs_167 rfl ?_
        refine z_iconst dX12_weighs_169 (by decide) ?_
        refine z_V3v dX12_weighs_170 ok_X12_keeps lk_X12_162 (by first | rfl | assumption) rfl rfl (Nat.le_of_ble_eq_true rfl) (by decide) (cm_X12_keeps (r := 3) g0_94 (by decide) (by omega : lo + c < 152) (by decide)) (fun m4 hm4 => ?_)
        have o4 : onK 94 (lo + c) m3 m4 := ⟨hm4.2.1, hm4.2.2⟩
        have w4 := keptAt.of (n := lo + c) r4 (lt34 hU) hm4.1
        refine z_iinc dX12_weighs_173 rfl (by omega) (by decide) rfl ?_
        dsimp only [List.set]
        refine z_goto 108 dX12_weighs_176 (by decide) ?_
        rw [show ((lo + c : Nat) : Int) + 1 = (lo : Int) + ((c + 1 : Nat) : Int) by omega]
        have e93 : m4 93 = m2 93 := (o4.2 93 (by decide)).trans (o3.1 93 (by decide) (by decide))
        have e94 : m3 94 = m' 94 := (o3.1 94 (by decide) (by decide)).trans (o2.2 94 (by decide))
        refine ih (c + 1) _ (by omega) ?_ (((ho.kp o2 (by decide)).reg o3 (by decide)).kp o4 (by decide)) ((r2.off o3 (by decide)).kp (o4.2 89 (by decide)) (o4.2 90 (by decide))) (r4.kp (o4.2 89 (by decide)) (o4.2 90 (by decide))) (fun n hn => ?_)
        · rw [o4.2 88 (by decide), o3.1 88 (by decide) (by decide), o2.2 88 (by decide)]
          exact h9
        · by_cases q : n = lo + c
          · subst q
            refine ⟨?_, ?_⟩
            · unfold rWt
              rw [if_neg (by omega), show lo + c - lo = c by omega]
              exact w2.row e93
            · rw [show lo + c + 1 - lo = c + 1 by omega]
              exact w4
          · exact ⟨((hkp n (by omega)).1.off o2 q).row e93, ((hkp n (by omega)).2.row e94).off o4 q⟩
      refine z_iload dX12_weighs_108 rfl ?_
      refine z_aload_n dX12_weighs_110 rfl ?_
      refine z_gI 4 dX12_weighs_111 fl_X12_59 (by first | rfl | assumption) rfl rfl ?_
      rw [h4]
      refine z_icmp_gt 179 dX12_weighs_114 (by decide) (fun h114 => ?_) (fun h114 => ?_)
      · omega
      · refine z_iload dX12_weighs_117 rfl ?_
        refine z_aload_n dX12_weighs_119 rfl ?_
        refine z_gI 9 dX12_weighs_120 fl_X12_156 (by first | rfl | assumption) rfl rfl ?_
        rw [h9]
        refine z_icmp_le 145 dX12_weighs_123 (by decide) (fun h123 => ?_) (fun h123 => ?_)
        · rw [show c - 1 = c by omega] at h2
          first
          | exact join _ h9 ho h2 h3 hkp
          | refine join _ ?_ ((ho.reg o2 (by decide)).reg o3 (by decide)) r3 ((h3.off o2 (by decide)).off o3 (by decide)) (fun n hn => ?_)
            · rw [o3.1 88 (by decide) (by decide), o2.1 88 (by decide) (by decide)]
              exact h9
            · exact ⟨(hkp n hn).1.row ((o3.1 93 (by decide) (by decide)).trans (o2.1 93 (by decide) (by decide))), (hkp n hn).2.row ((o3.1 94 (by decide) (by decide)).trans (o2.1 94 (by decide) (by decide)))⟩
        · obtain ⟨c', rfl⟩ : ∃ c', c = c' + 1 := ⟨c - 1, by omega⟩
          have hS := rS_b2 (k := k) (lo := lo) (mo := mo) hmo (c := c') (by omega)
          have hd := rS_div (k := k) (lo := lo) (mo := mo) (c := c') (by omega)
          refine z_aload_n dX12_weighs_126 rfl ?_
          refine z_iconst dX12_weighs_127 (by decide) ?_
          refine z_iload dX12_weighs_128 rfl ?_
          refine z_aload_n dX12_weighs_130 rfl ?_
          refine z_gI 6 dX12_weighs_131 fl_X12_125 (by first | rfl | assumption) rfl rfl ?_
          rw [h6]
          refine z_isub dX12_weighs_134 (by omega) ?_
          rw [show (lo : Int) + ((c' + 1 : Nat) : Int) - (k : Int) = ((lo + c' + 1 - k : Nat) : Int) by omega]
          refine z_V2v dX12_weighs_135 ok_X12_times lk_X12_159 (by first | rfl | assumption) rfl rfl (Nat.le_of_ble_eq_true rfl) (by decide) (cm_X12_times (r := 2) (by decide) h2 (by omega) (by omega) (lt66 hS (by omega))) (fun m2 hm2 => ?_)
          obtain ⟨r2, o2⟩ := hm2
          rw [Int.toNat_natCast] at r2
          refine z_aload_n dX12_weighs_138 rfl ?_
          refine z_iconst dX12_weighs_139 (by decide) ?_
          refine z_iload dX12_weighs_140 rfl ?_
          rw [show (lo : Int) + ((c' + 1 : Nat) : Int) = ((lo + c' + 1 : Nat) : Int) by omega]
          refine z_V2v dX12_weighs_142 ok_X12_divides lk_X12_166 (by first | rfl | assumption) rfl rfl (Nat.le_of_ble_eq_true rfl) (by decide) (cm_X12_divides (r := 2) (by decide) r2 (by omega) (by omega)) (fun m3 hm3 => ?_)
          obtain ⟨r3, o3⟩ := hm3
          rw [Int.toNat_natCast, show c' + 1 - 1 = c' by omega, hd] at r3
          first
          | exact join _ h9 ho h2 h3 hkp
          | refine join _ ?_ ((ho.reg o2 (by decide)).reg o3 (by decide)) r3 ((h3.off o2 (by decide)).off o3 (by decide)) (fun n hn => ?_)
            · rw [o3.1 88 (by decide) (by decide), o2.1 88 (by decide) (by decide)]
              exact h9
            · exact ⟨(hkp n hn).1.row ((o3.1 93 (by decide) (by decide)).trans (o2.1 93 (by decide) (by decide))), (hkp n hn).2.row ((o3.1 94 (by decide) (by decide)).trans (o2.1 94 (by decide) (by decide)))⟩
  have two : ∀ (e n : Nat) (m : Mem), n + e = lo → m 88 9 = (lo : Int) → onWg mem m → regAt m 2 (rS k lo mo 0) → regAt m 3 0 → (∀ j : Nat, j < n → keptAt m 93 j 0 ∧ keptAt m 94 j 0) → ZZ X (0, 0) 2 mX12_weighs G0 65 [vr 88, vi f, vi s, vi t, vi (n : Int)] [] m (pV G0 fun m => rwAt m k lo mo ∧ onWg mem m) := by
    intro e
    induction e with
    | zero =>
      intro n m hn h9 ho h2 h3 hkp
      refine z_iload dX12_weighs_65 rfl ?_
      refine z_aload_n dX12_weighs_67 rfl ?_
      refine z_gI 9 dX12_weighs_68 fl_X12_156 (by first | rfl | assumption) rfl rfl ?_
      rw [h9]
      refine z_icmp_ge 102 dX12_weighs_71 (by decide) (fun h71 => ?_) (fun h71 => ?_)
      · refine z_aload_n dX12_weighs_102 rfl ?_
        refine z_gI 9 dX12_weighs_103 fl_X12_156 (by first | rfl | assumption) rfl rfl ?_
        rw [h9]
        refine z_istore dX12_weighs_106 (by decide) rfl ?_
        dsimp only [List.set]
        refine (show (lo : Int) = (lo : Int) + ((0 : Nat) : Int) by omega) ▸ three (mo + 1 - lo) 0 _ (by omega) h9 ho h2 h3 (fun j hj => ?_)
        unfold rWt
        rw [if_pos (by omega), show j + 1 - lo = 0 by omega]
        exact hkp j (by omega)
      · omega
    | succ e ih =>
      intro n m hn h9 ho h2 h3 hkp
      refine z_iload dX12_weighs_65 rfl ?_
      refine z_aload_n dX12_weighs_67 rfl ?_
      refine z_gI 9 dX12_weighs_68 fl_X12_156 (by first | rfl | assumption) rfl rfl ?_
      rw [h9]
      refine z_icmp_ge 102 dX12_weighs_71 (by decide) (fun h71 => ?_) (fun h71 => ?_)
      · omega
      · refine z_aload_n dX12_weighs_74 rfl ?_
        refine z_aload_n dX12_weighs_75 rfl ?_
        refine z_getR (ty := .int) dX12_weighs_76 fl_X12_25 (by first | rfl | assumption) rfl rfl ?_
        refine z_iload dX12_weighs_79 rfl ?_
        refine z_iconst dX12_weighs_81 (by decide) ?_
        refine z_V3v dX12_weighs_82 ok_X12_keeps lk_X12_162 (by first | rfl | assumption) rfl rfl (Nat.le_of_ble_eq_true rfl) (by decide) (cm_X12_keeps (r := 3) g0_94 (by decide) (by omega : n < 152) (by decide)) (fun m2 hm2 => ?_)
        have o2 : onK 94 n m m2 := ⟨hm2.2.1, hm2.2.2⟩
        have w2 := keptAt.of (n := n) h3 (by decide) hm2.1
        have r3 := h3.kp (o2.2 89 (by decide)) (o2.2 90 (by decide))
        refine z_aload_n dX12_weighs_85 rfl ?_
        refine z_aload_n dX12_weighs_86 rfl ?_
        refine z_getR (ty := .int) dX12_weighs_87 fl_X12_22 (by first | rfl | assumption) rfl rfl ?_
        refine z_iload dX12_weighs_90 rfl ?_
        refine z_iconst dX12_weighs_92 (by decide) ?_
        refine z_V3v dX12_weighs_93 ok_X12_keeps lk_X12_162 (by first | rfl | assumption) rfl rfl (Nat.le_of_ble_eq_true rfl) (by decide) (cm_X12_keeps (r := 3) g0_93 (by decide) (by omega : n < 152) (by decide)) (fun m3 hm3 => ?_)
        have o3 : onK 93 n m2 m3 := ⟨hm3.2.1, hm3.2.2⟩
        have w3 := keptAt.of (n := n) r3 (by decide) hm3.1
        refine z_iinc dX12_weighs_96 rfl (by omega) (by decide) rfl ?_
        dsimp only [List.set]
        refine z_goto 65 dX12_weighs_99 (by decide) ?_
        rw [show (n : Int) + 1 = ((n + 1 : Nat) : Int) by omega]
        refine ih (n + 1) _ (by omega) ?_ ((ho.kp o2 (by decide)).kp o3 (by decide)) ((h2.kp (o2.2 89 (by decide)) (o2.2 90 (by decide))).kp (o3.2 89 (by decide)) (o3.2 90 (by decide))) (r3.kp (o3.2 89 (by decide)) (o3.2 90 (by decide))) (fun j hj => ?_)
        · rw [o3.2 88 (by decide), o2.2 88 (by decide)]
          exact h9
        · by_cases q : j = n
          · subst q
            exact ⟨w3, w2.row (o3.2 94 (by decide))⟩
          · exact ⟨((hkp j (by omega)).1.row (o2.2 93 (by decide))).off o3 q, ((hkp j (by omega)).2.off o2 q).row (o3.2 94 (by decide))⟩
  have one : ∀ (e c : Nat) (m : Mem), lo + c + e = mo → m 88 9 = (lo : Int) → onWg mem m → regAt m 2 (upN lo c) → ZZ X (0, 0) 2 mX12_weighs G0 34 [vr 88, vi f, vi s, vi t, vi ((lo : Int) + (c : Int) + 1)] [] m (pV G0 fun m => rwAt m k lo mo ∧ onWg mem m) := by
    intro e
    induction e with
    | zero =>
      intro c m hc h9 ho h2
      have h4 : m 88 4 = (mo : Int) := (ho.2.1 4 (by decide) (by decide) (by decide)).trans hm
      have h2' : regAt m 2 (rS k lo mo 0) := by
        rw [rS0, show mo - lo = c by omega]
        exact h2
      refine z_iload dX12_weighs_34 rfl ?_
      refine z_aload_n dX12_weighs_36 rfl ?_
      refine z_gI 4 dX12_weighs_37 fl_X12_59 (by first | rfl | assumption) rfl rfl ?_
      rw [h4]
      refine z_icmp_gt 56 dX12_weighs_40 (by decide) (fun h40 => ?_) (fun h40 => ?_)
      · refine z_aload_n dX12_weighs_56 rfl ?_
        refine z_iconst dX12_weighs_57 (by decide) ?_
        refine z_lconst (z := 0) dX12_weighs_58 rfl (by decide) ?_
        refine z_V2v dX12_weighs_59 ok_X12_sets lk_X12_63 (by first | rfl | assumption) rfl rfl (Nat.le_of_ble_eq_true rfl) (by decide) (cm_X12_sets (r := 3) (v := 0) (by decide) (by decide)) (fun m2 hm2 => ?_)
        obtain ⟨r3, o2⟩ := hm2
        refine z_iconst dX12_weighs_62 (by decide) ?_
        refine z_istore dX12_weighs_63 (by decide) rfl ?_
        dsimp only [List.set]
        refine two lo 0 _ (by omega) ?_ (ho.reg o2 (by decide)) (h2'.off o2 (by decide)) r3 (fun j hj => by omega)
        rw [o2.1 88 (by decide) (by decide)]
        exact h9
      · omega
    | succ e ih =>
      intro c m hc h9 ho h2
      have h4 : m 88 4 = (mo : Int) := (ho.2.1 4 (by decide) (by decide) (by decide)).trans hm
      have hU : upN lo c ≤ upN 0 150 * 200 := Nat.le_trans (upN_le (by omega)) (Nat.le_mul_of_pos_right _ (by decide))
      rw [show (lo : Int) + (c : Int) + 1 = ((lo + c + 1 : Nat) : Int) by omega]
      refine z_iload dX12_weighs_34 rfl ?_
      refine z_aload_n dX12_weighs_36 rfl ?_
      refine z_gI 4 dX12_weighs_37 fl_X12_59 (by first | rfl | assumption) rfl rfl ?_
      rw [h4]
      refine z_icmp_gt 56 dX12_weighs_40 (by decide) (fun h40 => ?_) (fun h40 => ?_)
      · omega
      · refine z_aload_n dX12_weighs_43 rfl ?_
        refine z_iconst dX12_weighs_44 (by decide) ?_
        refine z_iload dX12_weighs_45 rfl ?_
        refine z_V2v dX12_weighs_47 ok_X12_times lk_X12_159 (by first | rfl | assumption) rfl rfl (Nat.le_of_ble_eq_true rfl) (by decide) (cm_X12_times (r := 2) (by decide) h2 (by omega) (by omega) (lt66 hU (by omega))) (fun m2 hm2 => ?_)
        obtain ⟨r2, o2⟩ := hm2
        rw [Int.toNat_natCast, ← upN_top] at r2
        refine z_iinc dX12_weighs_50 rfl (by omega) (by decide) rfl ?_
        dsimp only [List.set]
        refine z_goto 34 dX12_weighs_53 (by decide) ?_
        rw [show ((lo + c + 1 : Nat) : Int) + 1 = (lo : Int) + ((c + 1 : Nat) : Int) + 1 by omega]
        refine ih (c + 1) _ (by omega) ?_ (ho.reg o2 (by decide)) r2
        rw [o2.1 88 (by decide) (by decide)]
        exact h9
  have mid : ZZ X (0, 0) 2 mX12_weighs G0 17 [vr 88, vi f, vi s, vi t, vd] [vi (lo : Int), vr 88] mem (pV G0 fun m => rwAt m k lo mo ∧ onWg mem m) := by
    refine z_pI 9 dX12_weighs_17 fm_X12_156 (by first | rfl | assumption) rfl rfl ?_
    generalize hm1 : mset mem 88 9 (lo : Int) = m1
    have h9 : m1 88 9 = (lo : Int) := by rw [← hm1]; exact mset_eq _ _ _ _
    have ho : onWg mem m1 := by
      rw [← hm1]
      exact ⟨fun x hx => mset_ne _ (by omega) _ _, fun j a _ _ => mset_nej _ _ a _, fun r v _ hv => hv.kp (mset_ne _ (by decide) _ _) (mset_ne _ (by decide) _ _)⟩
    refine z_aload_n dX12_weighs_20 rfl ?_
    refine z_iconst dX12_weighs_21 (by decide) ?_
    refine z_lconst (z := 1) dX12_weighs_22 rfl (by decide) ?_
    refine z_V2v dX12_weighs_23 ok_X12_sets lk_X12_63 (by first | rfl | assumption) rfl rfl (Nat.le_of_ble_eq_true rfl) (by decide) (cm_X12_sets (r := 2) (v := 1) (by decide) (by decide)) (fun m2 hm2 => ?_)
    obtain ⟨r2, o2⟩ := hm2
    have h92 : m2 88 9 = (lo : Int) := by rw [o2.1 88 (by decide) (by decide)]; exact h9
    refine z_aload_n dX12_weighs_26 rfl ?_
    refine z_gI 9 dX12_weighs_27 fl_X12_156 (by first | rfl | assumption) rfl rfl ?_
    rw [h92]
    refine z_iconst dX12_weighs_30 (by decide) ?_
    refine z_iadd dX12_weighs_31 (by omega) ?_
    refine z_istore dX12_weighs_32 (by decide) rfl ?_
    dsimp only [List.set]
    exact (show (lo : Int) + 1 = (lo : Int) + ((0 : Nat) : Int) + 1 by omega) ▸ one (mo - lo) 0 _ (by omega) h92 (ho.reg o2 (by decide)) r2
  refine z_aload_n dX12_weighs_0 rfl ?_
  refine z_iload_n dX12_weighs_1 rfl ?_
  refine z_iload_n dX12_weighs_2 rfl ?_
  refine z_V2i dX12_weighs_3 ok_X12_greatest lk_X12_153 (by first | rfl | assumption) rfl rfl (Nat.le_of_ble_eq_true rfl) (by decide) (cm_X12_greatest hL hr hfit hs hs9 hf) (fun z1 m1 hm1 => ?_)
  obtain ⟨hz1, rfl⟩ := hm1
  rw [hte] at hz1
  subst hz1
  refine z_istore_n dX12_weighs_6 (by decide) rfl ?_
  dsimp only [List.set]
  refine z_aload_n dX12_weighs_7 rfl ?_
  refine z_iload_n dX12_weighs_8 rfl ?_
  refine z_if_ne 16 dX12_weighs_9 (by decide) (fun h9 => ?_) (fun h9 => ?_)
  · rw [if_neg (by omega)] at hlo
    refine z_iload_n dX12_weighs_16 rfl ?_
    rw [hlo] at mid
    exact mid
  · rw [if_pos (by omega)] at hlo
    refine z_iconst dX12_weighs_12 (by decide) ?_
    refine z_goto 17 dX12_weighs_13 (by decide) ?_
    rw [hlo] at mid
    exact mid
end Weighs
