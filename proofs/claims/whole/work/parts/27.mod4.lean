section ModD
variable {X : Nat × (Int → Int)} {mem : Mem}
/-- only registers' cells have changed -/
def on89 (mem m : Mem) : Prop := ∀ a, a ≠ 89 → a ≠ 90 → m a = mem a
theorem onR.to {r : Nat} {mem m : Mem} (h : onR r mem m) : on89 mem m := h.1
theorem on89.tr {m1 m2 m3 : Mem} (h1 : on89 m1 m2) (h2 : on89 m2 m3) : on89 m1 m3 := fun a ha hb => (h2 a ha hb).trans (h1 a ha hb)
theorem on89.rf : on89 mem mem := fun _ _ _ => rfl
/-- parts: register r by the odd register 3, which measures it; register 4 is spoilt -/
theorem cm_X12_parts {r v D : Nat} (hr : r < 2) (hv : regAt mem r v) (hw : regAt mem 3 D) (hodd : D % 2 = 1) (hdv : D ∣ v) : CM X (0, 0) 1 mX12_parts G0 [vr 88, vi (r : Int)] mem (pV G0 fun m => regAt m r (v / D) ∧ on89 mem m ∧ (∀ s w, s ≠ r → s ≠ 4 → regAt mem s w → regAt m s w)) := by
  have hd3 := fun (j : Nat) (hj : j < 66) => reg_dig hw hj
  obtain ⟨hd, hnv, n, hn, hwd, hz, ht⟩ := hv
  obtain ⟨hd2, hnv2, n2, hn2, hwd2, hz2, ht2⟩ := id hw
  have hvn : nv (rowM mem r) n = (v : Int) := by rw [← hnv]; exact (nv_pad hn hz).symm
  obtain ⟨Q, hQ⟩ := hdv
  have hD0 : 0 < D := by omega
  have hvQ : v / D = Q := by rw [hQ, Nat.mul_div_cancel_left _ hD0]
  have hQle : Q ≤ v := by rw [hQ]; exact Nat.le_mul_of_pos_left _ hD0
  have hvlt : v < 1073741824 ^ n := by
    have h1 := nv_lt (f := rowM mem r) (n := n) (fun j hj => hd j (by omega))
    have : (v : Int) < ((1073741824 ^ n : Nat) : Int) := by rw [Int.natCast_pow, ← hvn]; exact h1
    exact Int.ofNat_lt.mp this
  have hlow : rowM mem 3 0 = ((D % 1073741824 : Nat) : Int) := by
    have := hd3 0 (by decide)
    rw [Nat.pow_zero, Nat.div_one] at this
    exact this
  have hDhi : ∀ k : Nat, k ≤ 66 → ∃ h : Int, (D : Int) = nv (rowM mem 3) k + h * zB ^ k := by
    intro k hk
    obtain ⟨h, -, hh⟩ := nv_high (f := rowM mem 3) hk hd2
    rw [hnv2] at hh
    exact ⟨h, by omega⟩
  have P : Prop := True
  refine CM.of (by decide +kernel) 11 (Nat.le_of_ble_eq_true rfl) ?_
  show ZZ X (0, 0) 1 mX12_parts G0 0 [vr 88, vi (r : Int), vd, vd, vd, vd, vd, vd, vd, vd, vd, vd, vd] [] mem _
  -- the last copy
  have copy : ∀ (k i : Nat) (m : Mem) (tn : Int) (w5 w6 w8 w9 w11 : VV), k + i = n → (∀ a, a ≠ 89 → a ≠ 90 → m a = mem a) → (∀ s w, s ≠ r → s ≠ 4 → regAt mem s w → regAt m s w) → m 90 (r : Int) = (n : Int) → (∀ j : Nat, j < i → rowM m r (j : Int) = rowM m 4 (j : Int)) → (∀ j : Nat, n ≤ j → j < 66 → rowM m r (j : Int) = 0) → dig (rowM m 4) n → nv (rowM m 4) n = (Q : Int) →
      ZZ X (0, 0) 1 mX12_parts G0 195 [vr 88, vi (r : Int), vi tn, vi (n : Int), vi (i : Int), w5, w6, vd, w8, w9, vd, w11, vd] [] m (pV G0 fun m => regAt m r (v / D) ∧ on89 mem m ∧ (∀ s w, s ≠ r → s ≠ 4 → regAt mem s w → regAt m s w)) := by
    intro k
    induction k with
    | zero =>
      intro i m tn w5 w6 w8 w9 w11 hk hon hoth hsz hcp hzm hd4 hn4
      have hi : i = n := by omega
      subst hi
      have hrr : nv (rowM m r) i = (Q : Int) := by rw [nv_congr hcp]; exact hn4
      refine z_iload dX12_parts_195 rfl ?_
      refine z_iload_n dX12_parts_197 rfl ?_
      refine z_icmp_ge 230 dX12_parts_198 (by decide) (fun h198 => ?_) (fun h198 => ?_)
      · refine z_aload_n dX12_parts_230 rfl ?_
        refine z_iload_n dX12_parts_231 rfl ?_
        refine z_V1v dX12_parts_232 ok_X12_trims lk_X12_68 (by first | rfl | assumption) rfl rfl (Nat.le_of_ble_eq_true rfl) (by decide) (cm_X12_trims (by omega) hsz hn) (fun m2 hm2 => ?_)
        refine z_vret dX12_parts_235 rfl ?_
        obtain ⟨q1, q2⟩ := trims_reg (v := v / D) (by omega) hn (fun j hj => by by_cases e : j < i; rw [hcp j e]; exact hd4 j e; rw [hzm j (by omega) hj]; omega) (by rw [nv_pad hn hzm, hvQ]; exact hrr) hzm hm2
        exact ⟨rfl, rfl, q1, fun a ha hb => (q2.1 a ha hb).trans (hon a ha hb), fun s w h1 h2 h3 => (hoth s w h1 h2 h3).off q2 h1⟩
      · omega
    | succ k ih =>
      intro i m tn w5 w6 w8 w9 w11 hk hon hoth hsz hcp hzm hd4 hn4
      refine z_iload dX12_parts_195 rfl ?_
      refine z_iload_n dX12_parts_197 rfl ?_
      refine z_icmp_ge 230 dX12_parts_198 (by decide) (fun h198 => ?_) (fun h198 => ?_)
      · omega
      · refine z_aload_n dX12_parts_201 rfl ?_
        refine z_getR (ty := .int) dX12_parts_202 fl_X12_7 (by first | rfl | assumption) rfl rfl ?_
        refine z_bipush dX12_parts_205 (by decide) ?_
        refine z_iload_n dX12_parts_207 rfl ?_
        refine z_imul dX12_parts_208 (by omega) ?_
        refine z_iload dX12_parts_209 rfl ?_
        refine z_iadd dX12_parts_211 (by omega) ?_
        refine z_aload_n dX12_parts_212 rfl ?_
        refine z_getR (ty := .int) dX12_parts_213 fl_X12_7 (by first | rfl | assumption) rfl rfl ?_
        refine z_sipush dX12_parts_216 (by decide) ?_
        refine z_iload dX12_parts_219 rfl ?_
        refine z_iadd dX12_parts_221 (by omega) ?_
        refine z_iald dX12_parts_222 (by first | rfl | assumption) (by omega) (by omega) ?_
        refine z_iast dX12_parts_223 (by first | rfl | assumption) (by omega) (by omega) ?_
        refine z_iinc dX12_parts_224 rfl (by omega) (by decide) rfl ?_
        dsimp only [List.set]
        refine z_goto 195 dX12_parts_227 (by decide) ?_
        have hR := onR_l (r := r) (mem := m) (i := (i : Int)) (v := m 89 (264 + (i : Int))) (by omega) (by omega)
        have h4 : ∀ j : Nat, j < 66 → rowM (mset m 89 (66 * (r : Int) + (i : Int)) (m 89 (264 + (i : Int)))) 4 (j : Int) = rowM m 4 (j : Int) := fun j hj => rowM.off hR (by omega) (by omega) (by omega)
        refine ih (i + 1) _ tn w5 w6 w8 w9 w11 (by omega) (fun a ha hb => (hR.1 a ha hb).trans (hon a ha hb)) (fun s w h1 h2 h3 => (hoth s w h1 h2 h3).off hR h1) (by rw [wideM]; exact hsz) (fun j hj => ?_) (fun j a b => ?_) (fun j hj => by rw [h4 j (by omega)]; exact hd4 j hj) (by rw [nv_congr (fun j hj => h4 j (by omega))]; exact hn4)
        · rw [h4 j (by omega), rowM_set]
          by_cases e : j = i
          · subst e
            rw [updF_eq]
            rfl
          · rw [updF_ne _ _ (by omega)]; exact hcp j (by omega)
        · rw [rowM_set, updF_ne _ _ (by omega)]; exact hzm j a b
  -- the taking away of q times the divisor
  have take : ∀ (i : Nat) (q tn : Int) (m0 : Mem), i < n → 0 ≤ q → q < 1073741824 → (∀ j : Nat, j < 66 → rowM m0 3 (j : Int) = rowM mem 3 (j : Int)) → m0 90 3 = (n2 : Int) → dig (rowM m0 r) 66 →
      (∀ m : Mem, onR r m0 m → m 90 (r : Int) = m0 90 (r : Int) → dig (rowM m r) 66 → (∀ j : Nat, j < i → rowM m r (j : Int) = rowM m0 r (j : Int)) → (∀ j : Nat, n ≤ j → j < 66 → rowM m r (j : Int) = rowM m0 r (j : Int)) → (∃ c : Int, nv (rowM m r) n = nv (rowM m0 r) n - q * nv (rowM mem 3) (n - i) * zB ^ i + c * zB ^ n) → rowM m r (i : Int) = (rowM m0 r (i : Int) - q * rowM mem 3 0) % 1073741824 → ∀ w6 w8 w9 w11 : VV, ZZ X (0, 0) 1 mX12_parts G0 173 [vr 88, vi (r : Int), vi tn, vi (n : Int), vi (i : Int), vi q, w6, vd, w8, w9, vd, w11, vd] [] m (pV G0 fun m => regAt m r (v / D) ∧ on89 mem m ∧ (∀ s w, s ≠ r → s ≠ 4 → regAt mem s w → regAt m s w))) →
      ∀ (t k : Nat) (o : Int) (m : Mem) (w9 w11 : VV), t + (i + k) = n → 0 ≤ o → o ≤ 1073741824 → onR r m0 m → m 90 (r : Int) = m0 90 (r : Int) → dig (rowM m r) 66 → (∀ j : Nat, j < i → rowM m r (j : Int) = rowM m0 r (j : Int)) → (∀ j : Nat, i + k ≤ j → j < 66 → rowM m r (j : Int) = rowM m0 r (j : Int)) → nv (rowM m r) (i + k) - o * zB ^ (i + k) = nv (rowM m0 r) (i + k) - q * nv (rowM mem 3) k * zB ^ i → (0 < k → rowM m r (i : Int) = (rowM m0 r (i : Int) - q * rowM mem 3 0) % 1073741824) → (k = 0 → o = 0) →
      ZZ X (0, 0) 1 mX12_parts G0 71 [vr 88, vi (r : Int), vi tn, vi (n : Int), vi (i : Int), vi q, vl o, vd, vi (k : Int), w9, vd, w11, vd] [] m (pV G0 fun m => regAt m r (v / D) ∧ on89 mem m ∧ (∀ s w, s ≠ r → s ≠ 4 → regAt mem s w → regAt m s w)) := by
    intro i q tn m0 hin hq0 hq1 h3 hw3 hdm0 cont t
    induction t with
    | zero =>
      intro k o m w9 w11 hk ho0 ho hon hsz hdm hlo hhi hinv hfst hk0
      have hnk : n - i = k := by omega
      refine z_iload dX12_parts_71 rfl ?_
      refine z_iload dX12_parts_73 rfl ?_
      refine z_iadd dX12_parts_75 (by omega) ?_
      refine z_iload_n dX12_parts_76 rfl ?_
      refine z_icmp_ge 173 dX12_parts_77 (by decide) (fun h77 => ?_) (fun h77 => ?_)
      · refine cont m hon hsz hdm hlo (fun j a b => hhi j (by omega) b) ⟨o, ?_⟩ (hfst (by omega)) _ _ _ _
        rw [show i + k = n by omega] at hinv
        rw [hnk]
        omega
      · omega
    | succ t ih =>
      intro k o m w9 w11 hk ho0 ho hon hsz hdm hlo hhi hinv hfst hk0
      have hA : 0 ≤ rowM m0 r ((i + k : Nat) : Int) ∧ rowM m0 r ((i + k : Nat) : Int) < 1073741824 := hdm0 (i + k) (by omega)
      have hC := hd2 k (by omega)
      have hp0 : 0 ≤ q * rowM mem 3 (k : Int) := Int.mul_nonneg hq0 hC.1
      have hp1 : q * rowM mem 3 (k : Int) ≤ q * 1073741823 := Int.mul_le_mul_of_nonneg_left (by omega) hq0
      have hon3 : ∀ j : Nat, j < 66 → rowM m 3 (j : Int) = rowM mem 3 (j : Int) := fun j hj => (rowM.off hon (by omega) (by omega) (by omega)).trans (h3 j hj)
      have e9 : 66 * (r : Int) + (i : Int) + (k : Int) = 66 * (r : Int) + ((i + k : Nat) : Int) := by omega
      refine z_kill 9 ?_
      refine z_kill 11 ?_
      dsimp only [List.set]
      have fin : ∀ y : Int, y = q * rowM mem 3 (k : Int) → ZZ X (0, 0) 1 mX12_parts G0 111 [vr 88, vi (r : Int), vi tn, vi (n : Int), vi (i : Int), vi q, vl o, vd, vi (k : Int), vd, vd, vd, vd] [vl y] m (pV G0 fun m => regAt m r (v / D) ∧ on89 mem m ∧ (∀ s w, s ≠ r → s ≠ 4 → regAt mem s w → regAt m s w)) := by
        intro y hy
        subst hy
        refine z_lstore dX12_parts_111 (by decide) rfl ?_
        dsimp only [List.set]
        refine z_aload_n dX12_parts_113 rfl ?_
        refine z_getR (ty := .int) dX12_parts_114 fl_X12_7 (by first | rfl | assumption) rfl rfl ?_
        refine z_bipush dX12_parts_117 (by decide) ?_
        refine z_iload_n dX12_parts_119 rfl ?_
        refine z_imul dX12_parts_120 (by omega) ?_
        refine z_iload dX12_parts_121 rfl ?_
        refine z_iadd dX12_parts_123 (by omega) ?_
        refine z_iload dX12_parts_124 rfl ?_
        refine z_iadd dX12_parts_126 (by omega) ?_
        rw [e9]
        refine z_iald dX12_parts_127 (by first | rfl | assumption) (by omega) (by omega) ?_
        rw [show m 89 (66 * (r : Int) + ((i + k : Nat) : Int)) = rowM m0 r ((i + k : Nat) : Int) from hhi (i + k) (Nat.le_refl _) (by omega)]
        refine z_i2l dX12_parts_128 ?_
        refine z_lload dX12_parts_129 rfl ?_
        refine z_lsub dX12_parts_131 (by omega) ?_
        refine z_lload dX12_parts_132 rfl ?_
        refine z_lsub dX12_parts_134 (by omega) ?_
        refine z_lstore dX12_parts_135 (by decide) rfl ?_
        dsimp only [List.set]
        refine z_aload_n dX12_parts_137 rfl ?_
        refine z_getR (ty := .int) dX12_parts_138 fl_X12_7 (by first | rfl | assumption) rfl rfl ?_
        refine z_bipush dX12_parts_141 (by decide) ?_
        refine z_iload_n dX12_parts_143 rfl ?_
        refine z_imul dX12_parts_144 (by omega) ?_
        refine z_iload dX12_parts_145 rfl ?_
        refine z_iadd dX12_parts_147 (by omega) ?_
        refine z_iload dX12_parts_148 rfl ?_
        refine z_iadd dX12_parts_150 (by omega) ?_
        rw [e9]
        refine z_lload dX12_parts_151 rfl ?_
        refine z_ldc2 (z := 1073741823) dX12_parts_153 kc_X12_66 (by decide) ?_
        refine z_land dX12_parts_156 ?_
        rw [land30]
        refine z_l2i dX12_parts_157 (by omega) ?_
        refine z_iast dX12_parts_158 (by first | rfl | assumption) (by omega) (by omega) ?_
        refine z_lload dX12_parts_159 rfl ?_
        refine z_bipush dX12_parts_161 (by decide) ?_
        refine z_lshr dX12_parts_163 ?_
        rw [lshr30 (by omega)]
        refine z_lnegw dX12_parts_164 ?_
        rw [w64_id (by omega)]
        refine z_lstore dX12_parts_165 (by decide) rfl ?_
        dsimp only [List.set]
        refine z_iinc dX12_parts_167 rfl (by omega) (by decide) rfl ?_
        dsimp only [List.set]
        refine z_goto 71 dX12_parts_170 (by decide) ?_
        refine ih (k + 1) _ _ _ _ (by omega) (by omega) (by omega) (hon.tr (onR_l (by omega) (by omega))) (by rw [wideM]; exact hsz) (by rw [rowM_set]; exact dig_upd hdm (by omega) (by omega)) (fun j hj => ?_) (fun j a b => ?_) ?_ (fun _ => ?_) (by omega)
        · rw [rowM_set, updF_ne _ _ (by omega)]
          exact hlo j hj
        · rw [rowM_set, updF_ne _ _ (by omega)]
          exact hhi j (by omega) b
        · show nv _ (i + k + 1) - _ * zB ^ (i + k + 1) = (nv (rowM m0 r) (i + k) + rowM m0 r ((i + k : Nat) : Int) * zB ^ (i + k)) - q * (nv (rowM mem 3) k + rowM mem 3 (k : Int) * zB ^ k) * zB ^ i
          rw [rowM_set, nv_updS]
          have hdm9 := Int.mul_ediv_add_emod (rowM m0 r ((i + k : Nat) : Int) - q * rowM mem 3 (k : Int) - o) 1073741824
          rw [Int.pow_succ]
          generalize (rowM m0 r ((i + k : Nat) : Int) - q * rowM mem 3 (k : Int) - o) / 1073741824 = qq at hdm9 ⊢
          generalize (rowM m0 r ((i + k : Nat) : Int) - q * rowM mem 3 (k : Int) - o) % 1073741824 = rr at hdm9 ⊢
          have hB : zB = 1073741824 := rfl
          rw [Int.pow_add] at hinv ⊢
          generalize zB ^ i = p1 at hinv ⊢
          generalize zB ^ k = p2 at hinv ⊢
          rw [hB]
          grind
        · rw [rowM_set]
          by_cases e : k = 0
          · subst e
            rw [hk0 rfl]
            show updF _ (i : Int) _ (i : Int) = _
            rw [updF_eq]
            congr 1
            show rowM m0 r (i : Int) - q * rowM mem 3 0 - 0 = _
            omega
          · rw [updF_ne _ _ (by omega)]
            exact hfst (by omega)
      refine z_iload dX12_parts_71 rfl ?_
      refine z_iload dX12_parts_73 rfl ?_
      refine z_iadd dX12_parts_75 (by omega) ?_
      refine z_iload_n dX12_parts_76 rfl ?_
      refine z_icmp_ge 173 dX12_parts_77 (by decide) (fun h77 => ?_) (fun h77 => ?_)
      · omega
      · refine z_iload dX12_parts_80 rfl ?_
        refine z_aload_n dX12_parts_82 rfl ?_
        refine z_getR (ty := .int) dX12_parts_83 fl_X12_13 (by first | rfl | assumption) rfl rfl ?_
        refine z_iconst dX12_parts_86 (by decide) ?_
        refine z_iald dX12_parts_87 (by first | rfl | assumption) (by omega) (by omega) ?_
        rw [show m 90 3 = (n2 : Int) from (hon.2.2 3 (by omega)).trans hw3]
        refine z_icmp_ge 110 dX12_parts_88 (by decide) (fun h88 => ?_) (fun h88 => ?_)
        · have hz0 : rowM mem 3 (k : Int) = 0 := hz2 k (by omega) (by omega)
          refine z_lconst (z := 0) dX12_parts_110 rfl (by decide) ?_
          first | exact fin _ rfl | exact fin 0 (by rw [hz0, Int.mul_zero])
        · refine z_iload dX12_parts_91 rfl ?_
          refine z_i2l dX12_parts_93 ?_
          refine z_aload_n dX12_parts_94 rfl ?_
          refine z_getR (ty := .int) dX12_parts_95 fl_X12_7 (by first | rfl | assumption) rfl rfl ?_
          refine z_sipush dX12_parts_98 (by decide) ?_
          refine z_iload dX12_parts_101 rfl ?_
          refine z_iadd dX12_parts_103 (by omega) ?_
          refine z_iald dX12_parts_104 (by first | rfl | assumption) (by omega) (by omega) ?_
          rw [show m 89 (198 + (k : Int)) = rowM mem 3 (k : Int) from hon3 k (by omega)]
          refine z_i2l dX12_parts_105 ?_
          refine z_lmul dX12_parts_106 (by omega) ?_
          refine z_goto 111 dX12_parts_107 (by decide) ?_
          first | exact fin _ rfl | exact fin 0 (by rw [hz0, Int.mul_zero])
  -- the turns over the digits
  have turns : ∀ (tn : Int), (∃ t : Int, ((D % 1073741824 : Nat) : Int) * tn = 1 + t * 4294967296) → ∀ (k i : Nat) (m : Mem) (w5 w6 w8 w9 w11 : VV), k + i = n → (∀ a, a ≠ 89 → a ≠ 90 → m a = mem a) → (∀ s w, s ≠ r → s ≠ 4 → regAt mem s w → regAt m s w) → (∀ j : Nat, j < 66 → rowM m 3 (j : Int) = rowM mem 3 (j : Int)) → m 90 3 = (n2 : Int) → m 90 (r : Int) = (n : Int) → dig (rowM m r) 66 → (∀ j : Nat, n ≤ j → j < 66 → rowM m r (j : Int) = 0) → (∀ j : Nat, j < i → rowM m r (j : Int) = 0) → dig (rowM m 4) i → (∃ c : Int, nv (rowM m 4) i * D + nv (rowM m r) n = (v : Int) + c * zB ^ n) →
      ZZ X (0, 0) 1 mX12_parts G0 40 [vr 88, vi (r : Int), vi tn, vi (n : Int), vi (i : Int), w5, w6, vd, w8, w9, vd, w11, vd] [] m (pV G0 fun m => regAt m r (v / D) ∧ on89 mem m ∧ (∀ s w, s ≠ r → s ≠ 4 → regAt mem s w → regAt m s w)) := by
    intro tn htn k
    induction k with
    | zero =>
      intro i m w5 w6 w8 w9 w11 hk hon hoth h3 hw3 hsz hdm hzm hz0 hd4 hI
      have hi : i = n := by omega
      subst hi
      obtain ⟨c, hc⟩ := hI
      have hr0 : nv (rowM m r) i = 0 := by
        rw [nv_pad (k := 0) (Nat.zero_le i) (fun j _ h2 => hz0 j h2)]; rfl
      have h0 := nv_nonneg hd4
      have h1 := nv_lt hd4
      obtain ⟨q, hq⟩ : ∃ q : Nat, nv (rowM m 4) i = (q : Int) := ⟨(nv (rowM m 4) i).toNat, by omega⟩
      have hqQ : q = Q := by
        refine exact_odd (n := i) (c := c) ?_ hodd ?_ (by omega)
        · rw [hq, hr0, hQ] at hc
          rw [Int.natCast_mul] at hc
          rw [Int.mul_comm (Q : Int)]
          omega
        · have : (q : Int) < ((1073741824 ^ i : Nat) : Int) := by rw [Int.natCast_pow, ← hq]; exact h1
          exact Int.ofNat_lt.mp this
      refine z_iload dX12_parts_40 rfl ?_
      refine z_iload_n dX12_parts_42 rfl ?_
      refine z_icmp_ge 192 dX12_parts_43 (by decide) (fun h43 => ?_) (fun h43 => ?_)
      · refine z_iconst dX12_parts_192 (by decide) ?_
        refine z_istore dX12_parts_193 (by decide) rfl ?_
        dsimp only [List.set]
        exact copy i 0 m tn w5 w6 w8 w9 w11 (by omega) hon hoth hsz (fun j hj => by omega) hzm hd4 (by rw [hq, hqQ])
      · omega
    | succ k ih =>
      intro i m w5 w6 w8 w9 w11 hk hon hoth h3 hw3 hsz hdm hzm hz0 hd4 hI
      have hA := hdm i (by omega)
      have hq0 := Int.emod_nonneg (rowM m r (i : Int) * tn) (show (1073741824 : Int) ≠ 0 by decide)
      have hq1 := Int.emod_lt_of_pos (rowM m r (i : Int) * tn) (show (0 : Int) < 1073741824 by decide)
      have hmask : iandV (w32 (rowM m r (i : Int) * tn)) 1073741823 = rowM m r (i : Int) * tn % 1073741824 := by
        rw [iand30]
        obtain ⟨k1, h1⟩ := w32_ex (rowM m r (i : Int) * tn)
        rw [h1, show rowM m r (i : Int) * tn + k1 * 4294967296 = rowM m r (i : Int) * tn + 1073741824 * (k1 * 4) by omega, Int.add_mul_emod_self_left]
      refine z_kill 5 ?_
      refine z_kill 6 ?_
      refine z_kill 8 ?_
      dsimp only [List.set]
      refine z_iload dX12_parts_40 rfl ?_
      refine z_iload_n dX12_parts_42 rfl ?_
      refine z_icmp_ge 192 dX12_parts_43 (by decide) (fun h43 => ?_) (fun h43 => ?_)
      · omega
      · refine z_aload_n dX12_parts_46 rfl ?_
        refine z_getR (ty := .int) dX12_parts_47 fl_X12_7 (by first | rfl | assumption) rfl rfl ?_
        refine z_bipush dX12_parts_50 (by decide) ?_
        refine z_iload_n dX12_parts_52 rfl ?_
        refine z_imul dX12_parts_53 (by omega) ?_
        refine z_iload dX12_parts_54 rfl ?_
        refine z_iadd dX12_parts_56 (by omega) ?_
        refine z_iald dX12_parts_57 (by first | rfl | assumption) (by omega) (by omega) ?_
        rw [show m 89 (66 * (r : Int) + (i : Int)) = rowM m r (i : Int) from rfl]
        refine z_iload_n dX12_parts_58 rfl ?_
        refine z_imulw dX12_parts_59 ?_
        refine z_ldc (z := 1073741823) dX12_parts_60 kc_X12_72 (by decide) ?_
        refine z_iand dX12_parts_62 ?_
        rw [hmask]
        refine z_istore dX12_parts_63 (by decide) rfl ?_
        dsimp only [List.set]
        refine z_lconst (z := 0) dX12_parts_65 rfl (by decide) ?_
        refine z_lstore dX12_parts_66 (by decide) rfl ?_
        dsimp only [List.set]
        refine z_iconst dX12_parts_68 (by decide) ?_
        refine z_istore dX12_parts_69 (by decide) rfl ?_
        dsimp only [List.set]
        refine take i _ tn m (by omega) hq0 hq1 h3 hw3 hdm (fun m1 hon1 hsz1 hdm1 hlo1 hhi1 hI1 hfst1 w6 w8 w9 w11 => ?_) (k + 1) 0 0 m _ _ (by omega) (by omega) (by omega) (onR.rf _ _) rfl hdm (fun j _ => rfl) (fun j _ _ => rfl) (by simp [nv]) (fun w => by omega) (fun _ => rfl)
        obtain ⟨c, hc⟩ := hI
        obtain ⟨c1, hc1⟩ := hI1
        obtain ⟨hh, hDD⟩ := hDhi (n - i) (by omega)
        have hz1 : rowM m1 r (i : Int) = 0 := by
          rw [hfst1, hlow]
          obtain ⟨t, ht9⟩ := htn
          have hdm9 := Int.mul_ediv_add_emod (rowM m r (i : Int) * tn) 1073741824
          generalize rowM m r (i : Int) * tn % 1073741824 = dd at hdm9 ⊢
          generalize hE : rowM m r (i : Int) * tn / 1073741824 = ee at hdm9
          have hx : rowM m r (i : Int) - dd * ((D % 1073741824 : Nat) : Int) = 1073741824 * (ee * ((D % 1073741824 : Nat) : Int) - rowM m r (i : Int) * t * 4) := by
            generalize ((D % 1073741824 : Nat) : Int) = d0 at ht9 ⊢
            generalize rowM m r (i : Int) = x0 at hdm9 ⊢
            have : dd = x0 * tn - 1073741824 * ee := by omega
            subst this
            grind
          rw [hx, Int.mul_emod_right]
        refine z_aload_n dX12_parts_173 rfl ?_
        refine z_getR (ty := .int) dX12_parts_174 fl_X12_7 (by first | rfl | assumption) rfl rfl ?_
        refine z_sipush dX12_parts_177 (by decide) ?_
        refine z_iload dX12_parts_180 rfl ?_
        refine z_iadd dX12_parts_182 (by omega) ?_
        refine z_iload dX12_parts_183 rfl ?_
        refine z_iast dX12_parts_185 (by first | rfl | assumption) (by omega) (by omega) ?_
        refine z_iinc dX12_parts_186 rfl (by omega) (by decide) rfl ?_
        dsimp only [List.set]
        refine z_goto 40 dX12_parts_189 (by decide) ?_
        have hR4 := onR_l (r := 4) (mem := m1) (i := (i : Int)) (v := rowM m r (i : Int) * tn % 1073741824) (by omega) (by omega)
        have e264 : (66 * ((4 : Nat) : Int) + (i : Int)) = 264 + (i : Int) := by omega
        rw [e264] at hR4
        have hrr : ∀ j : Nat, j < 66 → rowM (mset m1 89 (264 + (i : Int)) (rowM m r (i : Int) * tn % 1073741824)) r (j : Int) = rowM m1 r (j : Int) := fun j hj => rowM.off hR4 (by omega) (by omega) (by omega)
        have h33 : ∀ j : Nat, j < 66 → rowM (mset m1 89 (264 + (i : Int)) (rowM m r (i : Int) * tn % 1073741824)) 3 (j : Int) = rowM mem 3 (j : Int) := fun j hj => (rowM.off hR4 (by decide) (by omega) (by omega)).trans ((rowM.off hon1 (by omega) (by omega) (by omega)).trans (h3 j hj))
        have h44 : rowM (mset m1 89 (264 + (i : Int)) (rowM m r (i : Int) * tn % 1073741824)) 4 = updF (rowM m1 4) (i : Int) (rowM m r (i : Int) * tn % 1073741824) := by rw [← e264]; exact rowM_set m1 4 (i : Int) _
        have h4o : ∀ j : Nat, j < 66 → rowM m1 4 (j : Int) = rowM m 4 (j : Int) := fun j hj => rowM.off hon1 (by omega) (by omega) (by omega)
        refine ih (i + 1) _ _ _ _ _ _ (by omega) (fun a ha hb => ((hR4.1 a ha hb).trans (hon1.1 a ha hb)).trans (hon a ha hb)) (fun s w h1 h2 h3 => ((hoth s w h1 h2 h3).off hon1 h1).off hR4 h2) h33 ((wideM _ _ _ _).trans ((hon1.2.2 3 (by omega)).trans hw3)) ((wideM _ _ _ _).trans (hsz1.trans hsz)) (fun j hj => by rw [hrr j hj]; exact hdm1 j hj) (fun j a b => by rw [hrr j b, hhi1 j a b]; exact hzm j a b) (fun j hj => ?_) (by rw [h44]; exact dig_updS (fun j hj => by rw [h4o j (by omega)]; exact hd4 j hj) hq0 hq1) ?_
        · rw [hrr j (by omega)]
          by_cases e : j = i
          · subst e; exact hz1
          · rw [hlo1 j (by omega)]; exact hz0 j (by omega)
        · refine ⟨c + c1 + (rowM m r (i : Int) * tn % 1073741824) * hh, ?_⟩
          rw [h44, nv_updS, nv_congr (fun j hj => h4o j (by omega)), nv_congr (fun j hj => hrr j (by omega)), hc1]
          have hpn : zB ^ n = zB ^ i * zB ^ (n - i) := by rw [← Int.pow_add, show i + (n - i) = n by omega]
          generalize rowM m r (i : Int) * tn % 1073741824 = dd
          rw [hpn] at hc ⊢
          generalize zB ^ i = p1 at hc ⊢
          generalize zB ^ (n - i) = p2 at hc hDD ⊢
          generalize nv (rowM mem 3) (n - i) = dl at hDD ⊢
          generalize nv (rowM m r) n = vn at hc ⊢
          generalize nv (rowM m 4) i = vi0 at hc ⊢
          grind
  -- the turned digit
  have step : ∀ {x : Int} (i e e' q c : Int), e * e = e' * q → 4294967296 = e' * c → 0 ≤ i → i < 5 → (∃ t : Int, ((D % 1073741824 : Nat) : Int) * x = 1 + t * e) → (∀ y : Int, (∃ t : Int, ((D % 1073741824 : Nat) : Int) * y = 1 + t * e') → ZZ X (0, 0) 1 mX12_parts G0 4 [vr 88, vi (r : Int), vi y, vi (i + 1), vd, vd, vd, vd, vd, vd, vd, vd, vd] [] mem (pV G0 fun m => regAt m r (v / D) ∧ on89 mem m ∧ (∀ s w, s ≠ r → s ≠ 4 → regAt mem s w → regAt m s w))) → ZZ X (0, 0) 1 mX12_parts G0 4 [vr 88, vi (r : Int), vi x, vi i, vd, vd, vd, vd, vd, vd, vd, vd, vd] [] mem (pV G0 fun m => regAt m r (v / D) ∧ on89 mem m ∧ (∀ s w, s ≠ r → s ≠ 4 → regAt mem s w → regAt m s w)) := by
    intro x i e e' q c he hc hi0 hi4 hx k
    obtain ⟨t, ht9⟩ := hx
    refine z_iload_n dX12_parts_4 rfl ?_
    refine z_iconst dX12_parts_5 (by decide) ?_
    refine z_icmp_ge 30 dX12_parts_6 (by decide) (fun h6 => ?_) (fun h6 => ?_)
    · omega
    · refine z_iload_n dX12_parts_9 rfl ?_
      refine z_iconst dX12_parts_10 (by decide) ?_
      refine z_aload_n dX12_parts_11 rfl ?_
      refine z_getR (ty := .int) dX12_parts_12 fl_X12_7 (by first | rfl | assumption) rfl rfl ?_
      refine z_sipush dX12_parts_15 (by decide) ?_
      refine z_iald dX12_parts_18 (by first | rfl | assumption) (by omega) (by omega) ?_
      rw [show mem 89 198 = ((D % 1073741824 : Nat) : Int) from hlow]
      refine z_iload_n dX12_parts_19 rfl ?_
      refine z_imulw dX12_parts_20 ?_
      refine z_isubw dX12_parts_21 ?_
      refine z_imulw dX12_parts_22 ?_
      refine z_istore_n dX12_parts_23 (by decide) rfl ?_
      dsimp only [List.set]
      refine z_iinc dX12_parts_24 rfl (by omega) (by decide) rfl ?_
      dsimp only [List.set]
      refine z_goto 4 dX12_parts_27 (by decide) ?_
      refine k _ ?_
      obtain ⟨k1, h1⟩ := w32_ex (((D % 1073741824 : Nat) : Int) * x)
      obtain ⟨k2, h2⟩ := w32_ex (2 - w32 (((D % 1073741824 : Nat) : Int) * x))
      obtain ⟨k3, h3⟩ := w32_ex (x * w32 (2 - w32 (((D % 1073741824 : Nat) : Int) * x)))
      rw [h3, h2, h1]
      exact inv_step he hc ht9 rfl
  refine z_iconst dX12_parts_0 (by decide) ?_
  refine z_istore_n dX12_parts_1 (by decide) rfl ?_
  dsimp only [List.set]
  refine z_iconst dX12_parts_2 (by decide) ?_
  refine z_istore_n dX12_parts_3 (by decide) rfl ?_
  dsimp only [List.set]
  refine step 0 2 4 1 1073741824 (by decide) (by decide) (by decide) (by decide) ⟨((D % 1073741824 : Nat) : Int) / 2, by omega⟩ (fun y hy => ?_)
  refine step _ 4 16 1 268435456 (by decide) (by decide) (by decide) (by decide) hy (fun y hy => ?_)
  refine step _ 16 256 1 16777216 (by decide) (by decide) (by decide) (by decide) hy (fun y hy => ?_)
  refine step _ 256 65536 1 65536 (by decide) (by decide) (by decide) (by decide) hy (fun y hy => ?_)
  refine step _ 65536 4294967296 1 1 (by decide) (by decide) (by decide) (by decide) hy (fun y hy => ?_)
  refine z_iload_n dX12_parts_4 rfl ?_
  refine z_iconst dX12_parts_5 (by decide) ?_
  refine z_icmp_ge 30 dX12_parts_6 (by decide) (fun h6 => ?_) (fun h6 => ?_)
  · refine z_aload_n dX12_parts_30 rfl ?_
    refine z_getR (ty := .int) dX12_parts_31 fl_X12_13 (by first | rfl | assumption) rfl rfl ?_
    refine z_iload_n dX12_parts_34 rfl ?_
    refine z_iald dX12_parts_35 (by first | rfl | assumption) (by omega) (by omega) ?_
    rw [hwd]
    refine z_istore_n dX12_parts_36 (by decide) rfl ?_
    dsimp only [List.set]
    refine z_iconst dX12_parts_37 (by decide) ?_
    refine z_istore dX12_parts_38 (by decide) rfl ?_
    dsimp only [List.set]
    exact turns y hy n 0 mem _ _ _ _ _ (by omega) (fun _ _ _ => rfl) (fun _ _ _ _ h => h) (fun _ _ => rfl) hwd2 hwd hd hz (fun j hj => by omega) (fun j hj => by omega) ⟨0, by simp [nv, hvn]⟩
  · omega
end ModD
