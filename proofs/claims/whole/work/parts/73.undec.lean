/-! ===== words that free letters still decide ===== -/
section Und
variable {X : Nat × (Int → Int)} {mem : Mem} {nw : Nat} {wd : Nat → Nat → Int} {O R : List Nat} {U : Nat}
/-- words that are not open hold in every key; an open one has a free letter -/
def opI (nw : Nat) (wd : Nat → Nat → Int) (g : Int → Int) (R : List Nat) (U S : Nat) : Prop := S < 2 ^ nw ∧ (∀ w : Nat, w < nw → S.testBit w = false → ∀ k, ext R g U k → okWP wd k w) ∧ ∀ w : Nat, w < nw → S.testBit w = true → ∃ j, j < (wd 0 w).toNat ∧ ltr (wd 1 w).toNat j ∈ R
theorem opI.ex {g : Int → Int} {S : Nat} (h : opI nw wd g R U S) (h0 : ¬ S = 0) : ∃ w : Nat, w < nw ∧ S.testBit w = true := by
  obtain ⟨w, hw⟩ := Nat.exists_testBit_of_ne_zero h0
  refine ⟨w, Classical.byContradiction fun q => ?_, hw⟩
  have h1 : 2 ^ nw ≤ 2 ^ w := Nat.pow_le_pow_right (by decide) (by omega)
  have h2 := Nat.testBit_lt_two_pow (x := S) (i := w) (by have := h.1; omega)
  rw [h2] at hw
  cases hw
theorem opI.some {g : Int → Int} {S : Nat} (h : opI nw wd g R U S) (h0 : ¬ S = 0) : ∃ a, a ∈ R := by
  obtain ⟨w, h1, h2⟩ := h.ex h0
  obtain ⟨j, -, h3⟩ := h.2.2 w h1 h2
  exact ⟨_, h3⟩
theorem opI.all {g : Int → Int} (h : opI nw wd g R U 0) {k : Int → Int} (hk : ext R g U k) : okK nw wd k = true := okK_iff.mpr fun w hw => h.2.1 w hw (Nat.zero_testBit w) k hk
theorem p12 {nw : Nat} (h : nw ≤ 12) : 2 ^ nw ≤ 4096 := Nat.pow_le_pow_right (n := 2) (by decide) h
def unQ (nw : Nat) (wd : Nat → Nat → Int) (g : Int → Int) (R : List Nat) (U : Nat) (z : Int) : Prop := (z = -1 ∧ ∀ k, ext R g U k → ¬ okK nw wd k = true) ∨ ∃ S : Nat, z = (S : Int) ∧ opI nw wd g R U S
theorem cm_X10_undecided {S : Nat} (hf : wdC mem nw wd) (hr : wdR nw wd) (hs : frS mem O R U) (hS : S < 2 ^ nw) (hop : ∀ w : Nat, w < nw → S.testBit w = false → ∀ k, ext R (mem 28) U k → okWP wd k w) : CM X (0, 0) 1 mX10_undecided G0 [vr 22, vi (S : Int)] mem (pI G0 fun z m => unQ nw wd (mem 28) R U z ∧ m = mem) := by
  have hn := hf.1
  have hsz := hf.2.1
  have hp := p12 hn
  refine CM.of (by decide +kernel) 4 (Nat.le_of_ble_eq_true rfl) ?_
  show ZZ X (0, 0) 1 mX10_undecided G0 0 [vr 22, vi (S : Int), vd, vd, vd, vd] [] mem _
  have loop : ∀ (e w T : Nat) (u4 u5 : VV), w + e = nw → T < 2 ^ w → (∀ v : Nat, v < w → T.testBit v = false → ∀ k, ext R (mem 28) U k → okWP wd k v) → (∀ v : Nat, v < w → T.testBit v = true → ∃ j, j < (wd 0 v).toNat ∧ ltr (wd 1 v).toNat j ∈ R) → ZZ X (0, 0) 1 mX10_undecided G0 4 [vr 22, vi (S : Int), vi (T : Int), vi (w : Int), u4, u5] [] mem (pI G0 fun z m => unQ nw wd (mem 28) R U z ∧ m = mem) := by
    intro e
    induction e with
    | zero =>
      intro w T u4 u5 hw hT h1 h2
      have : w = nw := by omega
      subst this
      refine z_iload_n dX10_undecided_4 rfl ?_
      refine z_aload_n dX10_undecided_5 rfl ?_
      refine z_gI 4 dX10_undecided_6 fl_X10_40 (by first | rfl | assumption) rfl rfl ?_
      rw [hsz]
      refine z_icmp_ge 124 dX10_undecided_9 (by decide) (fun h9 => ?_) (fun h9 => ?_)
      · refine z_iload_n dX10_undecided_124 rfl ?_
        refine z_iret dX10_undecided_125 rfl ?_
        exact ⟨rfl, _, rfl, Or.inr ⟨T, rfl, hT, h1, h2⟩, rfl⟩
      · omega
    | succ e ih =>
      intro w T u4 u5 hw hT h1 h2
      have hwn : w < nw := by omega
      obtain ⟨l, c, e0, e1, hl1, hl4, hc⟩ := hr.at hwn
      have c23 := hf.2.2 0 w (by decide) hwn
      have c24 := hf.2.2 1 w (by decide) hwn
      have c25 := hf.2.2 2 w (by decide) hwn
      have c26 := hf.2.2 3 w (by decide) hwn
      have hpw : 2 ^ w ≤ 2 ^ 11 := Nat.pow_le_pow_right (by decide) (by omega)
      have hps : 2 ^ (w + 1) = 2 ^ w + 2 ^ w := by rw [Nat.pow_succ]; omega
      have hTw := Nat.testBit_lt_two_pow hT
      have hok : ∀ k, okWP wd k w ↔ (wd 2 w ≤ valN k c l ∧ valN k c l ≤ wd 3 w) := by
        intro k
        unfold okWP
        rw [e0, e1, Int.toNat_natCast, Int.toNat_natCast]
      have hlo : ∀ k, ext R (mem 28) U k → valN (mem 28) c l ≤ valN k c l ∧ valN k c l ≤ valN (mem 29) c l := fun k hk => ⟨valN_mono (fun a ha => (hs.le hk a ha).1) c l, valN_mono (fun a ha => (hs.le hk a ha).2) c l⟩
      have heq : ¬ (∃ j, j < (wd 0 w).toNat ∧ ltr (wd 1 w).toNat j ∈ R) → valN (mem 28) c l = valN (mem 29) c l := by
        intro q
        refine valN_congr fun j hj => ?_
        rcases hs.1.all (ltr_lt c j) with t | t
        · exact hs.2.1 _ t
        · exact absurd ⟨j, by rw [e0, Int.toNat_natCast]; exact hj, by rw [e1, Int.toNat_natCast]; exact t⟩ q
      have nxt0 : ∀ (u4 u5 : VV), (∀ k, ext R (mem 28) U k → okWP wd k w) → ZZ X (0, 0) 1 mX10_undecided G0 118 [vr 22, vi (S : Int), vi (T : Int), vi (w : Int), u4, u5] [] mem (pI G0 fun z m => unQ nw wd (mem 28) R U z ∧ m = mem) := by
        intro u4 u5 hkw
        refine z_iinc dX10_undecided_118 rfl (by omega) (by decide) rfl ?_
        dsimp only [List.set]
        refine z_goto 4 dX10_undecided_121 (by decide) ?_
        refine ih (w + 1) T u4 u5 (by omega) (by omega) (fun v hv hb => ?_) (fun v hv hb => ?_)
        · by_cases q : v = w
          · subst q; exact hkw
          · exact h1 v (by omega) hb
        · by_cases q : v = w
          · subst q; rw [hTw] at hb; cases hb
          · exact h2 v (by omega) hb
      have nxt1 : ∀ (u4 u5 : VV), (∃ j, j < (wd 0 w).toNat ∧ ltr (wd 1 w).toNat j ∈ R) → ZZ X (0, 0) 1 mX10_undecided G0 118 [vr 22, vi (S : Int), vi ((T ||| 2 ^ w : Nat) : Int), vi (w : Int), u4, u5] [] mem (pI G0 fun z m => unQ nw wd (mem 28) R U z ∧ m = mem) := by
        intro u4 u5 hfw
        refine z_iinc dX10_undecided_118 rfl (by omega) (by decide) rfl ?_
        dsimp only [List.set]
        refine z_goto 4 dX10_undecided_121 (by decide) ?_
        refine ih (w + 1) (T ||| 2 ^ w) u4 u5 (by omega) (Nat.or_lt_two_pow (by omega) (by omega)) (fun v hv hb => ?_) (fun v hv hb => ?_)
        · rw [tb_or] at hb
          by_cases q : v = w
          · subst q; rw [decide_eq_true rfl, Bool.or_true] at hb; cases hb
          · rw [decide_eq_false (fun t => q t.symm), Bool.or_false] at hb
            exact h1 v (by omega) hb
        · rw [tb_or] at hb
          by_cases q : v = w
          · subst q; exact hfw
          · rw [decide_eq_false (fun t => q t.symm), Bool.or_false] at hb
            exact h2 v (by omega) hb
      refine z_kill 4 ?_
      refine z_kill 5 ?_
      dsimp only [List.set]
      refine z_iload_n dX10_undecided_4 rfl ?_
      refine z_aload_n dX10_undecided_5 rfl ?_
      refine z_gI 4 dX10_undecided_6 fl_X10_40 (by first | rfl | assumption) rfl rfl ?_
      rw [hsz]
      refine z_icmp_ge 124 dX10_undecided_9 (by decide) (fun h9 => ?_) (fun h9 => ?_)
      · omega
      · refine z_iload_n dX10_undecided_12 rfl ?_
        refine z_iconst dX10_undecided_13 (by decide) ?_
        refine z_iload_n dX10_undecided_14 rfl ?_
        refine z_ishl dX10_undecided_15 ?_
        rw [shl1' (by omega)]
        refine z_iand dX10_undecided_16 ?_
        rw [iand_nat (by omega) (by omega)]
        refine z_if_eq 118 dX10_undecided_17 (by decide) (fun h17 => ?_) (fun h17 => ?_)
        · have hb := (and_2p S w).mp (by omega)
          exact nxt0 _ _ (hop w hwn hb)
        · have hb : ¬ S.testBit w = false := fun q => by have := (and_2p S w).mpr q; omega
          refine z_aload_n dX10_undecided_20 rfl ?_
          refine z_getR (ty := .int) dX10_undecided_21 fl_X10_27 (by first | rfl | assumption) rfl rfl ?_
          refine z_aload_n dX10_undecided_24 rfl ?_
          refine z_getR (ty := .int) dX10_undecided_25 fl_X10_11 (by first | rfl | assumption) rfl rfl ?_
          refine z_iload_n dX10_undecided_28 rfl ?_
          refine z_iald dX10_undecided_29 (by first | rfl | assumption) (by omega) (by omega) ?_
          rw [c23, e0]
          refine z_aload_n dX10_undecided_30 rfl ?_
          refine z_getR (ty := .int) dX10_undecided_31 fl_X10_15 (by first | rfl | assumption) rfl rfl ?_
          refine z_iload_n dX10_undecided_34 rfl ?_
          refine z_iald dX10_undecided_35 (by first | rfl | assumption) (by omega) (by omega) ?_
          rw [c24, e1]
          refine z_S3i dX10_undecided_36 ok_X10_valueOf lk_X10_72 (Nat.le_of_ble_eq_true rfl) (by decide) (cm_X10_valueOf (q := 28) rfl hs.2.2.2.2.2.2 hl4 hc) (fun z1 m1 hm1 => ?_)
          obtain ⟨rfl, hmm⟩ := hm1
          subst hmm
          refine z_istore dX10_undecided_39 (by decide) rfl ?_
          dsimp only [List.set]
          refine z_aload_n dX10_undecided_41 rfl ?_
          refine z_getR (ty := .int) dX10_undecided_42 fl_X10_30 (by first | rfl | assumption) rfl rfl ?_
          refine z_aload_n dX10_undecided_45 rfl ?_
          refine z_getR (ty := .int) dX10_undecided_46 fl_X10_11 (by first | rfl | assumption) rfl rfl ?_
          refine z_iload_n dX10_undecided_49 rfl ?_
          refine z_iald dX10_undecided_50 (by first | rfl | assumption) (by omega) (by omega) ?_
          rw [c23, e0]
          refine z_aload_n dX10_undecided_51 rfl ?_
          refine z_getR (ty := .int) dX10_undecided_52 fl_X10_15 (by first | rfl | assumption) rfl rfl ?_
          refine z_iload_n dX10_undecided_55 rfl ?_
          refine z_iald dX10_undecided_56 (by first | rfl | assumption) (by omega) (by omega) ?_
          rw [c24, e1]
          refine z_S3i dX10_undecided_57 ok_X10_valueOf lk_X10_72 (Nat.le_of_ble_eq_true rfl) (by decide) (cm_X10_valueOf (q := 29) rfl hs.fig9 hl4 hc) (fun z2 m2 hm2 => ?_)
          obtain ⟨rfl, hmm⟩ := hm2
          subst hmm
          refine z_istore dX10_undecided_60 (by decide) rfl ?_
          dsimp only [List.set]
          refine z_iload dX10_undecided_62 rfl ?_
          refine z_aload_n dX10_undecided_64 rfl ?_
          refine z_getR (ty := .int) dX10_undecided_65 fl_X10_18 (by first | rfl | assumption) rfl rfl ?_
          refine z_iload_n dX10_undecided_68 rfl ?_
          refine z_iald dX10_undecided_69 (by first | rfl | assumption) (by omega) (by omega) ?_
          rw [c25]
          refine z_icmp_lt 84 dX10_undecided_70 (by decide) (fun h70 => ?_) (fun h70 => ?_)
          · refine z_iconst dX10_undecided_84 (by decide) ?_
            refine z_iret dX10_undecided_85 rfl ?_
            refine ⟨rfl, _, rfl, Or.inl ⟨rfl, fun k hk hkk => ?_⟩, rfl⟩
            have := (hok k).mp (okK_iff.mp hkk w hwn)
            have := hlo k hk
            omega
          · refine z_iload dX10_undecided_73 rfl ?_
            refine z_aload_n dX10_undecided_75 rfl ?_
            refine z_getR (ty := .int) dX10_undecided_76 fl_X10_21 (by first | rfl | assumption) rfl rfl ?_
            refine z_iload_n dX10_undecided_79 rfl ?_
            refine z_iald dX10_undecided_80 (by first | rfl | assumption) (by omega) (by omega) ?_
            rw [c26]
            refine z_icmp_le 86 dX10_undecided_81 (by decide) (fun h81 => ?_) (fun h81 => ?_)
            · refine z_iload_n dX10_undecided_86 rfl ?_
              refine z_iload dX10_undecided_87 rfl ?_
              refine z_aload_n dX10_undecided_89 rfl ?_
              refine z_getR (ty := .int) dX10_undecided_90 fl_X10_18 (by first | rfl | assumption) rfl rfl ?_
              refine z_iload_n dX10_undecided_93 rfl ?_
              refine z_iald dX10_undecided_94 (by first | rfl | assumption) (by omega) (by omega) ?_
              rw [c25]
              refine z_icmp_lt 109 dX10_undecided_95 (by decide) (fun h95 => ?_) (fun h95 => ?_)
              · have hfw : ∃ j, j < (wd 0 w).toNat ∧ ltr (wd 1 w).toNat j ∈ R := Classical.byContradiction fun q => by
                  have := heq q
                  omega
                refine z_iconst dX10_undecided_109 (by decide) ?_
                refine z_iload_n dX10_undecided_110 rfl ?_
                refine z_ishl dX10_undecided_111 ?_
                rw [shl1' (by omega)]
                refine z_goto 116 dX10_undecided_112 (by decide) ?_
                first
                | (refine z_ior dX10_undecided_116 ?_
                   rw [ior_nat (by omega) (by omega)]
                   refine z_istore_n dX10_undecided_117 (by decide) rfl ?_
                   dsimp only [List.set]
                   exact nxt1 _ _ hfw)
                | (refine z_ior dX10_undecided_116 ?_
                   rw [ior_0 (by omega)]
                   refine z_istore_n dX10_undecided_117 (by decide) rfl ?_
                   dsimp only [List.set]
                   exact nxt0 _ _ (fun k hk => (hok k).mpr (by have := hlo k hk; omega)))
              · refine z_iload dX10_undecided_98 rfl ?_
                refine z_aload_n dX10_undecided_100 rfl ?_
                refine z_getR (ty := .int) dX10_undecided_101 fl_X10_21 (by first | rfl | assumption) rfl rfl ?_
                refine z_iload_n dX10_undecided_104 rfl ?_
                refine z_iald dX10_undecided_105 (by first | rfl | assumption) (by omega) (by omega) ?_
                rw [c26]
                refine z_icmp_le 115 dX10_undecided_106 (by decide) (fun h106 => ?_) (fun h106 => ?_)
                · refine z_iconst dX10_undecided_115 (by decide) ?_
                  first
                  | (refine z_ior dX10_undecided_116 ?_
                     rw [ior_nat (by omega) (by omega)]
                     refine z_istore_n dX10_undecided_117 (by decide) rfl ?_
                     dsimp only [List.set]
                     exact nxt1 _ _ hfw)
                  | (refine z_ior dX10_undecided_116 ?_
                     rw [ior_0 (by omega)]
                     refine z_istore_n dX10_undecided_117 (by decide) rfl ?_
                     dsimp only [List.set]
                     exact nxt0 _ _ (fun k hk => (hok k).mpr (by have := hlo k hk; omega)))
                · have hfw : ∃ j, j < (wd 0 w).toNat ∧ ltr (wd 1 w).toNat j ∈ R := Classical.byContradiction fun q => by
                    have := heq q
                    omega
                  refine z_iconst dX10_undecided_109 (by decide) ?_
                  refine z_iload_n dX10_undecided_110 rfl ?_
                  refine z_ishl dX10_undecided_111 ?_
                  rw [shl1' (by omega)]
                  refine z_goto 116 dX10_undecided_112 (by decide) ?_
                  first
                  | (refine z_ior dX10_undecided_116 ?_
                     rw [ior_nat (by omega) (by omega)]
                     refine z_istore_n dX10_undecided_117 (by decide) rfl ?_
                     dsimp only [List.set]
                     exact nxt1 _ _ hfw)
                  | (refine z_ior dX10_undecided_116 ?_
                     rw [ior_0 (by omega)]
                     refine z_istore_n dX10_undecided_117 (by decide) rfl ?_
                     dsimp only [List.set]
                     exact nxt0 _ _ (fun k hk => (hok k).mpr (by have := hlo k hk; omega)))
            · refine z_iconst dX10_undecided_84 (by decide) ?_
              refine z_iret dX10_undecided_85 rfl ?_
              refine ⟨rfl, _, rfl, Or.inl ⟨rfl, fun k hk hkk => ?_⟩, rfl⟩
              have := (hok k).mp (okK_iff.mp hkk w hwn)
              have := hlo k hk
              omega
  refine z_iconst dX10_undecided_0 (by decide) ?_
  refine z_istore_n dX10_undecided_1 (by decide) rfl ?_
  dsimp only [List.set]
  refine z_iconst dX10_undecided_2 (by decide) ?_
  refine z_istore_n dX10_undecided_3 (by decide) rfl ?_
  dsimp only [List.set]
  exact loop nw 0 0 _ _ (by omega) (by decide) (fun v hv => by omega) (fun v hv => by omega)
theorem cm_X10_freeLetterOf {S : Nat} (hf : wdC mem nw wd) (hr : wdR nw wd) (hs : frS mem O R U) (hop : opI nw wd (mem 28) R U S) (h0 : ¬ S = 0) : CM X (0, 0) 2 mX10_freeLetterOf G0 [vr 22, vi (S : Int)] mem (pI G0 fun z m => (∃ a, a ∈ R ∧ z = (a : Int)) ∧ m = mem) := by
  have hn := hf.1
  have hsz := hf.2.1
  have hp := p12 hn
  have hS := hop.1
  refine CM.of (by decide +kernel) 1 (Nat.le_of_ble_eq_true rfl) ?_
  show ZZ X (0, 0) 2 mX10_freeLetterOf G0 0 [vr 22, vi (S : Int), vd] [] mem _
  have loop : ∀ (e w : Nat), w + e = nw → (∀ v : Nat, v < w → S.testBit v = false) → ZZ X (0, 0) 2 mX10_freeLetterOf G0 2 [vr 22, vi (S : Int), vi (w : Int)] [] mem (pI G0 fun z m => (∃ a, a ∈ R ∧ z = (a : Int)) ∧ m = mem) := by
    intro e
    induction e with
    | zero =>
      intro w hw h1
      obtain ⟨v, hv, hb⟩ := hop.ex h0
      have := h1 v (by omega)
      rw [hb] at this
      cases this
    | succ e ih =>
      intro w hw h1
      have hwn : w < nw := by omega
      obtain ⟨l, c, e0, e1, hl1, hl4, hc⟩ := hr.at hwn
      have c23 := hf.2.2 0 w (by decide) hwn
      have c24 := hf.2.2 1 w (by decide) hwn
      have hpw : 2 ^ w ≤ 2 ^ 11 := Nat.pow_le_pow_right (by decide) (by omega)
      refine z_iload_n dX10_freeLetterOf_2 rfl ?_
      refine z_aload_n dX10_freeLetterOf_3 rfl ?_
      refine z_gI 4 dX10_freeLetterOf_4 fl_X10_40 (by first | rfl | assumption) rfl rfl ?_
      rw [hsz]
      refine z_icmp_ge 41 dX10_freeLetterOf_7 (by decide) (fun h7 => ?_) (fun h7 => ?_)
      · omega
      · refine z_iload_n dX10_freeLetterOf_10 rfl ?_
        refine z_iconst dX10_freeLetterOf_11 (by decide) ?_
        refine z_iload_n dX10_freeLetterOf_12 rfl ?_
        refine z_ishl dX10_freeLetterOf_13 ?_
        rw [shl1' (by omega)]
        refine z_iand dX10_freeLetterOf_14 ?_
        rw [iand_nat (by omega) (by omega)]
        refine z_if_eq 35 dX10_freeLetterOf_15 (by decide) (fun h15 => ?_) (fun h15 => ?_)
        · have hb := (and_2p S w).mp (by omega)
          refine z_iinc dX10_freeLetterOf_35 rfl (by omega) (by decide) rfl ?_
          dsimp only [List.set]
          refine z_goto 2 dX10_freeLetterOf_38 (by decide) ?_
          refine ih (w + 1) (by omega) (fun v hv => ?_)
          by_cases q : v = w
          · subst q; exact hb
          · exact h1 v (by omega)
        · have hb : ¬ S.testBit w = false := fun q => by have := (and_2p S w).mpr q; omega
          refine z_aload_n dX10_freeLetterOf_18 rfl ?_
          refine z_aload_n dX10_freeLetterOf_19 rfl ?_
          refine z_getR (ty := .int) dX10_freeLetterOf_20 fl_X10_11 (by first | rfl | assumption) rfl rfl ?_
          refine z_iload_n dX10_freeLetterOf_23 rfl ?_
          refine z_iald dX10_freeLetterOf_24 (by first | rfl | assumption) (by omega) (by omega) ?_
          rw [c23, e0]
          refine z_aload_n dX10_freeLetterOf_25 rfl ?_
          refine z_getR (ty := .int) dX10_freeLetterOf_26 fl_X10_15 (by first | rfl | assumption) rfl rfl ?_
          refine z_iload_n dX10_freeLetterOf_29 rfl ?_
          refine z_iald dX10_freeLetterOf_30 (by first | rfl | assumption) (by omega) (by omega) ?_
          rw [c24, e1]
          refine z_V2i dX10_freeLetterOf_31 ok_X10_freeLetterIn lk_X10_106 (by first | rfl | assumption) rfl rfl (Nat.le_of_ble_eq_true rfl) (by decide) (cm_X10_freeLetterIn hs hl4 hc) (fun z1 m1 hm1 => ?_)
          obtain ⟨hz, hmm⟩ := hm1
          subst hmm
          refine z_iret dX10_freeLetterOf_34 rfl ?_
          refine ⟨rfl, _, rfl, ?_, rfl⟩
          rcases hz with ⟨-, q⟩ | ⟨j, -, q1, q2, -⟩
          · obtain ⟨j, j1, j2⟩ := hop.2.2 w hwn (by cases t : S.testBit w; (exact absurd t hb); rfl)
            rw [e0, Int.toNat_natCast] at j1
            rw [e1, Int.toNat_natCast] at j2
            exact absurd j2 (q j j1)
          · exact ⟨_, q2, q1⟩
  refine z_iconst dX10_freeLetterOf_0 (by decide) ?_
  refine z_istore_n dX10_freeLetterOf_1 (by decide) rfl ?_
  dsimp only [List.set]
  exact loop nw 0 (by omega) (fun v hv => by omega)
def onSk (mem m : Mem) : Prop := (∀ x, x ≠ 22 → x ≠ 28 → x ≠ 29 → m x = mem x) ∧ ∀ j : Int, j ≠ 10 → m 22 j = mem 22 j
theorem onSk.rf : onSk mem mem := ⟨fun _ _ _ _ => rfl, fun _ _ => rfl⟩
theorem onSk.tr {m1 m2 : Mem} (h : onSk mem m1) (h2 : onSk m1 m2) : onSk mem m2 := ⟨fun x a b c => (h2.1 x a b c).trans (h.1 x a b c), fun j a => (h2.2 j a).trans (h.2 j a)⟩
theorem onSk.gv (a f U : Nat) : onSk mem (gvM mem a f U) := ⟨fun _ h1 h2 h3 => gvN _ _ _ _ h1 h2 h3, fun _ h => gv22n _ _ _ _ h⟩
theorem wdC.os {m : Mem} (h : wdC mem nw wd) (ho : onSk mem m) : wdC m nw wd := ⟨h.1, (ho.2 4 (by decide)).trans h.2.1, fun k i hk hi => by rw [ho.1 (23 + k) (by omega) (by omega) (by omega)]; exact h.2.2 k i hk hi⟩
theorem cm_X10_startSearch (hf : wdC mem nw wd) (hr : wdR nw wd) : CM X (0, 0) 2 mX10_startSearch G0 [vr 22] mem (pI G0 fun z m => frS m [] six 0 ∧ unQ nw wd (m 28) six 0 z ∧ onSk mem m) := by
  have hn := hf.1
  have hp := p12 hn
  have hp0 : 0 < 2 ^ nw := Nat.pow_pos (by decide)
  refine CM.of (by decide +kernel) 0 (Nat.le_of_ble_eq_true rfl) ?_
  show ZZ X (0, 0) 2 mX10_startSearch G0 0 [vr 22] [] mem _
  refine z_aload_n dX10_startSearch_0 rfl ?_
  refine z_getR (ty := .int) dX10_startSearch_1 fl_X10_27 (by first | rfl | assumption) rfl rfl ?_
  refine z_iconst dX10_startSearch_4 (by decide) ?_
  refine z_S2v dX10_startSearch_5 ok_J7_fill_53178 lk_X10_54 (Nat.le_of_ble_eq_true rfl) (by decide) (cm_J7_fillI (n := 6) (rs := []) rfl (by decide)) (fun m1 hm1 => ?_)
  obtain ⟨f1, o1⟩ := hm1
  refine z_aload_n dX10_startSearch_8 rfl ?_
  refine z_getR (ty := .int) dX10_startSearch_9 fl_X10_30 (by first | rfl | assumption) rfl rfl ?_
  refine z_bipush dX10_startSearch_12 (by decide) ?_
  refine z_S2v dX10_startSearch_14 ok_J7_fill_53178 lk_X10_54 (Nat.le_of_ble_eq_true rfl) (by decide) (cm_J7_fillI (n := 6) (rs := []) rfl (by decide)) (fun m2 hm2 => ?_)
  obtain ⟨f2, o2⟩ := hm2
  refine z_aload_n dX10_startSearch_17 rfl ?_
  refine z_iconst dX10_startSearch_18 (by decide) ?_
  refine z_pI 10 dX10_startSearch_19 fm_X10_76 (by first | rfl | assumption) rfl rfl ?_
  generalize hm3 : mset m2 22 10 0 = m3
  have e3 : ∀ x, x ≠ 22 → m3 x = m2 x := fun x hx => by rw [← hm3, mset_ne _ hx]
  have e32 : ∀ j : Int, j ≠ 10 → m3 22 j = mem 22 j := fun j hj => by rw [← hm3, mset_nej _ _ hj, o2 22 (by decide), o1 22 (by decide)]
  have on3 : onSk mem m3 := ⟨fun x h1 h2 h3 => by rw [e3 x h1, o2 x h3, o1 x h2], e32⟩
  have l3 : ∀ a : Nat, a < 6 → m3 28 (a : Int) = 0 := fun a ha => by rw [e3 28 (by decide), o2 28 (by decide)]; exact f1 a ha
  have g3 : ∀ a : Nat, a < 6 → m3 29 (a : Int) = 9 := fun a ha => by rw [e3 29 (by decide)]; exact f2 a ha
  have fr3 : frS m3 [] six 0 := ⟨List.Perm.refl _, fun a ha => absurd ha List.not_mem_nil, fun a ha => by
    have ha6 : a < 6 := ordP.lt (O := []) (R := six) (List.Perm.refl six) ha
    exact ⟨l3 a ha6, g3 a ha6⟩, by rw [← hm3]; exact mset_eq _ _ _ _, by decide, rfl, fun a ha => by rw [l3 a ha]; omega⟩
  refine z_aload_n dX10_startSearch_22 rfl ?_
  refine z_iconst dX10_startSearch_23 (by decide) ?_
  refine z_aload_n dX10_startSearch_24 rfl ?_
  refine z_gI 4 dX10_startSearch_25 fl_X10_40 (by first | rfl | assumption) rfl rfl ?_
  rw [(hf.os on3).2.1]
  refine z_ishl dX10_startSearch_28 ?_
  rw [shl1' (by omega)]
  refine z_iconst dX10_startSearch_29 (by decide) ?_
  refine z_isub dX10_startSearch_30 (by omega) ?_
  rw [show ((2 ^ nw : Nat) : Int) - 1 = ((2 ^ nw - 1 : Nat) : Int) by omega]
  refine z_V1i dX10_startSearch_31 ok_X10_undecided lk_X10_79 (by first | rfl | assumption) rfl rfl (Nat.le_of_ble_eq_true rfl) (by decide) (cm_X10_undecided (hf.os on3) hr fr3 (by omega) (fun w hw hb => by rw [Nat.testBit_two_pow_sub_one, decide_eq_true hw] at hb; cases hb)) (fun z4 m4 hm4 => ?_)
  obtain ⟨q4, hmm⟩ := hm4
  subst hmm
  refine z_iret dX10_startSearch_34 rfl ?_
  exact ⟨rfl, _, rfl, fr3, q4, on3⟩
end Und
