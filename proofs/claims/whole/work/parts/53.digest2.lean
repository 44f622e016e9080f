/-! ===== the reference's digest ===== -/
section DigM
variable {X : Nat × (Int → Int)} {mem : Mem} {nf np nw a b : Nat} {fd pr fr bk wd : Nat → Nat → Int} {mo : Int}
theorem regAt_dg {r v : Nat} (h : regAt mem r v) : ∃ n : Nat, mem 90 (r : Int) = (n : Int) ∧ n ≤ 66 ∧ isSz v n ∧ ∀ j : Nat, j < 66 → mem 89 (66 * (r : Int) + (j : Int)) = dgL v (j : Int) := by
  obtain ⟨n, h1, h2, h3⟩ := regAt_sz h
  refine ⟨n, h1, h2, h3, fun j hj => ?_⟩
  obtain ⟨hd, hv, -⟩ := h
  have := nv_dig hd hv j
  unfold padR at this
  rw [if_pos (by omega)] at this
  unfold dgL
  rw [Int.toNat_natCast]
  exact this
def onDg (mem m : Mem) : Prop := (∀ x, x ≠ 88 → x ≠ 92 → x ≠ 98 → m x = mem x) ∧ ∀ j, j ≠ 6 → j ≠ 22 → m 88 j = mem 88 j
theorem cm_X12_digest (hst : zsM mem nf fd np pr nw wd fr bk mo a b) (hr : finR nf fd) : CM X (0, 0) 4 mX12_digest G0 [vr 88] mem (pL G0 fun z m => dgA nf nw np fd pr wd fr bk mo a b z ∧ onDg mem m) := by
  obtain ⟨na, -, -, hna, -⟩ := regAt_dg hst.2.2.2.2.2.2.1
  obtain ⟨nb, -, -, hnb, -⟩ := regAt_dg hst.2.2.2.2.2.2.2
  have keep : ∀ {m : Mem}, onDg mem m → zsM m nf fd np pr nw wd fr bk mo a b := fun hon => hst.all (fun x hx => hon.1 x (by omega) (by omega) (by omega)) (fun j hj => hon.2 j (by omega) (by omega))
  refine CM.of (by decide +kernel) 4 (Nat.le_of_ble_eq_true rfl) ?_
  show ZZ X (0, 0) 4 mX12_digest G0 0 [vr 88, vd, vd, vd, vd] [] mem _
  -- the limbs of the second
  have seven : ∀ (m : Mem), onDg mem m → ∀ (d j : Nat), j + d = nb → ZZ X (0, 0) 4 mX12_digest G0 198 [vr 88, vl (mxF (dgL b) j (mxF (dgL a) na (mxF (dgS a na nb) 3 (dg8 nf nw np fd pr wd fr bk mo)))), vd, vi 1, vi (j : Int)] [] m (pL G0 fun z m => dgA nf nw np fd pr wd fr bk mo a b z ∧ onDg mem m) := by
    intro m hon
    obtain ⟨n', hw, h66, hz, hd⟩ := regAt_dg (keep hon).2.2.2.2.2.2.2
    obtain rfl := hz.uniq hnb
    have hw' : m 90 1 = (n' : Int) := hw
    intro d
    induction d with
    | zero =>
      intro j hj
      have : j = n' := by omega
      subst this
      refine z_iload dX12_digest_198 rfl ?_
      refine z_aload_n dX12_digest_200 rfl ?_
      refine z_getR (ty := .int) dX12_digest_201 fl_X12_13 (by first | rfl | assumption) rfl rfl ?_
      refine z_iload_n dX12_digest_204 rfl ?_
      refine z_iald dX12_digest_205 (by first | rfl | assumption) (by omega) (by omega) ?_
      rw [hw']
      refine z_icmp_ge 235 dX12_digest_206 (by decide) (fun h206 => ?_) (fun h206 => ?_)
      · refine z_iinc dX12_digest_235 rfl (by omega) (by decide) rfl ?_
        dsimp only [List.set]
        refine z_goto 190 dX12_digest_238 (by decide) ?_
        refine z_iload_n dX12_digest_190 rfl ?_
        refine z_iconst dX12_digest_191 (by decide) ?_
        refine z_icmp_ge 241 dX12_digest_192 (by decide) (fun h192 => ?_) (fun h192 => ?_)
        · refine z_lload_n dX12_digest_241 rfl ?_
          refine z_lret dX12_digest_242 rfl ?_
          exact ⟨rfl, _, rfl, ⟨_, _, hna, hnb, rfl⟩, hon⟩
        · omega
      · omega
    | succ d ih =>
      intro j hj
      have ih' := ih (j + 1) (by omega)
      rw [mxF_s] at ih'
      have r := hd j (by omega)
      have r' : m 89 (66 * 1 + (j : Int)) = dgL b (j : Int) := r
      refine z_iload dX12_digest_198 rfl ?_
      refine z_aload_n dX12_digest_200 rfl ?_
      refine z_getR (ty := .int) dX12_digest_201 fl_X12_13 (by first | rfl | assumption) rfl rfl ?_
      refine z_iload_n dX12_digest_204 rfl ?_
      refine z_iald dX12_digest_205 (by first | rfl | assumption) (by omega) (by omega) ?_
      rw [hw']
      refine z_icmp_ge 235 dX12_digest_206 (by decide) (fun h206 => ?_) (fun h206 => ?_)
      · omega
      · refine z_ldc2 (z := 31) dX12_digest_209 kc_X12_308 (by decide) ?_
        refine z_lload_n dX12_digest_212 rfl ?_
        refine z_lmulw dX12_digest_213 ?_
        refine z_aload_n dX12_digest_214 rfl ?_
        refine z_getR (ty := .int) dX12_digest_215 fl_X12_7 (by first | rfl | assumption) rfl rfl ?_
        refine z_bipush dX12_digest_218 (by decide) ?_
        refine z_iload_n dX12_digest_220 rfl ?_
        refine z_imul dX12_digest_221 (by omega) ?_
        refine z_iload dX12_digest_222 rfl ?_
        refine z_iadd dX12_digest_224 (by omega) ?_
        refine z_iald dX12_digest_225 (by first | rfl | assumption) (by omega) (by omega) ?_
        rw [r']
        refine z_i2l dX12_digest_226 ?_
        refine z_laddw dX12_digest_227 ?_
        refine z_lstore_n dX12_digest_228 (by decide) rfl ?_
        dsimp only [List.set]
        refine z_iinc dX12_digest_229 rfl (by omega) (by decide) rfl ?_
        dsimp only [List.set]
        refine z_goto 198 dX12_digest_232 (by decide) ?_
        exact ih'
  have six : ∀ (m : Mem), onDg mem m → ∀ (d j : Nat), j + d = na → ZZ X (0, 0) 4 mX12_digest G0 198 [vr 88, vl (mxF (dgL a) j (mxF (dgS a na nb) 3 (dg8 nf nw np fd pr wd fr bk mo))), vd, vi 0, vi (j : Int)] [] m (pL G0 fun z m => dgA nf nw np fd pr wd fr bk mo a b z ∧ onDg mem m) := by
    intro m hon
    have h7 := seven m hon nb 0 (by omega)
    rw [mxF_0] at h7
    obtain ⟨n', hw, h66, hz, hd⟩ := regAt_dg (keep hon).2.2.2.2.2.2.1
    obtain rfl := hz.uniq hna
    have hw' : m 90 0 = (n' : Int) := hw
    intro d
    induction d with
    | zero =>
      intro j hj
      have : j = n' := by omega
      subst this
      refine z_iload dX12_digest_198 rfl ?_
      refine z_aload_n dX12_digest_200 rfl ?_
      refine z_getR (ty := .int) dX12_digest_201 fl_X12_13 (by first | rfl | assumption) rfl rfl ?_
      refine z_iload_n dX12_digest_204 rfl ?_
      refine z_iald dX12_digest_205 (by first | rfl | assumption) (by omega) (by omega) ?_
      rw [hw']
      refine z_icmp_ge 235 dX12_digest_206 (by decide) (fun h206 => ?_) (fun h206 => ?_)
      · refine z_iinc dX12_digest_235 rfl (by omega) (by decide) rfl ?_
        dsimp only [List.set]
        refine z_goto 190 dX12_digest_238 (by decide) ?_
        refine z_iload_n dX12_digest_190 rfl ?_
        refine z_iconst dX12_digest_191 (by decide) ?_
        refine z_icmp_ge 241 dX12_digest_192 (by decide) (fun h192 => ?_) (fun h192 => ?_)
        · omega
        · refine z_iconst dX12_digest_195 (by decide) ?_
          refine z_istore dX12_digest_196 (by decide) rfl ?_
          dsimp only [List.set]
          exact h7
      · omega
    | succ d ih =>
      intro j hj
      have ih' := ih (j + 1) (by omega)
      rw [mxF_s] at ih'
      have r := hd j (by omega)
      have r' : m 89 (66 * 0 + (j : Int)) = dgL a (j : Int) := r
      refine z_iload dX12_digest_198 rfl ?_
      refine z_aload_n dX12_digest_200 rfl ?_
      refine z_getR (ty := .int) dX12_digest_201 fl_X12_13 (by first | rfl | assumption) rfl rfl ?_
      refine z_iload_n dX12_digest_204 rfl ?_
      refine z_iald dX12_digest_205 (by first | rfl | assumption) (by omega) (by omega) ?_
      rw [hw']
      refine z_icmp_ge 235 dX12_digest_206 (by decide) (fun h206 => ?_) (fun h206 => ?_)
      · omega
      · refine z_ldc2 (z := 31) dX12_digest_209 kc_X12_308 (by decide) ?_
        refine z_lload_n dX12_digest_212 rfl ?_
        refine z_lmulw dX12_digest_213 ?_
        refine z_aload_n dX12_digest_214 rfl ?_
        refine z_getR (ty := .int) dX12_digest_215 fl_X12_7 (by first | rfl | assumption) rfl rfl ?_
        refine z_bipush dX12_digest_218 (by decide) ?_
        refine z_iload_n dX12_digest_220 rfl ?_
        refine z_imul dX12_digest_221 (by omega) ?_
        refine z_iload dX12_digest_222 rfl ?_
        refine z_iadd dX12_digest_224 (by omega) ?_
        refine z_iald dX12_digest_225 (by first | rfl | assumption) (by omega) (by omega) ?_
        rw [r']
        refine z_i2l dX12_digest_226 ?_
        refine z_laddw dX12_digest_227 ?_
        refine z_lstore_n dX12_digest_228 (by decide) rfl ?_
        dsimp only [List.set]
        refine z_iinc dX12_digest_229 rfl (by omega) (by decide) rfl ?_
        dsimp only [List.set]
        refine z_goto 198 dX12_digest_232 (by decide) ?_
        exact ih'
  have five : ∀ (d i : Nat) (m : Mem), i + d = 3 → onDg mem m → ZZ X (0, 0) 4 mX12_digest G0 164 [vr 88, vl (mxF (dgS a na nb) i (dg8 nf nw np fd pr wd fr bk mo)), vd, vi (i : Int), vd] [] m (pL G0 fun z m => dgA nf nw np fd pr wd fr bk mo a b z ∧ onDg mem m) := by
    intro d
    induction d with
    | zero =>
      intro i m hi hon
      have : i = 3 := by omega
      subst this
      have h6 := six m hon na 0 (by omega)
      rw [mxF_0] at h6
      refine z_iload_n dX12_digest_164 rfl ?_
      refine z_iconst dX12_digest_165 (by decide) ?_
      refine z_icmp_ge 188 dX12_digest_166 (by decide) (fun h166 => ?_) (fun h166 => ?_)
      · refine z_iconst dX12_digest_188 (by decide) ?_
        refine z_istore_n dX12_digest_189 (by decide) rfl ?_
        dsimp only [List.set]
        refine z_iload_n dX12_digest_190 rfl ?_
        refine z_iconst dX12_digest_191 (by decide) ?_
        refine z_icmp_ge 241 dX12_digest_192 (by decide) (fun h192 => ?_) (fun h192 => ?_)
        · omega
        · refine z_iconst dX12_digest_195 (by decide) ?_
          refine z_istore dX12_digest_196 (by decide) rfl ?_
          dsimp only [List.set]
          exact h6
      · omega
    | succ d ih =>
      intro i m hi hon
      have ih' := ih (i + 1) m (by omega) hon
      rw [mxF_s] at ih'
      have hs := keep hon
      refine z_iload_n dX12_digest_164 rfl ?_
      refine z_iconst dX12_digest_165 (by decide) ?_
      refine z_icmp_ge 188 dX12_digest_166 (by decide) (fun h166 => ?_) (fun h166 => ?_)
      · omega
      · refine z_ldc2 (z := 31) dX12_digest_169 kc_X12_308 (by decide) ?_
        refine z_lload_n dX12_digest_172 rfl ?_
        refine z_lmulw dX12_digest_173 ?_
        refine z_aload_n dX12_digest_174 rfl ?_
        refine z_iload_n dX12_digest_175 rfl ?_
        refine z_V1i dX12_digest_176 ok_X12_sign lk_X12_316 (by first | rfl | assumption) rfl rfl (Nat.le_of_ble_eq_true rfl) (by decide) (cm_X12_sign (wh := (i : Int)) hs.2.2.2.2.2.2.1 hs.2.2.2.2.2.2.2) (fun z1 m1 hm1 => ?_)
        have hz := hm1.1
        have hmm := hm1.2
        clear hm1
        subst hmm
        have ez := sgA.dg hna hnb (by omega) hz
        rw [ez]
        refine z_i2l dX12_digest_179 ?_
        refine z_laddw dX12_digest_180 ?_
        refine z_lstore_n dX12_digest_181 (by decide) rfl ?_
        dsimp only [List.set]
        refine z_iinc dX12_digest_182 rfl (by omega) (by decide) rfl ?_
        dsimp only [List.set]
        refine z_goto 164 dX12_digest_185 (by decide) ?_
        exact ih'
  have four : ∀ (m : Mem), onDg mem m → ∀ u : VV, (∀ z, u ≠ vl z) → ZZ X (0, 0) 4 mX12_digest G0 104 [vr 88, vl (dg3 nf nw np fd bk), vd, vi 6, u] [] m (pL G0 fun z m => dgA nf nw np fd pr wd fr bk mo a b z ∧ onDg mem m) := by
    intro m hon u hu
    have hs := keep hon
    obtain ⟨s1, ⟨p1, p2, p3⟩, ⟨w1, w2, w3⟩, s4, s5, s6, -⟩ := hs
    have h5 := five 3 0 m (by omega) hon
    rw [mxF_0] at h5
    refine z_kill 4 ?_
    dsimp only [List.set]
    refine z_ldc2 (z := 31) dX12_digest_104 kc_X12_308 (by decide) ?_
    refine z_lload_n dX12_digest_107 rfl ?_
    refine z_lmulw dX12_digest_108 ?_
    refine z_aload_n dX12_digest_109 rfl ?_
    refine z_gI 4 dX12_digest_110 fl_X12_59 (by first | rfl | assumption) rfl rfl ?_
    rw [s6]
    refine z_i2l dX12_digest_113 ?_
    refine z_laddw dX12_digest_114 ?_
    refine z_aload_n dX12_digest_115 rfl ?_
    refine z_getR (ty := .int) dX12_digest_116 fl_X12_28 (by first | rfl | assumption) rfl rfl ?_
    refine z_iconst dX12_digest_119 (by decide) ?_
    refine z_aload_n dX12_digest_120 rfl ?_
    refine z_gI 13 dX12_digest_121 fl_X12_223 (by first | rfl | assumption) rfl rfl ?_
    rw [w2]
    refine z_imul dX12_digest_124 (by omega) ?_
    rw [show 4 * (nw : Int) = ((4 * nw : Nat) : Int) by omega]
    refine z_S3l dX12_digest_125 ok_X12_mixed lk_X12_312 (Nat.le_of_ble_eq_true rfl) (by decide) (cm_X12_mixed (a := 95) (L := 48) rfl (by omega) (by decide)) (fun z1 m1 hm1 => ?_)
    have hz1 := hm1.1
    have hmm := hm1.2
    clear hm1
    subst hmm
    rw [mxF_congr (flt_row (c := 4) (fun k i a b => w3 k i a b) (by decide))] at hz1
    refine z_aload_n dX12_digest_128 rfl ?_
    refine z_getR (ty := .int) dX12_digest_129 fl_X12_50 (by first | rfl | assumption) rfl rfl ?_
    refine z_iconst dX12_digest_132 (by decide) ?_
    refine z_aload_n dX12_digest_133 rfl ?_
    refine z_gI 29 dX12_digest_134 fl_X12_285 (by first | rfl | assumption) rfl rfl ?_
    rw [p2]
    refine z_imul dX12_digest_137 (by omega) ?_
    rw [show 3 * (np : Int) = ((3 * np : Nat) : Int) by omega]
    refine z_S3l dX12_digest_138 ok_X12_mixed lk_X12_312 (Nat.le_of_ble_eq_true rfl) (by decide) (cm_X12_mixed (a := 102) (L := 60) rfl (by omega) (by decide)) (fun z2 m2 hm2 => ?_)
    have hz2 := hm2.1
    have hmm := hm2.2
    clear hm2
    subst hmm
    rw [mxF_congr (flt_row (c := 3) (fun k i a b => p3 k i a b) (by decide))] at hz2
    refine z_lstore_n dX12_digest_141 (by decide) rfl ?_
    dsimp only [List.set]
    refine z_lload_n dX12_digest_142 rfl ?_
    refine z_aload_n dX12_digest_143 rfl ?_
    refine z_getR (ty := .int) dX12_digest_144 fl_X12_53 (by first | rfl | assumption) rfl rfl ?_
    refine z_bipush dX12_digest_147 (by decide) ?_
    refine z_S3l dX12_digest_149 ok_X12_mixed lk_X12_312 (Nat.le_of_ble_eq_true rfl) (by decide) (cm_X12_mixed (a := 103) (n := 2 * 4) (L := 8) rfl (by decide) (by decide)) (fun z3 m3 hm3 => ?_)
    have hz3 := hm3.1
    have hmm := hm3.2
    clear hm3
    subst hmm
    rw [mxF_congr (flt_row (c := 2) (fun k i a b => s4 k i a b) (by decide))] at hz3
    refine z_aload_n dX12_digest_152 rfl ?_
    refine z_getR (ty := .int) dX12_digest_153 fl_X12_56 (by first | rfl | assumption) rfl rfl ?_
    refine z_bipush dX12_digest_156 (by decide) ?_
    refine z_S3l dX12_digest_158 ok_X12_mixed lk_X12_312 (Nat.le_of_ble_eq_true rfl) (by decide) (cm_X12_mixed (a := 32) (n := 3 * 6) (L := 18) rfl (by decide) (by decide)) (fun z4 m4 hm4 => ?_)
    have hz4 := hm4.1
    have hmm := hm4.2
    clear hm4
    subst hmm
    rw [mxF_congr (flt_row (c := 3) (fun k i a b => s5 k i a b) (by decide))] at hz4
    have e8 : z4 = dg8 nf nw np fd pr wd fr bk mo := by
      unfold dg8 mx
      rw [hz4, hz3, hz2, hz1]
    rw [e8]
    refine z_lstore_n dX12_digest_161 (by decide) rfl ?_
    dsimp only [List.set]
    refine z_iconst dX12_digest_162 (by decide) ?_
    refine z_istore_n dX12_digest_163 (by decide) rfl ?_
    dsimp only [List.set]
    exact h5
  have three : ∀ (d i : Nat) (m : Mem) (u : VV), i + d = 6 → onDg mem m → (∀ z, u ≠ vl z) → ZZ X (0, 0) 4 mX12_digest G0 48 [vr 88, vl (mxF (flt 4 (dgT nf fd)) (4 * i) (dg2 nf nw np fd bk)), vd, vi (i : Int), u] [] m (pL G0 fun z m => dgA nf nw np fd pr wd fr bk mo a b z ∧ onDg mem m) := by
    intro d
    induction d with
    | zero =>
      intro i m u hi hon hu
      have : i = 6 := by omega
      subst this
      refine z_iload_n dX12_digest_48 rfl ?_
      refine z_bipush dX12_digest_49 (by decide) ?_
      refine z_icmp_ge 104 dX12_digest_51 (by decide) (fun h51 => ?_) (fun h51 => ?_)
      · exact four m hon u hu
      · omega
    | succ d ih =>
      intro i m u hi hon hu
      have inner : ∀ (e k : Nat) (m : Mem), k + e = 3 → onDg mem m → ZZ X (0, 0) 4 mX12_digest G0 57 [vr 88, vl (dgR nf fd i k (dg2 nf nw np fd bk)), vd, vi (i : Int), vi (k : Int)] [] m (pL G0 fun z m => dgA nf nw np fd pr wd fr bk mo a b z ∧ onDg mem m) := by
        intro e
        induction e with
        | zero =>
          intro k m hk hon
          have hs := keep hon
          have : k = 3 := by omega
          subst this
          have eR : dgT nf fd 3 i = (if (0 : Int) = 0 then runN fd (datL fd (i : Int) 30 nf) ((datL fd (i : Int) 30 nf).length - 1) else runW fd (datL fd (i : Int) 30 nf) ((datL fd (i : Int) 30 nf).length - 1)) := by
            show rnA nf fd (i : Int) 0 = _
            unfold rnA
            rw [if_pos (by omega)]
          have ih' := fun m u => ih (i + 1) m u (by omega)
          rw [← dgR4, show dgR nf fd i 4 (dg2 nf nw np fd bk) = mx (dgR nf fd i 3 (dg2 nf nw np fd bk)) (dgT nf fd 3 i) from rfl, eR] at ih'
          refine z_iload dX12_digest_57 rfl ?_
          refine z_iconst dX12_digest_59 (by decide) ?_
          refine z_icmp_ge 84 dX12_digest_60 (by decide) (fun h60 => ?_) (fun h60 => ?_)
          · refine z_ldc2 (z := 31) dX12_digest_84 kc_X12_308 (by decide) ?_
            refine z_lload_n dX12_digest_87 rfl ?_
            refine z_lmulw dX12_digest_88 ?_
            refine z_aload_n dX12_digest_89 rfl ?_
            refine z_iload_n dX12_digest_90 rfl ?_
            refine z_iconst dX12_digest_91 (by decide) ?_
            refine z_V2i dX12_digest_92 ok_X12_runsOf lk_X12_260 (by first | rfl | assumption) rfl rfl (Nat.le_of_ble_eq_true rfl) (by decide) (cm_X12_runsOf (mk := (i : Int)) (wh := 0) hs.1 hr) (fun z1 m1 hm1 => ?_)
            obtain ⟨hz1, on1⟩ := hm1
            rw [hz1]
            refine z_i2l dX12_digest_95 ?_
            refine z_laddw dX12_digest_96 ?_
            refine z_lstore_n dX12_digest_97 (by decide) rfl ?_
            dsimp only [List.set]
            refine z_iinc dX12_digest_98 rfl (by omega) (by decide) rfl ?_
            dsimp only [List.set]
            refine z_goto 48 dX12_digest_101 (by decide) ?_
            exact ih' _ _ ⟨fun x h1 h2 h3 => (on1.1 x h1 h3).trans (hon.1 x h1 h2 h3), fun j h1 h2 => (on1.2 j h2).trans (hon.2 j h1 h2)⟩ (by intro z q; cases q)
          · omega
        | succ e ihe =>
          intro k m hk hon
          have hs := keep hon
          have eT : dgT nf fd k i = numB (gatL fd (i : Int) (-1) nf) (k : Int) := by
            unfold dgT numA
            rw [if_pos (by omega), if_pos (by omega)]
          have ihe' := fun m => ihe (k + 1) m (by omega)
          rw [show dgR nf fd i (k + 1) (dg2 nf nw np fd bk) = mx (dgR nf fd i k (dg2 nf nw np fd bk)) (dgT nf fd k i) from rfl, eT] at ihe'
          refine z_iload dX12_digest_57 rfl ?_
          refine z_iconst dX12_digest_59 (by decide) ?_
          refine z_icmp_ge 84 dX12_digest_60 (by decide) (fun h60 => ?_) (fun h60 => ?_)
          · omega
          · refine z_ldc2 (z := 31) dX12_digest_63 kc_X12_308 (by decide) ?_
            refine z_lload_n dX12_digest_66 rfl ?_
            refine z_lmulw dX12_digest_67 ?_
            refine z_aload_n dX12_digest_68 rfl ?_
            refine z_iload_n dX12_digest_69 rfl ?_
            refine z_iload dX12_digest_70 rfl ?_
            refine z_V2i dX12_digest_72 ok_X12_numbersOf lk_X12_140 (by first | rfl | assumption) rfl rfl (Nat.le_of_ble_eq_true rfl) (by decide) (cm_X12_numbersOf (mk := (i : Int)) (wh := (k : Int)) hs.1 hr) (fun z1 m1 hm1 => ?_)
            obtain ⟨hz1, on1⟩ := hm1
            rw [hz1]
            refine z_i2l dX12_digest_75 ?_
            refine z_laddw dX12_digest_76 ?_
            refine z_lstore_n dX12_digest_77 (by decide) rfl ?_
            dsimp only [List.set]
            refine z_iinc dX12_digest_78 rfl (by omega) (by decide) rfl ?_
            dsimp only [List.set]
            refine z_goto 57 dX12_digest_81 (by decide) ?_
            exact ihe' _ ⟨fun x h1 h2 h3 => (on1.1 x h1 h2).trans (hon.1 x h1 h2 h3), fun j h1 h2 => (on1.2 j h1).trans (hon.2 j h1 h2)⟩
      refine z_kill 4 ?_
      dsimp only [List.set]
      refine z_iload_n dX12_digest_48 rfl ?_
      refine z_bipush dX12_digest_49 (by decide) ?_
      refine z_icmp_ge 104 dX12_digest_51 (by decide) (fun h51 => ?_) (fun h51 => ?_)
      · omega
      · refine z_iconst dX12_digest_54 (by decide) ?_
        refine z_istore dX12_digest_55 (by decide) rfl ?_
        dsimp only [List.set]
        exact inner 3 0 m (by omega) hon
  have one : ∀ (d i : Nat), i + d = 5 → ZZ X (0, 0) 4 mX12_digest G0 6 [vr 88, vl (mxF (cntA nf nw np fd bk) i 433), vd, vi (i : Int), vd] [] mem (pL G0 fun z m => dgA nf nw np fd pr wd fr bk mo a b z ∧ onDg mem m) := by
    intro d
    induction d with
    | zero =>
      intro i hi
      have : i = 5 := by omega
      subst this
      have h3 := three 6 0 mem vd (by omega) ⟨fun _ _ _ _ => rfl, fun _ _ _ => rfl⟩ (by intro z q; cases q)
      rw [Nat.mul_zero, mxF_0] at h3
      have hs3 := hst.1.2.1
      have hn60 := hst.1.1
      refine z_iload_n dX12_digest_6 rfl ?_
      refine z_iconst dX12_digest_7 (by decide) ?_
      refine z_icmp_ge 30 dX12_digest_8 (by decide) (fun h8 => ?_) (fun h8 => ?_)
      · refine z_lload_n dX12_digest_30 rfl ?_
        refine z_aload_n dX12_digest_31 rfl ?_
        refine z_getR (ty := .int) dX12_digest_32 fl_X12_16 (by first | rfl | assumption) rfl rfl ?_
        refine z_bipush dX12_digest_35 (by decide) ?_
        refine z_aload_n dX12_digest_37 rfl ?_
        refine z_gI 3 dX12_digest_38 fl_X12_116 (by first | rfl | assumption) rfl rfl ?_
        rw [hs3]
        refine z_imul dX12_digest_41 (by omega) ?_
        rw [show 6 * (nf : Int) = ((6 * nf : Nat) : Int) by omega]
        refine z_S3l dX12_digest_42 ok_X12_mixed lk_X12_312 (Nat.le_of_ble_eq_true rfl) (by decide) (cm_X12_mixed (a := 91) (L := 360) rfl (by omega) (by decide)) (fun z1 m1 hm1 => ?_)
        have hz1 := hm1.1
        have hmm := hm1.2
        clear hm1
        subst hmm
        rw [mxF_congr (flt_row (c := 6) (fun k i a b => hst.1.2.2 k i a b) (by decide))] at hz1
        have e2 : z1 = dg2 nf nw np fd bk := hz1
        rw [e2]
        refine z_lstore_n dX12_digest_45 (by decide) rfl ?_
        dsimp only [List.set]
        refine z_iconst dX12_digest_46 (by decide) ?_
        refine z_istore_n dX12_digest_47 (by decide) rfl ?_
        dsimp only [List.set]
        exact h3
      · omega
    | succ d ih =>
      intro i hi
      have ih' := ih (i + 1) (by omega)
      rw [mxF_s] at ih'
      refine z_iload_n dX12_digest_6 rfl ?_
      refine z_iconst dX12_digest_7 (by decide) ?_
      refine z_icmp_ge 30 dX12_digest_8 (by decide) (fun h8 => ?_) (fun h8 => ?_)
      · omega
      · refine z_ldc2 (z := 31) dX12_digest_11 kc_X12_308 (by decide) ?_
        refine z_lload_n dX12_digest_14 rfl ?_
        refine z_lmulw dX12_digest_15 ?_
        refine z_aload_n dX12_digest_16 rfl ?_
        refine z_iload_n dX12_digest_17 rfl ?_
        refine z_V1i dX12_digest_18 ok_X12_countOf lk_X12_304 (by first | rfl | assumption) rfl rfl (Nat.le_of_ble_eq_true rfl) (by decide) (cm_X12_countOf (wh := (i : Int)) hst.1 hr hst.2.2.2.2.1 hst.2.1 hst.2.2.1.2.1 (by omega) (by omega)) (fun z1 m1 hm1 => ?_)
        obtain ⟨rfl, rfl⟩ := hm1
        refine z_i2l dX12_digest_21 ?_
        refine z_laddw dX12_digest_22 ?_
        refine z_lstore_n dX12_digest_23 (by decide) rfl ?_
        dsimp only [List.set]
        refine z_iinc dX12_digest_24 rfl (by omega) (by decide) rfl ?_
        dsimp only [List.set]
        refine z_goto 6 dX12_digest_27 (by decide) ?_
        exact ih'
  refine z_ldc2 (z := 433) dX12_digest_0 kc_X12_310 (by decide) ?_
  refine z_lstore_n dX12_digest_3 (by decide) rfl ?_
  dsimp only [List.set]
  refine z_iconst dX12_digest_4 (by decide) ?_
  refine z_istore_n dX12_digest_5 (by decide) rfl ?_
  dsimp only [List.set]
  exact one 5 0 (by omega)
end DigM
