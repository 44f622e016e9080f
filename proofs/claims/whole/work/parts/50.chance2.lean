/-! ===== the reference's chance ===== -/
theorem nrA_eq {g wk n : Nat} (hn : 1 ≤ n) : nrA g (wk + 1) n = sg (fun i => eeG g (i + 2) (wk + 1) * ont n (i + 1)) 12 := by
  obtain ⟨k, rfl⟩ : ∃ k, n = k + 1 := ⟨n - 1, by omega⟩
  show sg (fun i => sg (fun j => eeG g j (wk + 1 - g + i) * ont (k + 1) j) 13) (wk + 1 - (wk + 1 - g)) = _
  rw [sg_swap]
  have e1 : sg (fun j => sg (fun i => eeG g j (wk + 1 - g + i) * ont (k + 1) j) (wk + 1 - (wk + 1 - g))) 13 = sg (fun j => eeG g (j + 1) (wk + 1) * ont (k + 1) j) 13 := sg_congr fun j _ => sg_mulr _ _ _
  rw [e1]
  show sg (fun j => eeG g (j + 1) (wk + 1) * ont (k + 1) j) (12 + 1) = _
  rw [sg_left]
  show eeG g 1 (wk + 1) * 0 + _ = _
  rw [Nat.mul_zero, Nat.zero_add]
section Chance
variable {X : Nat × (Int → Int)} {mem : Mem} {nf : Nat} {fd : Nat → Nat → Int}
/-- what the reference's chance may touch -/
def onCh (mem m : Mem) : Prop := (∀ y, y < 88 ∨ (90 < y ∧ y < 98) ∨ 101 < y → m y = mem y) ∧ ∀ j, j < 22 ∨ 24 < j → m 88 j = mem 88 j
theorem onCh.tr {m1 m2 : Mem} (h : onCh mem m1) (h' : onCh m1 m2) : onCh mem m2 := ⟨fun y a => (h'.1 y a).trans (h.1 y a), fun j a => (h'.2 j a).trans (h.2 j a)⟩
theorem onCh.gp {m : Mem} (h : onGp mem m) : onCh mem m := ⟨fun y a => h.1 y (by omega) (by omega), h.2⟩
theorem onCh.st {m : Mem} (h : onSt mem m) : onCh mem m := ⟨fun y a => h y (by omega) (by omega), fun j _ => congrFun (h 88 (by decide) (by decide)) j⟩
theorem onCh.r9 {m : Mem} (h : on89 mem m) : onCh mem m := ⟨fun y a => h y (by omega) (by omega), fun j _ => congrFun (h 88 (by decide) (by decide)) j⟩
theorem onCh.o1 {j v : Int} : onCh mem (mset mem 101 j v) := ⟨fun y a => mset_ne _ (by omega) _ _, fun j _ => by rw [mset_ne _ (by decide)]⟩
theorem cm_X12_chance {mk wk : Int} (hf : finM mem nf fd) (hr : finR nf fd) : CM X (0, 0) 4 mX12_chance G0 [vr 88, vi mk, vi wk] mem (pI G0 fun z m => (¬ chOk mk wk → z = -2 ∧ onGp mem m) ∧ (chOk mk wk → ¬ (1 ≤ chM nf fd mk wk ∧ chM nf fd mk wk ≤ 12) → z = -3 ∧ onGp mem m) ∧ (chOk mk wk → 1 ≤ chM nf fd mk wk ∧ chM nf fd mk wk ≤ 12 → z = 1 ∧ lowM m (chN nf fd mk wk) (chD nf fd mk wk)) ∧ onCh mem m) := by
  unfold chOk chN chD
  have hgp := cm_X12_gaps (X := X) (mem := mem) (mk := mk) (wk := wk) (ok := 1) hf hr (Or.inr rfl)
  unfold gsA at hgp
  have hgd : chG nf fd mk wk = (gpL (orF fd (datL fd mk wk nf)) wk.toNat).toNat := rfl
  have hgb := gpL_bd (orF fd (datL fd mk wk nf)) wk.toNat
  have hmd : chM nf fd mk wk = (datL fd mk wk nf).length := rfl
  generalize chG nf fd mk wk = g at *
  generalize chM nf fd mk wk = n at *
  have hgg : gpL (orF fd (datL fd mk wk nf)) wk.toNat = (g : Int) := by omega
  rw [← hmd, hgg] at hgp
  rw [hgg] at hgb
  refine CM.of (by decide +kernel) 9 (Nat.le_of_ble_eq_true rfl) ?_
  show ZZ X (0, 0) 4 mX12_chance G0 0 [vr 88, vi mk, vi wk, vd, vd, vd, vd, vd, vd, vd, vd, vd] [] mem _
  have main : (0 ≤ mk ∧ mk ≤ 5) ∧ 1 ≤ wk ∧ wk ≤ 30 → 1 ≤ n ∧ n ≤ 12 → ∀ m : Mem, m 88 22 = (n : Int) → m 88 23 = (g : Int) → onCh mem m → ZZ X (0, 0) 4 mX12_chance G0 15 [vr 88, vi mk, vi wk, vi 1, vd, vd, vd, vd, vd, vd, vd, vd] [] m (pI G0 fun z m => (¬ ((0 ≤ mk ∧ mk ≤ 5) ∧ 1 ≤ wk ∧ wk ≤ 30) → z = -2 ∧ onGp mem m) ∧ ((0 ≤ mk ∧ mk ≤ 5) ∧ 1 ≤ wk ∧ wk ≤ 30 → ¬ (1 ≤ n ∧ n ≤ 12) → z = -3 ∧ onGp mem m) ∧ ((0 ≤ mk ∧ mk ≤ 5) ∧ 1 ≤ wk ∧ wk ≤ 30 → 1 ≤ n ∧ n ≤ 12 → z = 1 ∧ lowM m (((wk.toNat ^ n : Nat) : Int) - (nrA g (wk.toNat + 1) n : Int)) ((wk.toNat ^ n : Nat) : Int)) ∧ onCh mem m) := by
    intro hok hnn
    obtain ⟨w, rfl⟩ : ∃ w : Nat, wk = (w : Int) := ⟨wk.toNat, by omega⟩
    rw [Int.toNat_natCast] at *
    have hw : w ≤ 30 := by omega
    have hpb := pow30 hw hnn.2
    have hpp := Nat.pow_pos (n := n) (show 0 < w by omega)
    obtain ⟨c, hc⟩ : ∃ c : Nat, (c : Int) = max (g : Int) 1 := ⟨max g 1, by omega⟩
    have hcn : nrA c (w + 1) n ≤ w ^ n := nr_le (w := w + 1) (by omega) (by omega) hnn.2 (Nat.le_refl _)
    rw [nrA_eq hnn.1] at hcn
    -- the end
    have last : ∀ (m : Mem) (u8 u9 u10 u11 : VV), m 88 23 = (g : Int) → onCh mem m → ZZ X (0, 0) 4 mX12_chance G0 208 [vr 88, vi mk, vi (w : Int), vi 1, vl ((w ^ n : Nat) : Int), vd, vl (sg (fun i => eeG c (i + 2) (w + 1) * ont n (i + 1)) 12 : Int), vd, u8, u9, u10, u11] [] m (pI G0 fun z m => (¬ ((0 ≤ mk ∧ mk ≤ 5) ∧ 1 ≤ (w : Int) ∧ (w : Int) ≤ 30) → z = -2 ∧ onGp mem m) ∧ ((0 ≤ mk ∧ mk ≤ 5) ∧ 1 ≤ (w : Int) ∧ (w : Int) ≤ 30 → ¬ (1 ≤ n ∧ n ≤ 12) → z = -3 ∧ onGp mem m) ∧ ((0 ≤ mk ∧ mk ≤ 5) ∧ 1 ≤ (w : Int) ∧ (w : Int) ≤ 30 → 1 ≤ n ∧ n ≤ 12 → z = 1 ∧ lowM m (((w ^ n : Nat) : Int) - (nrA g (w + 1) n : Int)) ((w ^ n : Nat) : Int)) ∧ onCh mem m) := by
      intro m u8 u9 u10 u11 h23 hon
      generalize hP : w ^ n = P at *
      refine z_aload_n dX12_chance_208 rfl ?_
      refine z_gI 23 dX12_chance_209 fl_X12_263 (by first | rfl | assumption) rfl rfl ?_
      rw [h23]
      refine z_if_ne 224 dX12_chance_212 (by decide) (fun h212 => ?_) (fun h212 => ?_)
      · have hcg : c = g := by omega
        subst hcg
        rw [nrA_eq hnn.1]
        refine z_aload_n dX12_chance_224 rfl ?_
        refine z_lload dX12_chance_225 rfl ?_
        refine z_lload dX12_chance_227 rfl ?_
        refine z_lsub dX12_chance_229 (by omega) ?_
        refine z_lload dX12_chance_230 rfl ?_
        refine z_V2i dX12_chance_232 ok_X12_tells lk_X12_281 (by first | rfl | assumption) rfl rfl (Nat.le_of_ble_eq_true rfl) (by decide) (cm_tellsI (by omega) (by omega) (by omega) (by omega)) (fun z3 m3 hm3 => ?_)
        refine z_iret dX12_chance_235 rfl ?_
        first | exact ⟨rfl, _, rfl, fun q => absurd hok q, fun _ q => absurd hnn q, fun _ _ => ⟨hm3.1, hm3.2.1, hm3.2.2.1⟩, hon.tr (onCh.r9 hm3.2.2.2)⟩ | skip
        all_goals
          have hg0 : g = 0 := by omega
          subst hg0
          have e0 : nrA 0 (w + 1) n = 0 := by show sg _ (w + 1 - (w + 1 - 0)) = 0; rw [show w + 1 - (w + 1 - 0) = 0 by omega]; rfl
          refine ⟨rfl, _, rfl, fun q => absurd hok q, fun _ q => absurd hnn q, fun _ _ => ⟨hm3.1, ?_⟩, hon.tr (onCh.r9 hm3.2.2.2)⟩
          unfold lowM
          rw [e0, show (P : Int) - ((0 : Nat) : Int) = (P : Int) by omega, Int.toNat_natCast, Nat.gcd_self, Nat.div_self hpp]
          exact ⟨hm3.2.1, hm3.2.2.1⟩
      · refine z_aload_n dX12_chance_215 rfl ?_
        refine z_lconst (z := 1) dX12_chance_216 rfl (by decide) ?_
        refine z_lconst (z := 1) dX12_chance_217 rfl (by decide) ?_
        refine z_V2i dX12_chance_218 ok_X12_tells lk_X12_281 (by first | rfl | assumption) rfl rfl (Nat.le_of_ble_eq_true rfl) (by decide) (cm_tellsI (by decide) (by decide) (by decide) (by decide)) (fun z3 m3 hm3 => ?_)
        refine z_goto 235 dX12_chance_221 (by decide) ?_
        refine z_iret dX12_chance_235 rfl ?_
        first | exact ⟨rfl, _, rfl, fun q => absurd hok q, fun _ q => absurd hnn q, fun _ _ => ⟨hm3.1, hm3.2.1, hm3.2.2.1⟩, hon.tr (onCh.r9 hm3.2.2.2)⟩ | skip
        all_goals
          have hg0 : g = 0 := by omega
          subst hg0
          have e0 : nrA 0 (w + 1) n = 0 := by show sg _ (w + 1 - (w + 1 - 0)) = 0; rw [show w + 1 - (w + 1 - 0) = 0 by omega]; rfl
          refine ⟨rfl, _, rfl, fun q => absurd hok q, fun _ q => absurd hnn q, fun _ _ => ⟨hm3.1, ?_⟩, hon.tr (onCh.r9 hm3.2.2.2)⟩
          unfold lowM
          rw [e0, show (P : Int) - ((0 : Nat) : Int) = (P : Int) by omega, Int.toNat_natCast, Nat.gcd_self, Nat.div_self hpp]
          exact ⟨hm3.2.1, hm3.2.2.1⟩
    -- the sum over j
    have sums : ∀ (d i : Nat) (m : Mem) (u9 u10 u11 : VV), i + d = 12 → setsAt m 99 (svG c w) → (∀ k : Nat, k ≤ 12 → m 101 (k : Int) = (ont n k : Int)) → m 88 23 = (g : Int) → onCh mem m → (∀ z, u9 ≠ vl z) → (∀ z, u10 ≠ vl z) → (∀ z, u11 ≠ vl z) → ZZ X (0, 0) 4 mX12_chance G0 143 [vr 88, vi mk, vi (w : Int), vi 1, vl ((w ^ n : Nat) : Int), vd, vl (sg (fun i => eeG c (i + 2) (w + 1) * ont n (i + 1)) i : Int), vd, vi ((i : Int) + 1), vd, vd, vd] [] m (pI G0 fun z m => (¬ ((0 ≤ mk ∧ mk ≤ 5) ∧ 1 ≤ (w : Int) ∧ (w : Int) ≤ 30) → z = -2 ∧ onGp mem m) ∧ ((0 ≤ mk ∧ mk ≤ 5) ∧ 1 ≤ (w : Int) ∧ (w : Int) ≤ 30 → ¬ (1 ≤ n ∧ n ≤ 12) → z = -3 ∧ onGp mem m) ∧ ((0 ≤ mk ∧ mk ≤ 5) ∧ 1 ≤ (w : Int) ∧ (w : Int) ≤ 30 → 1 ≤ n ∧ n ≤ 12 → z = 1 ∧ lowM m (((w ^ n : Nat) : Int) - (nrA g (w + 1) n : Int)) ((w ^ n : Nat) : Int)) ∧ onCh mem m) := by
      intro d
      induction d with
      | zero =>
        intro i m u9 u10 u11 hi hs ho h23 hon hu9 hu10 hu11
        have : i = 12 := by omega
        subst this
        refine z_iload dX12_chance_143 rfl ?_
        refine z_bipush dX12_chance_145 (by decide) ?_
        refine z_icmp_gt 208 dX12_chance_147 (by decide) (fun h147 => ?_) (fun h147 => ?_)
        · exact last m _ _ _ _ h23 hon
        · omega
      | succ d ih =>
        intro i m u9 u10 u11 hi hs ho h23 hon hu9 hu10 hu11
        have hsv : sg (svG c w (i + 1)) 31 = eeG c (i + 2) (w + 1) := svG_sum (g := c) (w := w) (j := i + 1) (by omega) hw
        have hee := ee_le c (i + 2) (w + 1)
        have hp2 : 2 ^ (w + 1) ≤ 2 ^ 31 := Nat.pow_le_pow_right (by decide) (by omega)
        have b1 := sg_mono (fun i => eeG c (i + 2) (w + 1) * ont n (i + 1)) (i + 1) (12 - (i + 1))
        rw [show i + 1 + (12 - (i + 1)) = 12 by omega] at b1
        have b2 : sg (fun i => eeG c (i + 2) (w + 1) * ont n (i + 1)) i + eeG c (i + 2) (w + 1) * ont n (i + 1) ≤ sg (fun i => eeG c (i + 2) (w + 1) * ont n (i + 1)) 12 := b1
        have e5 : ((sg (fun i => eeG c (i + 2) (w + 1) * ont n (i + 1)) (i + 1) : Nat) : Int) = (sg (fun i => eeG c (i + 2) (w + 1) * ont n (i + 1)) i : Int) + ((eeG c (i + 2) (w + 1) * ont n (i + 1) : Nat) : Int) := Int.natCast_add _ _
        have e4 : (eeG c (i + 2) (w + 1) : Int) * (ont n (i + 1) : Int) = ((eeG c (i + 2) (w + 1) * ont n (i + 1) : Nat) : Int) := (Int.natCast_mul _ _).symm
        have r1 := ho (i + 1) (by omega)
        rw [show ((i + 1 : Nat) : Int) = (i : Int) + 1 by omega] at r1
        have ih' := fun u9 u10 u11 => ih (i + 1) m u9 u10 u11 (by omega) hs ho h23 hon
        rw [e5] at ih'
        have inner : ∀ (e t : Nat), t + e = 31 → ZZ X (0, 0) 4 mX12_chance G0 156 [vr 88, vi mk, vi (w : Int), vi 1, vl ((w ^ n : Nat) : Int), vd, vl (sg (fun i => eeG c (i + 2) (w + 1) * ont n (i + 1)) i : Int), vd, vi ((i : Int) + 1), vl (sg (svG c w (i + 1)) t : Int), vd, vi (t : Int)] [] m (pI G0 fun z m => (¬ ((0 ≤ mk ∧ mk ≤ 5) ∧ 1 ≤ (w : Int) ∧ (w : Int) ≤ 30) → z = -2 ∧ onGp mem m) ∧ ((0 ≤ mk ∧ mk ≤ 5) ∧ 1 ≤ (w : Int) ∧ (w : Int) ≤ 30 → ¬ (1 ≤ n ∧ n ≤ 12) → z = -3 ∧ onGp mem m) ∧ ((0 ≤ mk ∧ mk ≤ 5) ∧ 1 ≤ (w : Int) ∧ (w : Int) ≤ 30 → 1 ≤ n ∧ n ≤ 12 → z = 1 ∧ lowM m (((w ^ n : Nat) : Int) - (nrA g (w + 1) n : Int)) ((w ^ n : Nat) : Int)) ∧ onCh mem m) := by
          intro e
          induction e with
          | zero =>
            intro t ht
            have : t = 31 := by omega
            subst this
            rw [hsv]
            generalize hPP : eeG c (i + 2) (w + 1) * ont n (i + 1) = PP at *
            refine z_iload dX12_chance_156 rfl ?_
            refine z_bipush dX12_chance_158 (by decide) ?_
            refine z_icmp_ge 187 dX12_chance_160 (by decide) (fun h160 => ?_) (fun h160 => ?_)
            · refine z_lload dX12_chance_187 rfl ?_
              refine z_lload dX12_chance_189 rfl ?_
              refine z_aload_n dX12_chance_191 rfl ?_
              refine z_getR (ty := .int) dX12_chance_192 fl_X12_47 (by first | rfl | assumption) rfl rfl ?_
              refine z_iload dX12_chance_195 rfl ?_
              refine z_lald dX12_chance_197 (by first | rfl | assumption) (by omega) (by omega) ?_
              rw [r1]
              refine z_lmul dX12_chance_198 (by rw [e4]; omega) ?_
              rw [e4]
              refine z_ladd dX12_chance_199 (by omega) ?_
              refine z_lstore dX12_chance_200 (by decide) rfl ?_
              dsimp only [List.set]
              refine z_iinc dX12_chance_202 rfl (by omega) (by decide) rfl ?_
              dsimp only [List.set]
              refine z_goto 143 dX12_chance_205 (by decide) ?_
              have := ih' vd vd vd (by intro z q; cases q) (by intro z q; cases q) (by intro z q; cases q)
              refine z_kill 11 (z_kill 10 (z_kill 9 ?_))
              dsimp only [List.set]
              exact this
            · omega
          | succ e ihe =>
            intro t ht
            have r2 := hs (i + 1) t (by omega) (by omega)
            rw [show 31 * ((i + 1 : Nat) : Int) + (t : Int) = 31 * ((i : Int) + 1) + (t : Int) by omega] at r2
            have a1 := sg_mono (svG c w (i + 1)) (t + 1) (31 - (t + 1))
            rw [show t + 1 + (31 - (t + 1)) = 31 by omega, hsv] at a1
            have a2 : sg (svG c w (i + 1)) t + svG c w (i + 1) t ≤ eeG c (i + 2) (w + 1) := a1
            have a3 : ((sg (svG c w (i + 1)) (t + 1) : Nat) : Int) = (sg (svG c w (i + 1)) t : Int) + (svG c w (i + 1) t : Int) := Int.natCast_add _ _
            have ihe' := ihe (t + 1) (by omega)
            rw [a3] at ihe'
            refine z_iload dX12_chance_156 rfl ?_
            refine z_bipush dX12_chance_158 (by decide) ?_
            refine z_icmp_ge 187 dX12_chance_160 (by decide) (fun h160 => ?_) (fun h160 => ?_)
            · omega
            · refine z_lload dX12_chance_163 rfl ?_
              refine z_aload_n dX12_chance_165 rfl ?_
              refine z_getR (ty := .int) dX12_chance_166 fl_X12_40 (by first | rfl | assumption) rfl rfl ?_
              refine z_bipush dX12_chance_169 (by decide) ?_
              refine z_iload dX12_chance_171 rfl ?_
              refine z_imul dX12_chance_173 (by omega) ?_
              refine z_iload dX12_chance_174 rfl ?_
              refine z_iadd dX12_chance_176 (by omega) ?_
              refine z_lald dX12_chance_177 (by first | rfl | assumption) (by omega) (by omega) ?_
              rw [r2]
              refine z_ladd dX12_chance_178 (by omega) ?_
              refine z_lstore dX12_chance_179 (by decide) rfl ?_
              dsimp only [List.set]
              refine z_iinc dX12_chance_181 rfl (by omega) (by decide) rfl ?_
              dsimp only [List.set]
              refine z_goto 156 dX12_chance_184 (by decide) ?_
              exact ihe'
        refine z_iload dX12_chance_143 rfl ?_
        refine z_bipush dX12_chance_145 (by decide) ?_
        refine z_icmp_gt 208 dX12_chance_147 (by decide) (fun h147 => ?_) (fun h147 => ?_)
        · omega
        · refine z_lconst (z := 0) dX12_chance_150 rfl (by decide) ?_
          refine z_lstore dX12_chance_151 (by decide) rfl ?_
          dsimp only [List.set]
          refine z_iconst dX12_chance_153 (by decide) ?_
          refine z_istore dX12_chance_154 (by decide) rfl ?_
          dsimp only [List.set]
          exact inner 31 0 (by omega)
    -- onto
    have ontos : ∀ (d i : Nat) (m : Mem) (u7 : VV), i + d = n → (∀ k : Nat, k ≤ 12 → m 101 (k : Int) = (ont i k : Int)) → m 88 22 = (n : Int) → m 88 23 = (g : Int) → onCh mem m → (∀ z, u7 ≠ vl z) → ZZ X (0, 0) 4 mX12_chance G0 54 [vr 88, vi mk, vi (w : Int), vi 1, vl ((w ^ i : Nat) : Int), vd, vi (i : Int), u7, vd, vd, vd, vd] [] m (pI G0 fun z m => (¬ ((0 ≤ mk ∧ mk ≤ 5) ∧ 1 ≤ (w : Int) ∧ (w : Int) ≤ 30) → z = -2 ∧ onGp mem m) ∧ ((0 ≤ mk ∧ mk ≤ 5) ∧ 1 ≤ (w : Int) ∧ (w : Int) ≤ 30 → ¬ (1 ≤ n ∧ n ≤ 12) → z = -3 ∧ onGp mem m) ∧ ((0 ≤ mk ∧ mk ≤ 5) ∧ 1 ≤ (w : Int) ∧ (w : Int) ≤ 30 → 1 ≤ n ∧ n ≤ 12 → z = 1 ∧ lowM m (((w ^ n : Nat) : Int) - (nrA g (w + 1) n : Int)) ((w ^ n : Nat) : Int)) ∧ onCh mem m) := by
      intro d
      induction d with
      | zero =>
        intro i m u7 hi ho h22 h23 hon hu7
        have : i = n := by omega
        subst this
        refine z_iload dX12_chance_54 rfl ?_
        refine z_aload_n dX12_chance_56 rfl ?_
        refine z_gI 22 dX12_chance_57 fl_X12_254 (by first | rfl | assumption) rfl rfl ?_
        rw [h22]
        refine z_icmp_ge 128 dX12_chance_60 (by decide) (fun h60 => ?_) (fun h60 => ?_)
        · refine z_aload_n dX12_chance_128 rfl ?_
          refine z_iload_n dX12_chance_129 rfl ?_
          refine z_aload_n dX12_chance_130 rfl ?_
          refine z_gI 23 dX12_chance_131 fl_X12_263 (by first | rfl | assumption) rfl rfl ?_
          rw [h23]
          refine z_V2v dX12_chance_134 ok_X12_findSets lk_X12_278 (by first | rfl | assumption) rfl rfl (Nat.le_of_ble_eq_true rfl) (by decide) (cm_X12_findSets (g := c) (by omega) (by omega) hc hw) (fun m2 hm2 => ?_)
          obtain ⟨s1, s2⟩ := hm2
          refine z_lconst (z := 0) dX12_chance_137 rfl (by decide) ?_
          refine z_lstore dX12_chance_138 (by decide) rfl ?_
          dsimp only [List.set]
          refine z_iconst dX12_chance_140 (by decide) ?_
          refine z_istore dX12_chance_141 (by decide) rfl ?_
          dsimp only [List.set]
          exact sums 12 0 _ vd vd vd (by omega) s1 (fun k hk => (congrFun (s2 101 (by decide) (by decide)) _).trans (ho k hk)) ((congrFun (s2 88 (by decide) (by decide)) _).trans h23) (hon.tr (onCh.st s2)) (by intro z q; cases q) (by intro z q; cases q) (by intro z q; cases q)
        · omega
      | succ d ih =>
        intro i m u7 hi ho h22 h23 hon hu7
        have hb := pow30 (n := i + 1) hw (by omega)
        have e1 : ((w ^ i : Nat) : Int) * (w : Int) = ((w ^ (i + 1) : Nat) : Int) := by rw [← Int.natCast_mul, ← Nat.pow_succ]
        have inner : ∀ (e : Nat) (m : Mem), e ≤ 13 → (∀ k : Nat, k ≤ 12 → m 101 (k : Int) = ((if e ≤ k then ont (i + 1) k else ont i k : Nat) : Int)) → m 88 22 = (n : Int) → m 88 23 = (g : Int) → onCh mem m → ZZ X (0, 0) 4 mX12_chance G0 74 [vr 88, vi mk, vi (w : Int), vi 1, vl ((w ^ (i + 1) : Nat) : Int), vd, vi (i : Int), vi ((e : Int) - 1), vd, vd, vd, vd] [] m (pI G0 fun z m => (¬ ((0 ≤ mk ∧ mk ≤ 5) ∧ 1 ≤ (w : Int) ∧ (w : Int) ≤ 30) → z = -2 ∧ onGp mem m) ∧ ((0 ≤ mk ∧ mk ≤ 5) ∧ 1 ≤ (w : Int) ∧ (w : Int) ≤ 30 → ¬ (1 ≤ n ∧ n ≤ 12) → z = -3 ∧ onGp mem m) ∧ ((0 ≤ mk ∧ mk ≤ 5) ∧ 1 ≤ (w : Int) ∧ (w : Int) ≤ 30 → 1 ≤ n ∧ n ≤ 12 → z = 1 ∧ lowM m (((w ^ n : Nat) : Int) - (nrA g (w + 1) n : Int)) ((w ^ n : Nat) : Int)) ∧ onCh mem m) := by
          intro e
          induction e with
          | zero =>
            intro m he ho h22 h23 hon
            refine z_iload dX12_chance_74 rfl ?_
            refine z_if_lt 122 dX12_chance_76 (by decide) (fun h76 => ?_) (fun h76 => ?_)
            · refine z_iinc dX12_chance_122 rfl (by omega) (by decide) rfl ?_
              dsimp only [List.set]
              refine z_goto 54 dX12_chance_125 (by decide) ?_
              exact ih (i + 1) _ _ (by omega) (fun k hk => (ho k hk).trans (by rw [if_pos (Nat.zero_le k)])) h22 h23 hon (by intro z q; cases q)
            · omega
          | succ e ihe =>
            intro m he ho h22 h23 hon
            rw [show ((e + 1 : Nat) : Int) - 1 = (e : Int) by omega]
            have r1 := ho e (by omega)
            rw [if_neg (by omega)] at r1
            have o1 := ont_le ⟨i, by omega⟩ ⟨e, by omega⟩
            have o2 := ont_le ⟨i, by omega⟩ ⟨e - 1, by omega⟩
            have o3 := ont_le ⟨i + 1, by omega⟩ ⟨e, by omega⟩
            dsimp only at o1 o2 o3
            have fin1 : ∀ v : Int, v = (ont (i + 1) e : Int) → ZZ X (0, 0) 4 mX12_chance G0 116 [vr 88, vi mk, vi (w : Int), vi 1, vl ((w ^ (i + 1) : Nat) : Int), vd, vi (i : Int), vi (e : Int), vd, vd, vd, vd] [] (mset m 101 (e : Int) v) (pI G0 fun z m => (¬ ((0 ≤ mk ∧ mk ≤ 5) ∧ 1 ≤ (w : Int) ∧ (w : Int) ≤ 30) → z = -2 ∧ onGp mem m) ∧ ((0 ≤ mk ∧ mk ≤ 5) ∧ 1 ≤ (w : Int) ∧ (w : Int) ≤ 30 → ¬ (1 ≤ n ∧ n ≤ 12) → z = -3 ∧ onGp mem m) ∧ ((0 ≤ mk ∧ mk ≤ 5) ∧ 1 ≤ (w : Int) ∧ (w : Int) ≤ 30 → 1 ≤ n ∧ n ≤ 12 → z = 1 ∧ lowM m (((w ^ n : Nat) : Int) - (nrA g (w + 1) n : Int)) ((w ^ n : Nat) : Int)) ∧ onCh mem m) := by
              intro v hv
              refine z_iinc dX12_chance_116 rfl (by omega) (by decide) rfl ?_
              dsimp only [List.set]
              refine z_goto 74 dX12_chance_119 (by decide) ?_
              rw [show (e : Int) + -1 = (e : Int) - 1 by omega]
              refine ihe _ (by omega) (fun k hk => ?_) (by rw [mset_ne _ (by decide)]; exact h22) (by rw [mset_ne _ (by decide)]; exact h23) (hon.tr onCh.o1)
              by_cases q : k = e
              · subst q; rw [mset_eq, hv, if_pos (Nat.le_refl k)]
              · rw [mset_nej _ _ (by omega), ho k hk]
                by_cases q2 : e + 1 ≤ k
                · rw [if_pos q2, if_pos (by omega)]
                · rw [if_neg q2, if_neg (by omega)]
            by_cases q0 : e = 0
            · subst q0
              refine z_iload dX12_chance_74 rfl ?_
              refine z_if_lt 122 dX12_chance_76 (by decide) (fun h76 => ?_) (fun h76 => ?_)
              · omega
              · refine z_aload_n dX12_chance_79 rfl ?_
                refine z_getR (ty := .int) dX12_chance_80 fl_X12_47 (by first | rfl | assumption) rfl rfl ?_
                refine z_iload dX12_chance_83 rfl ?_
                refine z_iload dX12_chance_85 rfl ?_
                refine z_if_ne 94 dX12_chance_87 (by decide) (fun h87 => ?_) (fun h87 => ?_)
                · omega
                · refine z_lconst (z := 0) dX12_chance_90 rfl (by decide) ?_
                  refine z_goto 115 dX12_chance_91 (by decide) ?_
                  refine z_last dX12_chance_115 (by first | rfl | assumption) (by omega) (by omega) ?_
                  exact fin1 _ rfl
            · have r2 := ho (e - 1) (by omega)
              rw [if_neg (by omega), show ((e - 1 : Nat) : Int) = (e : Int) - 1 by omega] at r2
              have e2 : (e : Int) * ((ont i e : Int) + (ont i (e - 1) : Int)) = (ont (i + 1) e : Int) := by
                have : ont (i + 1) e = e * (ont i e + ont i (e - 1)) := if_neg q0
                rw [this, Int.natCast_mul, Int.natCast_add]
              refine z_iload dX12_chance_74 rfl ?_
              refine z_if_lt 122 dX12_chance_76 (by decide) (fun h76 => ?_) (fun h76 => ?_)
              · omega
              · refine z_aload_n dX12_chance_79 rfl ?_
                refine z_getR (ty := .int) dX12_chance_80 fl_X12_47 (by first | rfl | assumption) rfl rfl ?_
                refine z_iload dX12_chance_83 rfl ?_
                refine z_iload dX12_chance_85 rfl ?_
                refine z_if_ne 94 dX12_chance_87 (by decide) (fun h87 => ?_) (fun h87 => ?_)
                · refine z_iload dX12_chance_94 rfl ?_
                  refine z_i2l dX12_chance_96 ?_
                  refine z_aload_n dX12_chance_97 rfl ?_
                  refine z_getR (ty := .int) dX12_chance_98 fl_X12_47 (by first | rfl | assumption) rfl rfl ?_
                  refine z_iload dX12_chance_101 rfl ?_
                  refine z_lald dX12_chance_103 (by first | rfl | assumption) (by omega) (by omega) ?_
                  rw [r1]
                  refine z_aload_n dX12_chance_104 rfl ?_
                  refine z_getR (ty := .int) dX12_chance_105 fl_X12_47 (by first | rfl | assumption) rfl rfl ?_
                  refine z_iload dX12_chance_108 rfl ?_
                  refine z_iconst dX12_chance_110 (by decide) ?_
                  refine z_isub dX12_chance_111 (by omega) ?_
                  refine z_lald dX12_chance_112 (by first | rfl | assumption) (by omega) (by omega) ?_
                  rw [r2]
                  refine z_ladd dX12_chance_113 (by omega) ?_
                  refine z_lmul dX12_chance_114 (by rw [e2]; omega) ?_
                  refine z_last dX12_chance_115 (by first | rfl | assumption) (by omega) (by omega) ?_
                  exact fin1 _ e2
                · omega
        refine z_kill 7 ?_
        dsimp only [List.set]
        refine z_iload dX12_chance_54 rfl ?_
        refine z_aload_n dX12_chance_56 rfl ?_
        refine z_gI 22 dX12_chance_57 fl_X12_254 (by first | rfl | assumption) rfl rfl ?_
        rw [h22]
        refine z_icmp_ge 128 dX12_chance_60 (by decide) (fun h60 => ?_) (fun h60 => ?_)
        · omega
        · refine z_lload dX12_chance_63 rfl ?_
          refine z_iload_n dX12_chance_65 rfl ?_
          refine z_i2l dX12_chance_66 ?_
          refine z_lmul dX12_chance_67 (by rw [e1]; omega) ?_
          rw [e1]
          refine z_lstore dX12_chance_68 (by decide) rfl ?_
          dsimp only [List.set]
          refine z_bipush dX12_chance_70 (by decide) ?_
          refine z_istore dX12_chance_72 (by decide) rfl ?_
          dsimp only [List.set]
          exact inner 13 m (by omega) (fun k hk => (ho k hk).trans (by rw [if_neg (by omega)])) h22 h23 hon
    -- the start of onto
    have start : ∀ (d i : Nat) (m : Mem), i + d = 13 → (∀ k : Nat, k < i → m 101 (k : Int) = (ont 0 k : Int)) → m 88 22 = (n : Int) → m 88 23 = (g : Int) → onCh mem m → ZZ X (0, 0) 4 mX12_chance G0 21 [vr 88, vi mk, vi (w : Int), vi 1, vl 1, vd, vi (i : Int), vd, vd, vd, vd, vd] [] m (pI G0 fun z m => (¬ ((0 ≤ mk ∧ mk ≤ 5) ∧ 1 ≤ (w : Int) ∧ (w : Int) ≤ 30) → z = -2 ∧ onGp mem m) ∧ ((0 ≤ mk ∧ mk ≤ 5) ∧ 1 ≤ (w : Int) ∧ (w : Int) ≤ 30 → ¬ (1 ≤ n ∧ n ≤ 12) → z = -3 ∧ onGp mem m) ∧ ((0 ≤ mk ∧ mk ≤ 5) ∧ 1 ≤ (w : Int) ∧ (w : Int) ≤ 30 → 1 ≤ n ∧ n ≤ 12 → z = 1 ∧ lowM m (((w ^ n : Nat) : Int) - (nrA g (w + 1) n : Int)) ((w ^ n : Nat) : Int)) ∧ onCh mem m) := by
      intro d
      induction d with
      | zero =>
        intro i m hi hk h22 h23 hon
        refine z_iload dX12_chance_21 rfl ?_
        refine z_bipush dX12_chance_23 (by decide) ?_
        refine z_icmp_ge 51 dX12_chance_25 (by decide) (fun h25 => ?_) (fun h25 => ?_)
        · refine z_iconst dX12_chance_51 (by decide) ?_
          refine z_istore dX12_chance_52 (by decide) rfl ?_
          dsimp only [List.set]
          exact ontos n 0 m vd (by omega) (fun k hk' => hk k (by omega)) h22 h23 hon (by intro z q; cases q)
        · omega
      | succ d ih =>
        intro i m hi hk h22 h23 hon
        refine z_iload dX12_chance_21 rfl ?_
        refine z_bipush dX12_chance_23 (by decide) ?_
        refine z_icmp_ge 51 dX12_chance_25 (by decide) (fun h25 => ?_) (fun h25 => ?_)
        · omega
        · refine z_aload_n dX12_chance_28 rfl ?_
          refine z_getR (ty := .int) dX12_chance_29 fl_X12_47 (by first | rfl | assumption) rfl rfl ?_
          refine z_iload dX12_chance_32 rfl ?_
          refine z_iload dX12_chance_34 rfl ?_
          refine z_if_ne 43 dX12_chance_36 (by decide) (fun h36 => ?_) (fun h36 => ?_)
          · refine z_lconst (z := 0) dX12_chance_43 rfl (by decide) ?_
            refine z_last dX12_chance_44 (by first | rfl | assumption) (by omega) (by omega) ?_
            refine z_iinc dX12_chance_45 rfl (by omega) (by decide) rfl ?_
            dsimp only [List.set]
            refine z_goto 21 dX12_chance_48 (by decide) ?_
            refine ih (i + 1) _ (by omega) (fun k hk' => ?_) (by rw [mset_ne _ (by decide)]; exact h22) (by rw [mset_ne _ (by decide)]; exact h23) (hon.tr onCh.o1)
            by_cases q : k = i
            · subst q
              rw [mset_eq]
              show _ = ((if k = 0 then 1 else 0 : Nat) : Int)
              first | (rw [if_pos (by omega)]; rfl) | (rw [if_neg (by omega)]; rfl)
            · rw [mset_nej _ _ (by omega)]; exact hk k (by omega)
          · refine z_lconst (z := 1) dX12_chance_39 rfl (by decide) ?_
            refine z_goto 44 dX12_chance_40 (by decide) ?_
            refine z_last dX12_chance_44 (by first | rfl | assumption) (by omega) (by omega) ?_
            refine z_iinc dX12_chance_45 rfl (by omega) (by decide) rfl ?_
            dsimp only [List.set]
            refine z_goto 21 dX12_chance_48 (by decide) ?_
            refine ih (i + 1) _ (by omega) (fun k hk' => ?_) (by rw [mset_ne _ (by decide)]; exact h22) (by rw [mset_ne _ (by decide)]; exact h23) (hon.tr onCh.o1)
            by_cases q : k = i
            · subst q
              rw [mset_eq]
              show _ = ((if k = 0 then 1 else 0 : Nat) : Int)
              first | (rw [if_pos (by omega)]; rfl) | (rw [if_neg (by omega)]; rfl)
            · rw [mset_nej _ _ (by omega)]; exact hk k (by omega)
    intro m h22 h23 hon
    refine z_lconst (z := 1) dX12_chance_15 rfl (by decide) ?_
    refine z_lstore dX12_chance_16 (by decide) rfl ?_
    dsimp only [List.set]
    refine z_iconst dX12_chance_18 (by decide) ?_
    refine z_istore dX12_chance_19 (by decide) rfl ?_
    dsimp only [List.set]
    exact start 13 0 m (by omega) (fun k hk => by omega) h22 h23 hon
  refine z_aload_n dX12_chance_0 rfl ?_
  refine z_iload_n dX12_chance_1 rfl ?_
  refine z_iload_n dX12_chance_2 rfl ?_
  refine z_iconst dX12_chance_3 (by decide) ?_
  refine z_V3i dX12_chance_4 ok_X12_gaps lk_X12_274 (by first | rfl | assumption) rfl rfl (Nat.le_of_ble_eq_true rfl) (by decide) (hgp) (fun z2 m2 hm2 => ?_)
  obtain ⟨ez, h22, h2, hon⟩ := hm2
  refine z_istore_n dX12_chance_7 (by decide) rfl ?_
  dsimp only [List.set]
  refine z_iload_n dX12_chance_8 rfl ?_
  refine z_iconst dX12_chance_9 (by decide) ?_
  refine z_icmp_eq 15 dX12_chance_10 (by decide) (fun h10 => ?_) (fun h10 => ?_)
  · have c1 : (0 ≤ mk ∧ mk ≤ 5) ∧ 1 ≤ wk ∧ wk ≤ 30 := by
      by_cases q : (0 ≤ mk ∧ mk ≤ 5) ∧ (1 ≤ wk ∧ wk ≤ 30) ∧ (1 : Int) = 1
      · omega
      · rw [if_pos q] at ez; omega
    have c2 : 1 ≤ n ∧ n ≤ 12 := by
      rw [if_neg (by omega)] at ez
      by_cases q : 1 ≤ (n : Int) ∧ (n : Int) ≤ 12
      · omega
      · rw [if_pos q] at ez; omega
    subst h10
    exact main c1 c2 _ (h22 (Or.inr rfl)) (h2 rfl).1 (onCh.gp hon)
  · refine z_iload_n dX12_chance_13 rfl ?_
    refine z_iret dX12_chance_14 rfl ?_
    refine ⟨rfl, _, rfl, fun q => ⟨?_, hon⟩, fun q1 q2 => ⟨?_, hon⟩, fun q1 q2 => ?_, onCh.gp hon⟩
    · rw [ez, if_pos (by omega)]
    · rw [ez, if_neg (by omega), if_pos (by omega)]
    · rw [if_neg (by omega), if_neg (by omega)] at ez
      exact absurd ez h10
end Chance
