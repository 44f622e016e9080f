/-! ===== thereAre: both sides ===== -/
def ffM (m : Nat) : Nat → Nat
  | 0 => 1
  | i + 1 => ffM m i * (m - i)
def pwM (m k : Nat) : Nat → Nat
  | 0 => ffM m k
  | j + 1 => pwM m k j * (232792560 / m)
theorem ffM_le {m : Nat} (hm : m ≤ 20) : ∀ i : Nat, ffM m i ≤ 20 ^ i
  | 0 => Nat.le_refl 1
  | i + 1 => by
    rw [Nat.pow_succ]
    exact Nat.mul_le_mul (ffM_le hm i) (by omega)
theorem ffM_pos {m : Nat} : ∀ i : Nat, i ≤ m → 0 < ffM m i
  | 0, _ => Nat.one_pos
  | i + 1, h => Nat.mul_pos (ffM_pos i (by omega)) (by omega)
theorem pwM_le {m k : Nat} (hm : m ≤ 20) (hk : k ≤ 20) : ∀ j : Nat, pwM m k j ≤ 20 ^ 20 * 232792560 ^ j
  | 0 => by
    show ffM m k ≤ 20 ^ 20 * 1
    rw [Nat.mul_one]
    exact Nat.le_trans (ffM_le hm k) (Nat.pow_le_pow_right (by decide) hk)
  | j + 1 => by
    rw [show (232792560 : Nat) ^ (j + 1) = 232792560 ^ j * 232792560 from Nat.pow_succ _ _, ← Nat.mul_assoc]
    exact Nat.mul_le_mul (pwM_le hm hk j) (Nat.div_le_self _ _)
theorem pwM_pos {m k : Nat} (h1 : 1 ≤ m) (hm : m ≤ 20) (hk : k ≤ m) : ∀ j : Nat, 0 < pwM m k j
  | 0 => ffM_pos k hk
  | j + 1 => by
    refine Nat.mul_pos (pwM_pos h1 hm hk j) (Nat.div_pos ?_ (by omega))
    omega
def cC : Nat := 20 ^ 20 * 232792560 ^ 60
theorem pwM_cC {m k j : Nat} (hm : m ≤ 20) (hk : k ≤ 20) (hj : j ≤ 60) : pwM m k j ≤ cC :=
  Nat.le_trans (pwM_le hm hk j) (Nat.mul_le_mul_left _ (Nat.pow_le_pow_right (by decide) hj))
theorem ffM_cC {m k : Nat} (hm : m ≤ 20) (hk : k ≤ 20) : ffM m k ≤ cC := pwM_cC (j := 0) hm hk (by decide)
theorem cC_lt : ((cC * 30000000000 : Nat) : Int) < zB ^ 64 := by decide +kernel
theorem zB65 : (zB : Int) ^ 64 ≤ zB ^ 65 := zB_le (by decide)
theorem zB66 : (zB : Int) ^ 64 ≤ zB ^ 66 := zB_le (by decide)
/-- the sum of the weights from lo on, d of them -/
def smM (k n : Nat) (lo : Nat) : Nat → Nat
  | 0 => 0
  | d + 1 => smM k n lo d + pwM (lo + d) k n
theorem smM_le {k n lo : Nat} (hk : k ≤ 20) (hn : n ≤ 60) : ∀ d : Nat, lo + d ≤ 21 → smM k n lo d ≤ d * cC
  | 0, _ => by rw [Nat.zero_mul]; exact Nat.le_refl 0
  | d + 1, h => by
    have := smM_le (lo := lo) hk hn d (by omega)
    have := pwM_cC (m := lo + d) (k := k) (j := n) (by omega) hk hn
    rw [Nat.add_mul, Nat.one_mul]
    exact Nat.add_le_add ‹_› ‹_›
theorem bcN_le20 {n : Nat} (hn : n < 2 ^ 20) : bcN n ≤ 20 := by
  have p0 := pop8_le ⟨n % 256, by omega⟩
  have p1 := pop8_le ⟨n / 256 % 256, by omega⟩
  have h4 : ∀ b : Fin 16, pop8 b.val ≤ 4 := by decide +kernel
  have p2 := h4 ⟨n / 65536, by omega⟩
  dsimp only at p0 p1 p2
  unfold bcN
  omega
/-- one more factor in a fraction that is in lowest terms -/
theorem low_mul {P W f : Nat} (hW : 0 < W) : P / Nat.gcd P W * (f / Nat.gcd f (W / Nat.gcd P W)) = P * f / Nat.gcd (P * f) W ∧ W / Nat.gcd P W / Nat.gcd f (W / Nat.gcd P W) = W / Nat.gcd (P * f) W := by
  have hg : 0 < Nat.gcd P W := Nat.gcd_pos_of_pos_right _ hW
  obtain ⟨a, ha⟩ := Nat.gcd_dvd_left P W
  obtain ⟨b, hb⟩ := Nat.gcd_dvd_right P W
  have hab : Nat.gcd a b = 1 := by
    have := Nat.coprime_div_gcd_div_gcd hg
    rw [Nat.div_eq_of_eq_mul_right hg ha, Nat.div_eq_of_eq_mul_right hg hb] at this
    exact this
  have ea : P / Nat.gcd P W = a := Nat.div_eq_of_eq_mul_right hg ha
  have eb : W / Nat.gcd P W = b := Nat.div_eq_of_eq_mul_right hg hb
  rw [ea, eb]
  generalize Nat.gcd P W = g at *
  have e1 : Nat.gcd (P * f) W = g * Nat.gcd f b := by
    rw [ha, hb, Nat.mul_assoc, Nat.gcd_mul_left]
    congr 1
    exact Nat.Coprime.gcd_mul_left_cancel f hab
  have hb0 : 0 < b := by
    rcases Nat.eq_zero_or_pos b with q | q
    · subst q; omega
    · exact q
  have hg2 : 0 < Nat.gcd f b := Nat.gcd_pos_of_pos_right _ hb0
  obtain ⟨c, hc⟩ := Nat.gcd_dvd_left f b
  obtain ⟨e, he⟩ := Nat.gcd_dvd_right f b
  rw [e1]
  have ec : f / Nat.gcd f b = c := Nat.div_eq_of_eq_mul_right hg2 hc
  have ee : b / Nat.gcd f b = e := Nat.div_eq_of_eq_mul_right hg2 he
  rw [ec, ee]
  generalize Nat.gcd f b = h at *
  constructor
  · symm
    refine Nat.div_eq_of_eq_mul_right (Nat.mul_pos hg hg2) ?_
    rw [ha, hc]
    grind
  · symm
    refine Nat.div_eq_of_eq_mul_right (Nat.mul_pos hg hg2) ?_
    rw [hb, he]
    grind
section There
variable {X : Nat × (Int → Int)} {mem : Mem} {nf : Nat} {fd : Nat → Nat → Int}
theorem mulZ {v f A B : Nat} (hv : v ≤ A) (hf : f ≤ B) (h : ((A * B : Nat) : Int) < zB ^ 64) : (v : Int) * (f : Int) < zB ^ 64 := by
  rw [← Int.natCast_mul]
  exact Int.lt_of_le_of_lt (Int.ofNat_le.mpr (Nat.mul_le_mul hv hf)) h
theorem cC_f : ((cC * 1000000000 : Nat) : Int) < zB ^ 64 := by decide +kernel
theorem cC_s : ((30 * cC : Nat) : Int) < zB ^ 64 := by decide +kernel
def onW7 (mem m : Mem) : Prop := ∀ a, a < 18 ∨ 21 < a → m a = mem a
theorem cm_X7_weigh {n k m : Nat} (hn : n ≤ 60) (hk : k ≤ m) (h1 : 1 ≤ m) (hm : m ≤ 20) : CM X (0, 0) 2 mX7_weigh G0 [vr 17, vi (n : Int), vi (k : Int), vi (m : Int)] mem (pV G0 fun m' => natAt m' 18 (pwM m k n) ∧ onN 18 mem m') := by
  refine CM.of (by decide +kernel) 1 (Nat.le_of_ble_eq_true rfl) ?_
  show ZZ X (0, 0) 2 mX7_weigh G0 0 [vr 17, vi (n : Int), vi (k : Int), vi (m : Int), vd] [] mem _
  have hL : 232792560 / m ≤ 232792560 := Nat.div_le_self _ _
  have eL : (232792560 : Int) / (m : Int) = ((232792560 / m : Nat) : Int) := by rw [Int.natCast_ediv]; rfl
  have two : ∀ (d j : Nat) (mm : Mem), j + d = n → natAt mm 18 (pwM m k j) → onN 18 mem mm → ZZ X (0, 0) 2 mX7_weigh G0 37 [vr 17, vi (n : Int), vi (k : Int), vi (m : Int), vi (j : Int)] [] mm (pV G0 fun m' => natAt m' 18 (pwM m k n) ∧ onN 18 mem m') := by
    intro d
    induction d with
    | zero =>
      intro j mm hj hv hon
      have : j = n := by omega
      subst this
      refine z_iload dX7_weigh_37 rfl ?_
      refine z_iload_n dX7_weigh_39 rfl ?_
      refine z_icmp_ge 64 dX7_weigh_40 (by decide) (fun h40 => ?_) (fun h40 => ?_)
      · refine z_vret dX7_weigh_64 rfl ?_
        exact ⟨rfl, rfl, hv, hon⟩
      · omega
    | succ d ih =>
      intro j mm hj hv hon
      have hb := pwM_cC (m := m) (k := k) (j := j) hm (by omega) (by omega)
      refine z_iload dX7_weigh_37 rfl ?_
      refine z_iload_n dX7_weigh_39 rfl ?_
      refine z_icmp_ge 64 dX7_weigh_40 (by decide) (fun h40 => ?_) (fun h40 => ?_)
      · omega
      · refine z_iload_n dX7_weigh_43 rfl ?_
        refine z_if_le 64 dX7_weigh_44 (by decide) (fun h44 => ?_) (fun h44 => ?_)
        · omega
        · refine z_aload_n dX7_weigh_47 rfl ?_
          refine z_getR (ty := .int) dX7_weigh_48 fl_X7_12 (by first | rfl | assumption) rfl rfl ?_
          refine z_ldc (z := 232792560) dX7_weigh_51 kc_X7_51 (by decide) ?_
          refine z_iload_n dX7_weigh_53 rfl ?_
          refine z_idiv dX7_weigh_54 (by omega) (by omega) ?_
          rw [eL]
          refine z_V1v dX7_weigh_55 ok_X8_multiply lk_X7_52 (by first | rfl | assumption) rfl rfl (Nat.le_of_ble_eq_true rfl) (by decide) (cm_X8_multiply isN_18 hv (Int.natCast_nonneg _) (Int.ofNat_lt.mpr (Nat.lt_of_le_of_lt hL (by decide))) (mulZ hb (Nat.le_trans hL (by decide)) cC_f)) (fun m2 hm2 => ?_)
          obtain ⟨n1, on1⟩ := hm2
          rw [Int.toNat_natCast] at n1
          refine z_iinc dX7_weigh_58 rfl (by omega) (by decide) rfl ?_
          dsimp only [List.set]
          refine z_goto 37 dX7_weigh_61 (by decide) ?_
          exact ih (j + 1) _ (by omega) n1 (fun a h1 h2 => (on1 a h1 h2).trans (hon a h1 h2))
  have one : ∀ (d i : Nat) (mm : Mem), i + d = k → natAt mm 18 (ffM m i) → onN 18 mem mm → ZZ X (0, 0) 2 mX7_weigh G0 11 [vr 17, vi (n : Int), vi (k : Int), vi (m : Int), vi (i : Int)] [] mm (pV G0 fun m' => natAt m' 18 (pwM m k n) ∧ onN 18 mem m') := by
    intro d
    induction d with
    | zero =>
      intro i mm hi hv hon
      have : i = k := by omega
      subst this
      refine z_iload dX7_weigh_11 rfl ?_
      refine z_iload_n dX7_weigh_13 rfl ?_
      refine z_icmp_ge 34 dX7_weigh_14 (by decide) (fun h14 => ?_) (fun h14 => ?_)
      · refine z_iconst dX7_weigh_34 (by decide) ?_
        refine z_istore dX7_weigh_35 (by decide) rfl ?_
        dsimp only [List.set]
        exact two n 0 _ (by omega) hv hon
      · omega
    | succ d ih =>
      intro i mm hi hv hon
      have hb := ffM_cC (m := m) (k := i) hm (by omega)
      refine z_iload dX7_weigh_11 rfl ?_
      refine z_iload_n dX7_weigh_13 rfl ?_
      refine z_icmp_ge 34 dX7_weigh_14 (by decide) (fun h14 => ?_) (fun h14 => ?_)
      · omega
      · refine z_aload_n dX7_weigh_17 rfl ?_
        refine z_getR (ty := .int) dX7_weigh_18 fl_X7_12 (by first | rfl | assumption) rfl rfl ?_
        refine z_iload_n dX7_weigh_21 rfl ?_
        refine z_iload dX7_weigh_22 rfl ?_
        refine z_isub dX7_weigh_24 (by omega) ?_
        rw [show (m : Int) - (i : Int) = ((m - i : Nat) : Int) by omega]
        refine z_V1v dX7_weigh_25 ok_X8_multiply lk_X7_52 (by first | rfl | assumption) rfl rfl (Nat.le_of_ble_eq_true rfl) (by decide) (cm_X8_multiply isN_18 hv (by omega) (by omega) (mulZ hb (by omega) cC_f)) (fun m2 hm2 => ?_)
        obtain ⟨n1, on1⟩ := hm2
        rw [Int.toNat_natCast] at n1
        refine z_iinc dX7_weigh_28 rfl (by omega) (by decide) rfl ?_
        dsimp only [List.set]
        refine z_goto 11 dX7_weigh_31 (by decide) ?_
        exact ih (i + 1) _ (by omega) n1 (fun a h1 h2 => (on1 a h1 h2).trans (hon a h1 h2))
  refine z_aload_n dX7_weigh_0 rfl ?_
  refine z_getR (ty := .int) dX7_weigh_1 fl_X7_12 (by first | rfl | assumption) rfl rfl ?_
  refine z_lconst (z := 1) dX7_weigh_4 rfl (by decide) ?_
  refine z_V1v dX7_weigh_5 ok_X8_become lk_X7_33 (by first | rfl | assumption) rfl rfl (Nat.le_of_ble_eq_true rfl) (by decide) (cm_X8_become isN_18 (by decide) (by decide)) (fun m2 hm2 => ?_)
  refine z_iconst dX7_weigh_8 (by decide) ?_
  refine z_istore dX7_weigh_9 (by decide) rfl ?_
  dsimp only [List.set]
  exact one k 0 _ (by omega) hm2.1 hm2.2
def lowF (m : Mem) (P W : Nat) : Prop := fracAt m 79 (P / Nat.gcd P W) (W / Nat.gcd P W)
/-- cells of the odds of moulds and of the fraction -/
def onT7 (mem m : Mem) : Prop := ∀ a, (a < 18 ∨ 21 < a) → (a < 80 ∨ 88 ≤ a) → m a = mem a
theorem onT7.n18 {m : Mem} (h : onN 18 mem m) : onT7 mem m := fun a h1 _ => h a (by omega) (by omega)
theorem onT7.n20 {m : Mem} (h : onN 20 mem m) : onT7 mem m := fun a h1 _ => h a (by omega) (by omega)
theorem onT7.f79 {m : Mem} (h : onF 79 mem m) : onT7 mem m := fun a _ h2 => h a (by omega)
theorem onT7.tr {m1 m2 : Mem} (h : onT7 mem m1) (h' : onT7 m1 m2) : onT7 mem m2 := fun a h1 h2 => (h' a h1 h2).trans (h a h1 h2)
theorem natAt.offF {m : Mem} {o v : Nat} (h : natAt mem o v) (hon : onF 79 mem m) (h1 : o + 1 < 80) : natAt m o v := h.kept (hon o (by omega)) (hon (o + 1) (by omega))
theorem cm_X7_share {n k : Nat} {mny : Int} (hn : n ≤ 60) (hk : k ≤ 20) (hm0 : 0 ≤ mny) (hm30 : mny ≤ 30) : CM X (0, 0) 3 mX7_share G0 [vr 17, vi (n : Int), vi (k : Int), vi mny, vr 79] mem (pV G0 fun m => (mny < max 1 (k : Int) ∨ 20 < mny → lowF m 0 1) ∧ (¬ (mny < max 1 (k : Int) ∨ 20 < mny) → lowF m (pwM mny.toNat k n) (smM k n (max 1 k) (21 - max 1 k))) ∧ onT7 mem m) := by
  have hL : 232792560 / mny.toNat ≤ 232792560 := Nat.div_le_self _ _
  refine CM.of (by decide +kernel) 2 (Nat.le_of_ble_eq_true rfl) ?_
  show ZZ X (0, 0) 3 mX7_share G0 0 [vr 17, vi (n : Int), vi (k : Int), vi mny, vr 79, vd, vd] [] mem _
  have out : mny < max 1 (k : Int) ∨ 20 < mny → ZZ X (0, 0) 3 mX7_share G0 19 [vr 17, vi (n : Int), vi (k : Int), vi mny, vr 79, vi ((max 1 k : Nat) : Int), vd] [] mem (pV G0 fun m => (mny < max 1 (k : Int) ∨ 20 < mny → lowF m 0 1) ∧ (¬ (mny < max 1 (k : Int) ∨ 20 < mny) → lowF m (pwM mny.toNat k n) (smM k n (max 1 k) (21 - max 1 k))) ∧ onT7 mem m) := by
    intro hc
    refine z_aload dX7_share_19 rfl ?_
    refine z_lconst (z := 0) dX7_share_21 rfl (by decide) ?_
    refine z_lconst (z := 1) dX7_share_22 rfl (by decide) ?_
    refine z_V2v dX7_share_23 ok_X4_become lk_X7_27 (by first | rfl | assumption) rfl rfl (Nat.le_of_ble_eq_true rfl) (by decide) (cm_become79 (by decide) (by decide) (by decide) (by decide)) (fun m2 hm2 => ?_)
    refine z_vret dX7_share_26 rfl ?_
    exact ⟨rfl, rfl, fun _ => hm2.1, fun q => absurd hc q, onT7.f79 hm2.2⟩
  have inn : ¬ (mny < max 1 (k : Int) ∨ 20 < mny) → ZZ X (0, 0) 3 mX7_share G0 27 [vr 17, vi (n : Int), vi (k : Int), vi mny, vr 79, vi ((max 1 k : Nat) : Int), vd] [] mem (pV G0 fun m => (mny < max 1 (k : Int) ∨ 20 < mny → lowF m 0 1) ∧ (¬ (mny < max 1 (k : Int) ∨ 20 < mny) → lowF m (pwM mny.toNat k n) (smM k n (max 1 k) (21 - max 1 k))) ∧ onT7 mem m) := by
    intro hc
    obtain ⟨M, rfl⟩ : ∃ M : Nat, mny = (M : Int) := ⟨mny.toNat, by omega⟩
    rw [Int.toNat_natCast] at *
    have hlo1 : 1 ≤ max 1 k := Nat.le_max_left _ _
    have hlok : k ≤ max 1 k := Nat.le_max_right _ _
    have hMlo : max 1 k ≤ M := by omega
    have hM20 : M ≤ 20 := by omega
    generalize hlo : max 1 k = lo at *
    have hpos : ∀ d : Nat, lo + d ≤ 21 → M < lo + d → 0 < smM k n lo d := by
      intro d
      induction d with
      | zero => intro _ h; omega
      | succ d ih =>
        intro h1 h2
        show 0 < smM k n lo d + pwM (lo + d) k n
        by_cases q : M < lo + d
        · have := ih (by omega) q; omega
        · have := pwM_pos (m := lo + d) (k := k) (by omega) (by omega) (by omega) n; omega
    have hW := hpos (21 - lo) (by omega) (by omega)
    generalize hWe : smM k n lo (21 - lo) = W at *
    have eL : (232792560 : Int) / (M : Int) = ((232792560 / M : Nat) : Int) := by rw [Int.natCast_ediv]; rfl
    have hLp : 0 < 232792560 / M := Nat.div_pos (by omega) (by omega)
    have three : ∀ (d j : Nat) (m : Mem), j + d = n → lowF m (pwM M k j) W → onT7 mem m → ZZ X (0, 0) 3 mX7_share G0 107 [vr 17, vi (n : Int), vi (k : Int), vi (M : Int), vr 79, vi (lo : Int), vi (j : Int)] [] m (pV G0 fun m => ((M : Int) < max 1 (k : Int) ∨ 20 < (M : Int) → lowF m 0 1) ∧ (¬ ((M : Int) < max 1 (k : Int) ∨ 20 < (M : Int)) → lowF m (pwM M k n) W) ∧ onT7 mem m) := by
      intro d
      induction d with
      | zero =>
        intro j m hj hv hon
        have : j = n := by omega
        subst this
        refine z_iload dX7_share_107 rfl ?_
        refine z_iload_n dX7_share_109 rfl ?_
        refine z_icmp_ge 128 dX7_share_110 (by decide) (fun h110 => ?_) (fun h110 => ?_)
        · refine z_vret dX7_share_128 rfl ?_
          exact ⟨rfl, rfl, fun q => absurd q hc, fun _ => hv, hon⟩
        · omega
      | succ d ih =>
        intro j m hj hv hon
        have hb := pwM_cC (m := M) (k := k) (j := j) hM20 hk (by omega)
        have hb2 : pwM M k j / Nat.gcd (pwM M k j) W ≤ cC := Nat.le_trans (Nat.div_le_self _ _) hb
        have lm := low_mul (P := pwM M k j) (f := 232792560 / M) hW
        refine z_iload dX7_share_107 rfl ?_
        refine z_iload_n dX7_share_109 rfl ?_
        refine z_icmp_ge 128 dX7_share_110 (by decide) (fun h110 => ?_) (fun h110 => ?_)
        · omega
        · refine z_aload dX7_share_113 rfl ?_
          refine z_ldc (z := 232792560) dX7_share_115 kc_X7_51 (by decide) ?_
          refine z_iload_n dX7_share_117 rfl ?_
          refine z_idiv dX7_share_118 (by omega) (by omega) ?_
          rw [eL]
          refine z_V1v dX7_share_119 ok_X4_times lk_X7_47 (by first | rfl | assumption) rfl rfl (Nat.le_of_ble_eq_true rfl) (by decide) (cm_X4_times isF_79 hv hLp (Nat.lt_of_le_of_lt (Nat.div_le_self _ _) (by decide)) (by rw [Int.natCast_mul]; exact mulZ hb2 (Nat.le_trans (Nat.div_le_self _ _) (by decide)) cC_f)) (fun m2 hm2 => ?_)
          obtain ⟨n1, on1⟩ := hm2
          rw [lm.1, lm.2] at n1
          refine z_iinc dX7_share_122 rfl (by omega) (by decide) rfl ?_
          dsimp only [List.set]
          refine z_goto 107 dX7_share_125 (by decide) ?_
          exact ih (j + 1) _ (by omega) n1 (hon.tr (onT7.f79 on1))
    have two : ∀ (d i : Nat) (m : Mem), i + d = k → lowF m (ffM M i) W → onT7 mem m → ZZ X (0, 0) 3 mX7_share G0 83 [vr 17, vi (n : Int), vi (k : Int), vi (M : Int), vr 79, vi (lo : Int), vi (i : Int)] [] m (pV G0 fun m => ((M : Int) < max 1 (k : Int) ∨ 20 < (M : Int) → lowF m 0 1) ∧ (¬ ((M : Int) < max 1 (k : Int) ∨ 20 < (M : Int)) → lowF m (pwM M k n) W) ∧ onT7 mem m) := by
      intro d
      induction d with
      | zero =>
        intro i m hi hv hon
        have : i = k := by omega
        subst this
        refine z_iload dX7_share_83 rfl ?_
        refine z_iload_n dX7_share_85 rfl ?_
        refine z_icmp_ge 104 dX7_share_86 (by decide) (fun h86 => ?_) (fun h86 => ?_)
        · refine z_iconst dX7_share_104 (by decide) ?_
          refine z_istore dX7_share_105 (by decide) rfl ?_
          dsimp only [List.set]
          exact three n 0 _ (by omega) hv hon
        · omega
      | succ d ih =>
        intro i m hi hv hon
        have hb := ffM_cC (m := M) (k := i) hM20 (by omega)
        have hb2 : ffM M i / Nat.gcd (ffM M i) W ≤ cC := Nat.le_trans (Nat.div_le_self _ _) hb
        have lm := low_mul (P := ffM M i) (f := M - i) hW
        refine z_iload dX7_share_83 rfl ?_
        refine z_iload_n dX7_share_85 rfl ?_
        refine z_icmp_ge 104 dX7_share_86 (by decide) (fun h86 => ?_) (fun h86 => ?_)
        · omega
        · refine z_aload dX7_share_89 rfl ?_
          refine z_iload_n dX7_share_91 rfl ?_
          refine z_iload dX7_share_92 rfl ?_
          refine z_isub dX7_share_94 (by omega) ?_
          rw [show (M : Int) - (i : Int) = ((M - i : Nat) : Int) by omega]
          refine z_V1v dX7_share_95 ok_X4_times lk_X7_47 (by first | rfl | assumption) rfl rfl (Nat.le_of_ble_eq_true rfl) (by decide) (cm_X4_times isF_79 hv (by omega) (by omega) (by rw [Int.natCast_mul]; exact mulZ hb2 (by omega) cC_f)) (fun m2 hm2 => ?_)
          obtain ⟨n1, on1⟩ := hm2
          rw [lm.1, lm.2] at n1
          refine z_iinc dX7_share_98 rfl (by omega) (by decide) rfl ?_
          dsimp only [List.set]
          refine z_goto 83 dX7_share_101 (by decide) ?_
          exact ih (i + 1) _ (by omega) n1 (hon.tr (onT7.f79 on1))
    have one : ∀ (d i : Nat) (m : Mem), lo + i + d = 21 → natAt m 20 (smM k n lo i) → onT7 mem m → ZZ X (0, 0) 3 mX7_share G0 39 [vr 17, vi (n : Int), vi (k : Int), vi (M : Int), vr 79, vi (lo : Int), vi ((lo : Int) + (i : Int))] [] m (pV G0 fun m => ((M : Int) < max 1 (k : Int) ∨ 20 < (M : Int) → lowF m 0 1) ∧ (¬ ((M : Int) < max 1 (k : Int) ∨ 20 < (M : Int)) → lowF m (pwM M k n) W) ∧ onT7 mem m) := by
      intro d
      induction d with
      | zero =>
        intro i m hi hv hon
        have : i = 21 - lo := by omega
        subst this
        rw [hWe] at hv
        refine z_iload dX7_share_39 rfl ?_
        refine z_bipush dX7_share_41 (by decide) ?_
        refine z_icmp_gt 71 dX7_share_43 (by decide) (fun h43 => ?_) (fun h43 => ?_)
        · refine z_aload dX7_share_71 rfl ?_
          refine z_aload_n dX7_share_73 rfl ?_
          refine z_getR (ty := .int) dX7_share_74 fl_X7_18 (by first | rfl | assumption) rfl rfl ?_
          refine z_V1v dX7_share_77 ok_X4_becomeOneBy lk_X7_44 (by first | rfl | assumption) rfl rfl (Nat.le_of_ble_eq_true rfl) (by decide) (cm_X4_becomeOneBy isF_79 isN_20 hv (by omega)) (fun m2 hm2 => ?_)
          refine z_iconst dX7_share_80 (by decide) ?_
          refine z_istore dX7_share_81 (by decide) rfl ?_
          dsimp only [List.set]
          exact two k 0 _ (by omega) (by show fracAt _ 79 (1 / Nat.gcd 1 W) (W / Nat.gcd 1 W); rw [Nat.gcd_one_left, Nat.div_one, Nat.div_one]; exact hm2.1) (hon.tr (onT7.f79 hm2.2))
        · omega
      | succ d ih =>
        intro i m hi hv hon
        have hb := smM_le (k := k) (n := n) (lo := lo) hk hn (i + 1) (by omega)
        refine z_iload dX7_share_39 rfl ?_
        refine z_bipush dX7_share_41 (by decide) ?_
        refine z_icmp_gt 71 dX7_share_43 (by decide) (fun h43 => ?_) (fun h43 => ?_)
        · omega
        · refine z_aload_n dX7_share_46 rfl ?_
          refine z_iload_n dX7_share_47 rfl ?_
          refine z_iload_n dX7_share_48 rfl ?_
          refine z_iload dX7_share_49 rfl ?_
          rw [show (lo : Int) + (i : Int) = ((lo + i : Nat) : Int) by omega]
          refine z_V3v dX7_share_51 ok_X7_weigh lk_X7_36 (by first | rfl | assumption) rfl rfl (Nat.le_of_ble_eq_true rfl) (by decide) (cm_X7_weigh hn (by omega) (by omega) (by omega)) (fun m2 hm2 => ?_)
          obtain ⟨n1, on1⟩ := hm2
          refine z_aload_n dX7_share_54 rfl ?_
          refine z_getR (ty := .int) dX7_share_55 fl_X7_18 (by first | rfl | assumption) rfl rfl ?_
          refine z_aload_n dX7_share_58 rfl ?_
          refine z_getR (ty := .int) dX7_share_59 fl_X7_12 (by first | rfl | assumption) rfl rfl ?_
          refine z_V1v dX7_share_62 ok_X8_add lk_X7_40 (by first | rfl | assumption) rfl rfl (Nat.le_of_ble_eq_true rfl) (by decide) (cm_X8_add isN_20 isN_18 (hv.off on1 (by decide) (by decide) (by decide)) n1 (by decide) (Int.lt_of_le_of_lt (Int.ofNat_le.mpr (Nat.le_trans hb (Nat.mul_le_mul_right cC (by omega : i + 1 ≤ 30)))) cC_s)) (fun m3 hm3 => ?_)
          obtain ⟨n2, on2⟩ := hm3
          refine z_iinc dX7_share_65 rfl (by omega) (by decide) rfl ?_
          dsimp only [List.set]
          refine z_goto 39 dX7_share_68 (by decide) ?_
          rw [show ((lo + i : Nat) : Int) + 1 = (lo : Int) + ((i + 1 : Nat) : Int) by omega]
          exact ih (i + 1) _ (by omega) n2 ((hon.tr (onT7.n18 on1)).tr (onT7.n20 on2))
    refine z_aload_n dX7_share_27 rfl ?_
    refine z_getR (ty := .int) dX7_share_28 fl_X7_18 (by first | rfl | assumption) rfl rfl ?_
    refine z_lconst (z := 0) dX7_share_31 rfl (by decide) ?_
    refine z_V1v dX7_share_32 ok_X8_become lk_X7_33 (by first | rfl | assumption) rfl rfl (Nat.le_of_ble_eq_true rfl) (by decide) (cm_X8_become isN_20 (by decide) (by decide)) (fun m2 hm2 => ?_)
    refine z_iload dX7_share_35 rfl ?_
    refine z_istore dX7_share_37 (by decide) rfl ?_
    dsimp only [List.set]
    have := one (21 - lo) 0 _ (by omega) hm2.1 (onT7.n20 hm2.2)
    rw [show (lo : Int) + ((0 : Nat) : Int) = (lo : Int) by omega] at this
    exact this
  refine z_iconst dX7_share_0 (by decide) ?_
  refine z_iload_n dX7_share_1 rfl ?_
  refine z_max dX7_share_2 lm_X7_21 (by decide) (Nat.le_of_ble_eq_true rfl) ?_
  rw [show (if (1 : Int) < (k : Int) then (k : Int) else 1) = ((max 1 k : Nat) : Int) by split <;> omega]
  refine z_istore dX7_share_5 (by decide) rfl ?_
  dsimp only [List.set]
  refine z_iload_n dX7_share_7 rfl ?_
  refine z_iload dX7_share_8 rfl ?_
  refine z_icmp_lt 19 dX7_share_10 (by decide) (fun h10 => ?_) (fun h10 => ?_)
  · exact out (by omega)
  · refine z_iload_n dX7_share_13 rfl ?_
    refine z_bipush dX7_share_14 (by decide) ?_
    refine z_icmp_le 27 dX7_share_16 (by decide) (fun h16 => ?_) (fun h16 => ?_)
    · exact inn (by omega)
    · exact out (by omega)
abbrev wtP (m k : Nat) : Prop := k ≤ m ∧ 1 ≤ m ∧ m ≤ 20
def wtM (m k n : Nat) : Nat := if wtP m k then pwM m k n else 0
def smR (k n : Nat) : Nat → Nat
  | 0 => 0
  | d + 1 => smR k n d + wtM (d + 1) k n
theorem smR_eq {k n : Nat} : ∀ d : Nat, d ≤ 20 → smR k n d = smM k n (max 1 k) (d + 1 - max 1 k)
  | 0, _ => by
    rw [show 0 + 1 - max 1 k = 0 by omega]
    rfl
  | d + 1, h => by
    have ih := smR_eq (k := k) (n := n) d (by omega)
    show smR k n d + wtM (d + 1) k n = _
    unfold wtM
    by_cases q : k ≤ d + 1
    · rw [if_pos ⟨q, by omega, by omega⟩, ih, show d + 1 + 1 - max 1 k = (d + 1 - max 1 k) + 1 by omega]
      show _ = smM k n (max 1 k) (d + 1 - max 1 k) + pwM (max 1 k + (d + 1 - max 1 k)) k n
      rw [show max 1 k + (d + 1 - max 1 k) = d + 1 by omega]
    · rw [if_neg (fun w => q w.1), ih, show d + 1 + 1 - max 1 k = 0 by omega, show d + 1 - max 1 k = 0 by omega, Nat.add_zero]
theorem wtM_le {m k n : Nat} (hn : n ≤ 60) (hk : k ≤ 20) : wtM m k n ≤ cC := by
  unfold wtM
  split
  · rename_i h
    exact pwM_cC h.2.2 hk hn
  · exact Nat.zero_le _
theorem smR_le {k n : Nat} (hn : n ≤ 60) (hk : k ≤ 20) : ∀ d : Nat, smR k n d ≤ d * cC
  | 0 => by rw [Nat.zero_mul]; exact Nat.le_refl 0
  | d + 1 => by
    rw [Nat.add_mul, Nat.one_mul]
    exact Nat.add_le_add (smR_le hn hk d) (wtM_le hn hk)
theorem smR_pos {k n : Nat} (hk : k ≤ 20) : 0 < smR k n 20 := by
  show 0 < smR k n 19 + wtM 20 k n
  have : 0 < wtM 20 k n := by
    unfold wtM
    rw [if_pos ⟨hk, by decide, by decide⟩]
    exact pwM_pos (by decide) (by decide) hk n
  omega
theorem cm_X12_weighsMoulds {r n k m : Nat} (hr : r < 6) (hn : n ≤ 60) (hk : k ≤ 20) (hm : m ≤ 30) : CM X (0, 0) 2 mX12_weighsMoulds G0 [vr 88, vi (r : Int), vi (m : Int), vi (n : Int), vi (k : Int)] mem (pV G0 fun m' => regAt m' r (wtM m k n) ∧ onR r mem m') := by
  refine CM.of (by decide +kernel) 1 (Nat.le_of_ble_eq_true rfl) ?_
  show ZZ X (0, 0) 2 mX12_weighsMoulds G0 0 [vr 88, vi (r : Int), vi (m : Int), vi (n : Int), vi (k : Int), vd] [] mem _
  have none : ¬ wtP m k → ∀ mm : Mem, regAt mm r 0 → onR r mem mm → ZZ X (0, 0) 2 mX12_weighsMoulds G0 27 [vr 88, vi (r : Int), vi (m : Int), vi (n : Int), vi (k : Int), vd] [] mm (pV G0 fun m' => regAt m' r (wtM m k n) ∧ onR r mem m') := by
    intro hc mm hv hon
    obtain ⟨nn, hw, h66, hz⟩ := reg_wide hv
    have hz0 : nn = 0 := hz.mpr rfl
    have e0 : wtM m k n = 0 := if_neg hc
    rw [e0]
    refine z_iconst dX12_weighsMoulds_27 (by decide) ?_
    refine z_istore dX12_weighsMoulds_28 (by decide) rfl ?_
    dsimp only [List.set]
    refine z_iload dX12_weighsMoulds_30 rfl ?_
    refine z_iload dX12_weighsMoulds_32 rfl ?_
    refine z_icmp_ge 61 dX12_weighsMoulds_34 (by decide) (fun h34 => ?_) (fun h34 => ?_)
    · refine z_iconst dX12_weighsMoulds_61 (by decide) ?_
      refine z_istore dX12_weighsMoulds_62 (by decide) rfl ?_
      dsimp only [List.set]
      refine z_iload dX12_weighsMoulds_64 rfl ?_
      refine z_iload_n dX12_weighsMoulds_66 rfl ?_
      refine z_icmp_ge 94 dX12_weighsMoulds_67 (by decide) (fun h67 => ?_) (fun h67 => ?_)
      · refine z_vret dX12_weighsMoulds_94 rfl ?_
        exact ⟨rfl, rfl, hv, hon⟩
      · refine z_aload_n dX12_weighsMoulds_70 rfl ?_
        refine z_getR (ty := .int) dX12_weighsMoulds_71 fl_X12_13 (by first | rfl | assumption) rfl rfl ?_
        refine z_iload_n dX12_weighsMoulds_74 rfl ?_
        refine z_iald dX12_weighsMoulds_75 (by first | rfl | assumption) (by omega) (by omega) ?_
        rw [hw]
        refine z_if_le 94 dX12_weighsMoulds_76 (by decide) (fun h76 => ?_) (fun h76 => ?_)
        · refine z_vret dX12_weighsMoulds_94 rfl ?_
          exact ⟨rfl, rfl, hv, hon⟩
        · omega
    · refine z_aload_n dX12_weighsMoulds_37 rfl ?_
      refine z_getR (ty := .int) dX12_weighsMoulds_38 fl_X12_13 (by first | rfl | assumption) rfl rfl ?_
      refine z_iload_n dX12_weighsMoulds_41 rfl ?_
      refine z_iald dX12_weighsMoulds_42 (by first | rfl | assumption) (by omega) (by omega) ?_
      rw [hw]
      refine z_if_le 61 dX12_weighsMoulds_43 (by decide) (fun h43 => ?_) (fun h43 => ?_)
      · refine z_iconst dX12_weighsMoulds_61 (by decide) ?_
        refine z_istore dX12_weighsMoulds_62 (by decide) rfl ?_
        dsimp only [List.set]
        refine z_iload dX12_weighsMoulds_64 rfl ?_
        refine z_iload_n dX12_weighsMoulds_66 rfl ?_
        refine z_icmp_ge 94 dX12_weighsMoulds_67 (by decide) (fun h67 => ?_) (fun h67 => ?_)
        · refine z_vret dX12_weighsMoulds_94 rfl ?_
          exact ⟨rfl, rfl, hv, hon⟩
        · refine z_aload_n dX12_weighsMoulds_70 rfl ?_
          refine z_getR (ty := .int) dX12_weighsMoulds_71 fl_X12_13 (by first | rfl | assumption) rfl rfl ?_
          refine z_iload_n dX12_weighsMoulds_74 rfl ?_
          refine z_iald dX12_weighsMoulds_75 (by first | rfl | assumption) (by omega) (by omega) ?_
          rw [hw]
          refine z_if_le 94 dX12_weighsMoulds_76 (by decide) (fun h76 => ?_) (fun h76 => ?_)
          · refine z_vret dX12_weighsMoulds_94 rfl ?_
            exact ⟨rfl, rfl, hv, hon⟩
          · omega
      · omega
  have some : wtP m k → ∀ mm : Mem, regAt mm r 1 → onR r mem mm → ZZ X (0, 0) 2 mX12_weighsMoulds G0 27 [vr 88, vi (r : Int), vi (m : Int), vi (n : Int), vi (k : Int), vd] [] mm (pV G0 fun m' => regAt m' r (wtM m k n) ∧ onR r mem m') := by
    intro hc
    have e0 : wtM m k n = pwM m k n := if_pos hc
    rw [e0]
    have hL : 232792560 / m ≤ 232792560 := Nat.div_le_self _ _
    have eL : (232792560 : Int) / (m : Int) = ((232792560 / m : Nat) : Int) := by rw [Int.natCast_ediv]; rfl
    have two : ∀ (d j : Nat) (mm : Mem), j + d = n → regAt mm r (pwM m k j) → onR r mem mm → ZZ X (0, 0) 2 mX12_weighsMoulds G0 64 [vr 88, vi (r : Int), vi (m : Int), vi (n : Int), vi (k : Int), vi (j : Int)] [] mm (pV G0 fun m' => regAt m' r (pwM m k n) ∧ onR r mem m') := by
      intro d
      induction d with
      | zero =>
        intro j mm hj hv hon
        have : j = n := by omega
        subst this
        refine z_iload dX12_weighsMoulds_64 rfl ?_
        refine z_iload_n dX12_weighsMoulds_66 rfl ?_
        refine z_icmp_ge 94 dX12_weighsMoulds_67 (by decide) (fun h67 => ?_) (fun h67 => ?_)
        · refine z_vret dX12_weighsMoulds_94 rfl ?_
          exact ⟨rfl, rfl, hv, hon⟩
        · omega
      | succ d ih =>
        intro j mm hj hv hon
        have hb := pwM_cC (m := m) (k := k) (j := j) hc.2.2 (by omega) (by omega)
        have hp := pwM_pos hc.2.1 hc.2.2 hc.1 j
        obtain ⟨nn, hw, h66, hz⟩ := reg_wide hv
        refine z_iload dX12_weighsMoulds_64 rfl ?_
        refine z_iload_n dX12_weighsMoulds_66 rfl ?_
        refine z_icmp_ge 94 dX12_weighsMoulds_67 (by decide) (fun h67 => ?_) (fun h67 => ?_)
        · omega
        · refine z_aload_n dX12_weighsMoulds_70 rfl ?_
          refine z_getR (ty := .int) dX12_weighsMoulds_71 fl_X12_13 (by first | rfl | assumption) rfl rfl ?_
          refine z_iload_n dX12_weighsMoulds_74 rfl ?_
          refine z_iald dX12_weighsMoulds_75 (by first | rfl | assumption) (by omega) (by omega) ?_
          rw [hw]
          refine z_if_le 94 dX12_weighsMoulds_76 (by decide) (fun h76 => ?_) (fun h76 => ?_)
          · omega
          · refine z_aload_n dX12_weighsMoulds_79 rfl ?_
            refine z_iload_n dX12_weighsMoulds_80 rfl ?_
            refine z_ldc (z := 232792560) dX12_weighsMoulds_81 kc_X12_205 (by decide) ?_
            refine z_iload_n dX12_weighsMoulds_83 rfl ?_
            refine z_idiv dX12_weighsMoulds_84 (by omega) (by omega) ?_
            rw [eL]
            refine z_V2v dX12_weighsMoulds_85 ok_X12_times lk_X12_159 (by first | rfl | assumption) rfl rfl (Nat.le_of_ble_eq_true rfl) (by decide) (cm_X12_times hr hv (Int.natCast_nonneg _) (Int.ofNat_lt.mpr (Nat.lt_of_le_of_lt hL (by decide))) (Int.lt_of_lt_of_le (mulZ hb (Nat.le_trans hL (by decide)) cC_f) zB66)) (fun m2 hm2 => ?_)
            obtain ⟨n1, on1⟩ := hm2
            rw [Int.toNat_natCast] at n1
            refine z_iinc dX12_weighsMoulds_88 rfl (by omega) (by decide) rfl ?_
            dsimp only [List.set]
            refine z_goto 64 dX12_weighsMoulds_91 (by decide) ?_
            exact ih (j + 1) _ (by omega) n1 (hon.tr on1)
    have one : ∀ (d i : Nat) (mm : Mem), i + d = k → regAt mm r (ffM m i) → onR r mem mm → ZZ X (0, 0) 2 mX12_weighsMoulds G0 30 [vr 88, vi (r : Int), vi (m : Int), vi (n : Int), vi (k : Int), vi (i : Int)] [] mm (pV G0 fun m' => regAt m' r (pwM m k n) ∧ onR r mem m') := by
      intro d
      induction d with
      | zero =>
        intro i mm hi hv hon
        have : i = k := by omega
        subst this
        refine z_iload dX12_weighsMoulds_30 rfl ?_
        refine z_iload dX12_weighsMoulds_32 rfl ?_
        refine z_icmp_ge 61 dX12_weighsMoulds_34 (by decide) (fun h34 => ?_) (fun h34 => ?_)
        · refine z_iconst dX12_weighsMoulds_61 (by decide) ?_
          refine z_istore dX12_weighsMoulds_62 (by decide) rfl ?_
          dsimp only [List.set]
          exact two n 0 _ (by omega) hv hon
        · omega
      | succ d ih =>
        intro i mm hi hv hon
        have hb := ffM_cC (m := m) (k := i) hc.2.2 (by omega)
        have hp := ffM_pos (m := m) i (by omega)
        obtain ⟨nn, hw, h66, hz⟩ := reg_wide hv
        refine z_iload dX12_weighsMoulds_30 rfl ?_
        refine z_iload dX12_weighsMoulds_32 rfl ?_
        refine z_icmp_ge 61 dX12_weighsMoulds_34 (by decide) (fun h34 => ?_) (fun h34 => ?_)
        · omega
        · refine z_aload_n dX12_weighsMoulds_37 rfl ?_
          refine z_getR (ty := .int) dX12_weighsMoulds_38 fl_X12_13 (by first | rfl | assumption) rfl rfl ?_
          refine z_iload_n dX12_weighsMoulds_41 rfl ?_
          refine z_iald dX12_weighsMoulds_42 (by first | rfl | assumption) (by omega) (by omega) ?_
          rw [hw]
          refine z_if_le 61 dX12_weighsMoulds_43 (by decide) (fun h43 => ?_) (fun h43 => ?_)
          · omega
          · refine z_aload_n dX12_weighsMoulds_46 rfl ?_
            refine z_iload_n dX12_weighsMoulds_47 rfl ?_
            refine z_iload_n dX12_weighsMoulds_48 rfl ?_
            refine z_iload dX12_weighsMoulds_49 rfl ?_
            refine z_isub dX12_weighsMoulds_51 (by omega) ?_
            rw [show (m : Int) - (i : Int) = ((m - i : Nat) : Int) by omega]
            refine z_V2v dX12_weighsMoulds_52 ok_X12_times lk_X12_159 (by first | rfl | assumption) rfl rfl (Nat.le_of_ble_eq_true rfl) (by decide) (cm_X12_times hr hv (by omega) (by omega) (Int.lt_of_lt_of_le (mulZ hb (by omega) cC_f) zB66)) (fun m2 hm2 => ?_)
            obtain ⟨n1, on1⟩ := hm2
            rw [Int.toNat_natCast] at n1
            refine z_iinc dX12_weighsMoulds_55 rfl (by omega) (by decide) rfl ?_
            dsimp only [List.set]
            refine z_goto 30 dX12_weighsMoulds_58 (by decide) ?_
            exact ih (i + 1) _ (by omega) n1 (hon.tr on1)
    intro mm hv hon
    refine z_iconst dX12_weighsMoulds_27 (by decide) ?_
    refine z_istore dX12_weighsMoulds_28 (by decide) rfl ?_
    dsimp only [List.set]
    exact one k 0 _ (by omega) hv hon
  refine z_aload_n dX12_weighsMoulds_0 rfl ?_
  refine z_iload_n dX12_weighsMoulds_1 rfl ?_
  refine z_iload_n dX12_weighsMoulds_2 rfl ?_
  refine z_iload dX12_weighsMoulds_3 rfl ?_
  refine z_icmp_lt 19 dX12_weighsMoulds_5 (by decide) (fun h5 => ?_) (fun h5 => ?_)
  · refine z_lconst (z := 0) dX12_weighsMoulds_19 rfl (by decide) ?_
    refine z_goto 24 dX12_weighsMoulds_20 (by decide) ?_
    first | refine z_V2v dX12_weighsMoulds_24 ok_X12_sets lk_X12_63 (by first | rfl | assumption) rfl rfl (Nat.le_of_ble_eq_true rfl) (by decide) (cm_X12_sets (v := 0) hr (by decide)) (fun m2 hm2 => ?_) | refine z_V2v dX12_weighsMoulds_24 ok_X12_sets lk_X12_63 (by first | rfl | assumption) rfl rfl (Nat.le_of_ble_eq_true rfl) (by decide) (cm_X12_sets (v := 1) hr (by decide)) (fun m2 hm2 => ?_)
    first | exact none (by omega) _ hm2.1 hm2.2 | exact some (by omega) _ hm2.1 hm2.2
  · refine z_iload_n dX12_weighsMoulds_8 rfl ?_
    refine z_iconst dX12_weighsMoulds_9 (by decide) ?_
    refine z_icmp_lt 19 dX12_weighsMoulds_10 (by decide) (fun h10 => ?_) (fun h10 => ?_)
    · refine z_lconst (z := 0) dX12_weighsMoulds_19 rfl (by decide) ?_
      refine z_goto 24 dX12_weighsMoulds_20 (by decide) ?_
      first | refine z_V2v dX12_weighsMoulds_24 ok_X12_sets lk_X12_63 (by first | rfl | assumption) rfl rfl (Nat.le_of_ble_eq_true rfl) (by decide) (cm_X12_sets (v := 0) hr (by decide)) (fun m2 hm2 => ?_) | refine z_V2v dX12_weighsMoulds_24 ok_X12_sets lk_X12_63 (by first | rfl | assumption) rfl rfl (Nat.le_of_ble_eq_true rfl) (by decide) (cm_X12_sets (v := 1) hr (by decide)) (fun m2 hm2 => ?_)
      first | exact none (by omega) _ hm2.1 hm2.2 | exact some (by omega) _ hm2.1 hm2.2
    · refine z_iload_n dX12_weighsMoulds_13 rfl ?_
      refine z_bipush dX12_weighsMoulds_14 (by decide) ?_
      refine z_icmp_le 23 dX12_weighsMoulds_16 (by decide) (fun h16 => ?_) (fun h16 => ?_)
      · refine z_lconst (z := 1) dX12_weighsMoulds_23 rfl (by decide) ?_
        first | refine z_V2v dX12_weighsMoulds_24 ok_X12_sets lk_X12_63 (by first | rfl | assumption) rfl rfl (Nat.le_of_ble_eq_true rfl) (by decide) (cm_X12_sets (v := 0) hr (by decide)) (fun m2 hm2 => ?_) | refine z_V2v dX12_weighsMoulds_24 ok_X12_sets lk_X12_63 (by first | rfl | assumption) rfl rfl (Nat.le_of_ble_eq_true rfl) (by decide) (cm_X12_sets (v := 1) hr (by decide)) (fun m2 hm2 => ?_)
        first | exact none (by omega) _ hm2.1 hm2.2 | exact some (by omega) _ hm2.1 hm2.2
      · refine z_lconst (z := 0) dX12_weighsMoulds_19 rfl (by decide) ?_
        refine z_goto 24 dX12_weighsMoulds_20 (by decide) ?_
        first | refine z_V2v dX12_weighsMoulds_24 ok_X12_sets lk_X12_63 (by first | rfl | assumption) rfl rfl (Nat.le_of_ble_eq_true rfl) (by decide) (cm_X12_sets (v := 0) hr (by decide)) (fun m2 hm2 => ?_) | refine z_V2v dX12_weighsMoulds_24 ok_X12_sets lk_X12_63 (by first | rfl | assumption) rfl rfl (Nat.le_of_ble_eq_true rfl) (by decide) (cm_X12_sets (v := 1) hr (by decide)) (fun m2 hm2 => ?_)
        first | exact none (by omega) _ hm2.1 hm2.2 | exact some (by omega) _ hm2.1 hm2.2
def thN (nf : Nat) (fd : Nat → Nat → Int) (mk mny : Int) : Nat := wtM mny.toNat (bcN (mlM fd mk nf)) (mlC fd mk nf)
def thD (nf : Nat) (fd : Nat → Nat → Int) (mk : Int) : Nat := smR (bcN (mlM fd mk nf)) (mlC fd mk nf) 20
def thOk (mk mny : Int) : Prop := (0 ≤ mk ∧ mk ≤ 5) ∧ 0 ≤ mny ∧ mny ≤ 30
theorem cm_X11_thereAre {mk mny : Int} (hf : finC mem nf fd) (hr : finR nf fd) : CM X (0, 0) 4 mX11_thereAre G0 [vr 0, vi mk, vi mny] mem (pI G0 fun z m => (¬ thOk mk mny → z = -2 ∧ m = mem) ∧ (thOk mk mny → z = 1 ∧ lowF m (thN nf fd mk mny) (thD nf fd mk) ∧ onT7 mem m)) := by
  unfold thOk thN thD
  have hlt := mlM_lt (mk := mk) hr nf (Nat.le_refl nf)
  have hk := bcN_le20 hlt
  have hn := mlC_le fd mk nf
  have hnf := hf.1
  refine CM.of (by decide +kernel) 0 (Nat.le_of_ble_eq_true rfl) ?_
  show ZZ X (0, 0) 4 mX11_thereAre G0 0 [vr 0, vi mk, vi mny] [] mem _
  refine z_iload_n dX11_thereAre_0 rfl ?_
  refine z_iconst dX11_thereAre_1 (by decide) ?_
  refine z_iconst dX11_thereAre_2 (by decide) ?_
  refine z_S3i dX11_thereAre_3 ok_X11_within lk_X11_83 (Nat.le_of_ble_eq_true rfl) (by decide) (cm_X11_within) (fun z1 m1 hm1 => ?_)
  obtain ⟨hz1, rfl⟩ := hm1
  refine z_if_eq 19 dX11_thereAre_6 (by decide) (fun h6 => ?_) (fun h6 => ?_)
  · refine z_bipush dX11_thereAre_19 (by decide) ?_
    refine z_iret dX11_thereAre_21 rfl ?_
    exact ⟨rfl, _, rfl, fun _ => ⟨rfl, rfl⟩, fun q => by omega⟩
  · refine z_iload_n dX11_thereAre_9 rfl ?_
    refine z_iconst dX11_thereAre_10 (by decide) ?_
    refine z_bipush dX11_thereAre_11 (by decide) ?_
    refine z_S3i dX11_thereAre_13 ok_X11_within lk_X11_83 (Nat.le_of_ble_eq_true rfl) (by decide) (cm_X11_within) (fun z1 m1 hm1 => ?_)
    obtain ⟨hz2, rfl⟩ := hm1
    refine z_if_ne 22 dX11_thereAre_16 (by decide) (fun h16 => ?_) (fun h16 => ?_)
    · refine z_aload_n dX11_thereAre_22 rfl ?_
      refine z_getR (ty := .int) dX11_thereAre_23 fl_X11_33 (by first | rfl | assumption) rfl rfl ?_
      refine z_aload_n dX11_thereAre_26 rfl ?_
      refine z_getR (ty := .int) dX11_thereAre_27 fl_X11_10 (by first | rfl | assumption) rfl rfl ?_
      refine z_iload_n dX11_thereAre_30 rfl ?_
      refine z_V1i dX11_thereAre_31 ok_X3_withMould lk_X11_150 (by first | rfl | assumption) rfl rfl (Nat.le_of_ble_eq_true rfl) (by decide) (cm_X3_withMould hf) (fun z3 m3 hm3 => ?_)
      obtain ⟨rfl, rfl⟩ := hm3
      refine z_aload_n dX11_thereAre_34 rfl ?_
      refine z_getR (ty := .int) dX11_thereAre_35 fl_X11_10 (by first | rfl | assumption) rfl rfl ?_
      refine z_iload_n dX11_thereAre_38 rfl ?_
      refine z_V1i dX11_thereAre_39 ok_X3_unlikeMoulds lk_X11_153 (by first | rfl | assumption) rfl rfl (Nat.le_of_ble_eq_true rfl) (by decide) (cm_X3_unlikeMoulds hf hr) (fun z4 m4 hm4 => ?_)
      obtain ⟨rfl, rfl⟩ := hm4
      refine z_iload_n dX11_thereAre_42 rfl ?_
      refine z_aload_n dX11_thereAre_43 rfl ?_
      refine z_getR (ty := .int) dX11_thereAre_44 fl_X11_75 (by first | rfl | assumption) rfl rfl ?_
      refine z_V4v dX11_thereAre_47 ok_X7_share lk_X11_156 (by first | rfl | assumption) rfl rfl (Nat.le_of_ble_eq_true rfl) (by decide) (cm_X7_share (by omega) hk (by omega) (by omega)) (fun m5 hm5 => ?_)
      obtain ⟨g1, g2, g3⟩ := hm5
      refine z_iconst dX11_thereAre_50 (by decide) ?_
      refine z_iret dX11_thereAre_51 rfl ?_
      refine ⟨rfl, _, rfl, fun q => by omega, fun _ => ⟨rfl, ?_, g3⟩⟩
      generalize bcN (mlM fd mk nf) = k at *
      generalize mlC fd mk nf = n at *
      by_cases c : mny < max 1 (k : Int) ∨ 20 < mny
      · have e0 : wtM mny.toNat k n = 0 := if_neg (by omega)
        have h := g1 c
        have hp := smR_pos (n := n) hk
        unfold lowF at h ⊢
        rw [e0, Nat.gcd_zero_left, Nat.div_self hp, Nat.zero_div]
        exact h
      · have e0 : wtM mny.toNat k n = pwM mny.toNat k n := if_pos (by omega)
        rw [e0, smR_eq 20 (Nat.le_refl 20)]
        exact g2 c
    · refine z_bipush dX11_thereAre_19 (by decide) ?_
      refine z_iret dX11_thereAre_21 rfl ?_
      exact ⟨rfl, _, rfl, fun _ => ⟨rfl, rfl⟩, fun q => by omega⟩
theorem cm_X12_thereAre {mk mny : Int} (hf : finM mem nf fd) (hr : finR nf fd) : CM X (0, 0) 3 mX12_thereAre G0 [vr 88, vi mk, vi mny] mem (pI G0 fun z m => (¬ thOk mk mny → z = -2 ∧ m = mem) ∧ (thOk mk mny → z = 1 ∧ (regAt m 0 (thN nf fd mk mny / Nat.gcd (thN nf fd mk mny) (thD nf fd mk)) ∧ regAt m 1 (thD nf fd mk / Nat.gcd (thN nf fd mk mny) (thD nf fd mk))) ∧ on89 mem m)) := by
  unfold thOk thN thD
  have hlt := mlM_lt (mk := mk) hr nf (Nat.le_refl nf)
  have hk := bcN_le20 hlt
  have hn := mlC_le fd mk nf
  have hnf := hf.1
  have c0 := cm_X12_mouldsOf (X := X) (mk := mk) (wh := 0) hf hr
  have c1 := cm_X12_mouldsOf (X := X) (mk := mk) (wh := 1) hf hr
  rw [if_pos rfl] at c0
  rw [if_neg (by decide)] at c1
  generalize bcN (mlM fd mk nf) = k at *
  generalize mlC fd mk nf = n at *
  refine CM.of (by decide +kernel) 3 (Nat.le_of_ble_eq_true rfl) ?_
  show ZZ X (0, 0) 3 mX12_thereAre G0 0 [vr 88, vi mk, vi mny, vd, vd, vd] [] mem _
  have loop : (0 ≤ mk ∧ mk ≤ 5) ∧ 0 ≤ mny ∧ mny ≤ 30 → ∀ (d i : Nat) (m : Mem), i + d = 20 → regAt m 1 (smR k n i) → on89 mem m → ZZ X (0, 0) 3 mX12_thereAre G0 46 [vr 88, vi mk, vi mny, vi (n : Int), vi (k : Int), vi ((i : Int) + 1)] [] m (pI G0 fun z m => (¬ ((0 ≤ mk ∧ mk ≤ 5) ∧ 0 ≤ mny ∧ mny ≤ 30) → z = -2 ∧ m = mem) ∧ ((0 ≤ mk ∧ mk ≤ 5) ∧ 0 ≤ mny ∧ mny ≤ 30 → z = 1 ∧ (regAt m 0 (wtM mny.toNat k n / Nat.gcd (wtM mny.toNat k n) (smR k n 20)) ∧ regAt m 1 (smR k n 20 / Nat.gcd (wtM mny.toNat k n) (smR k n 20))) ∧ on89 mem m)) := by
    intro hc d
    induction d with
    | zero =>
      intro i m hi hv hon
      have : i = 20 := by omega
      subst this
      obtain ⟨M, rfl⟩ : ∃ M : Nat, mny = (M : Int) := ⟨mny.toNat, by omega⟩
      rw [Int.toNat_natCast]
      refine z_iload dX12_thereAre_46 rfl ?_
      refine z_bipush dX12_thereAre_48 (by decide) ?_
      refine z_icmp_gt 75 dX12_thereAre_50 (by decide) (fun h50 => ?_) (fun h50 => ?_)
      · refine z_aload_n dX12_thereAre_75 rfl ?_
        refine z_iconst dX12_thereAre_76 (by decide) ?_
        refine z_iload_n dX12_thereAre_77 rfl ?_
        refine z_iload_n dX12_thereAre_78 rfl ?_
        refine z_iload dX12_thereAre_79 rfl ?_
        refine z_V4v dX12_thereAre_81 ok_X12_weighsMoulds lk_X12_208 (by first | rfl | assumption) rfl rfl (Nat.le_of_ble_eq_true rfl) (by decide) (cm_X12_weighsMoulds (r := 0) (by decide) (by omega) hk (by omega)) (fun m2 hm2 => ?_)
        obtain ⟨n1, on1⟩ := hm2
        refine z_aload_n dX12_thereAre_84 rfl ?_
        refine z_V0v dX12_thereAre_85 ok_X12_lowers lk_X12_94 (by first | rfl | assumption) rfl rfl (Nat.le_of_ble_eq_true rfl) (by decide) (cm_X12_lowers n1 (hv.off on1 (by decide)) (smR_pos hk)) (fun m3 hm3 => ?_)
        refine z_iconst dX12_thereAre_88 (by decide) ?_
        refine z_iret dX12_thereAre_89 rfl ?_
        exact ⟨rfl, _, rfl, fun q => absurd hc q, fun _ => ⟨rfl, ⟨hm3.1, hm3.2.1⟩, (hon.tr on1.to).tr hm3.2.2⟩⟩
      · omega
    | succ d ih =>
      intro i m hi hv hon
      have hb := smR_le (k := k) (n := n) (by omega) hk (i + 1)
      refine z_iload dX12_thereAre_46 rfl ?_
      refine z_bipush dX12_thereAre_48 (by decide) ?_
      refine z_icmp_gt 75 dX12_thereAre_50 (by decide) (fun h50 => ?_) (fun h50 => ?_)
      · omega
      · refine z_aload_n dX12_thereAre_53 rfl ?_
        refine z_iconst dX12_thereAre_54 (by decide) ?_
        refine z_iload dX12_thereAre_55 rfl ?_
        refine z_iload_n dX12_thereAre_57 rfl ?_
        refine z_iload dX12_thereAre_58 rfl ?_
        rw [show (i : Int) + 1 = ((i + 1 : Nat) : Int) by omega]
        refine z_V4v dX12_thereAre_60 ok_X12_weighsMoulds lk_X12_208 (by first | rfl | assumption) rfl rfl (Nat.le_of_ble_eq_true rfl) (by decide) (cm_X12_weighsMoulds (r := 2) (by decide) (by omega) hk (by omega)) (fun m2 hm2 => ?_)
        obtain ⟨n1, on1⟩ := hm2
        refine z_aload_n dX12_thereAre_63 rfl ?_
        refine z_iconst dX12_thereAre_64 (by decide) ?_
        refine z_iconst dX12_thereAre_65 (by decide) ?_
        refine z_V2v dX12_thereAre_66 ok_X12_adds lk_X12_169 (by first | rfl | assumption) rfl rfl (Nat.le_of_ble_eq_true rfl) (by decide) (cm_X12_adds (r := 1) (s := 2) (by decide) (by decide) (by decide) (hv.off on1 (by decide)) n1 (Int.lt_of_lt_of_le (Int.lt_of_le_of_lt (Int.ofNat_le.mpr (Nat.le_trans hb (Nat.mul_le_mul_right cC (by omega : i + 1 ≤ 30)))) cC_s) zB65)) (fun m3 hm3 => ?_)
        obtain ⟨n2, on2⟩ := hm3
        refine z_iinc dX12_thereAre_69 rfl (by omega) (by decide) rfl ?_
        dsimp only [List.set]
        refine z_goto 46 dX12_thereAre_72 (by decide) ?_
        exact ih (i + 1) _ (by omega) n2 ((hon.tr on1.to).tr on2.to)
  refine z_iload_n dX12_thereAre_0 rfl ?_
  refine z_S1i dX12_thereAre_1 ok_X12_isMaker lk_X12_103 (Nat.le_of_ble_eq_true rfl) (by decide) (cm_X12_isMaker) (fun z1 m1 hm1 => ?_)
  obtain ⟨hz1, rfl⟩ := hm1
  refine z_if_eq 19 dX12_thereAre_4 (by decide) (fun h4 => ?_) (fun h4 => ?_)
  · refine z_bipush dX12_thereAre_19 (by decide) ?_
    refine z_iret dX12_thereAre_21 rfl ?_
    exact ⟨rfl, _, rfl, fun _ => ⟨rfl, rfl⟩, fun q => by omega⟩
  · refine z_iload_n dX12_thereAre_7 rfl ?_
    refine z_i2l dX12_thereAre_8 ?_
    refine z_lconst (z := 0) dX12_thereAre_9 rfl (by decide) ?_
    refine z_ldc2 (z := 30) dX12_thereAre_10 kc_X12_206 (by decide) ?_
    refine z_S3i dX12_thereAre_13 ok_X12_in lk_X12_97 (Nat.le_of_ble_eq_true rfl) (by decide) (cm_X12_in) (fun z1 m1 hm1 => ?_)
    obtain ⟨hz2, rfl⟩ := hm1
    refine z_if_ne 22 dX12_thereAre_16 (by decide) (fun h16 => ?_) (fun h16 => ?_)
    · refine z_aload_n dX12_thereAre_22 rfl ?_
      refine z_iload_n dX12_thereAre_23 rfl ?_
      refine z_iconst dX12_thereAre_24 (by decide) ?_
      refine z_V2i dX12_thereAre_25 ok_X12_mouldsOf lk_X12_202 (by first | rfl | assumption) rfl rfl (Nat.le_of_ble_eq_true rfl) (by decide) (c0) (fun z3 m3 hm3 => ?_)
      obtain ⟨rfl, rfl⟩ := hm3
      refine z_istore_n dX12_thereAre_28 (by decide) rfl ?_
      dsimp only [List.set]
      refine z_aload_n dX12_thereAre_29 rfl ?_
      refine z_iload_n dX12_thereAre_30 rfl ?_
      refine z_iconst dX12_thereAre_31 (by decide) ?_
      refine z_V2i dX12_thereAre_32 ok_X12_mouldsOf lk_X12_202 (by first | rfl | assumption) rfl rfl (Nat.le_of_ble_eq_true rfl) (by decide) (c1) (fun z4 m4 hm4 => ?_)
      obtain ⟨rfl, rfl⟩ := hm4
      refine z_istore dX12_thereAre_35 (by decide) rfl ?_
      dsimp only [List.set]
      refine z_aload_n dX12_thereAre_37 rfl ?_
      refine z_iconst dX12_thereAre_38 (by decide) ?_
      refine z_lconst (z := 0) dX12_thereAre_39 rfl (by decide) ?_
      refine z_V2v dX12_thereAre_40 ok_X12_sets lk_X12_63 (by first | rfl | assumption) rfl rfl (Nat.le_of_ble_eq_true rfl) (by decide) (cm_X12_sets (r := 1) (v := 0) (by decide) (by decide)) (fun m5 hm5 => ?_)
      refine z_iconst dX12_thereAre_43 (by decide) ?_
      refine z_istore dX12_thereAre_44 (by decide) rfl ?_
      dsimp only [List.set]
      exact loop (by omega) 20 0 _ (by omega) hm5.1 hm5.2.to
    · refine z_bipush dX12_thereAre_19 (by decide) ?_
      refine z_iret dX12_thereAre_21 rfl ?_
      exact ⟨rfl, _, rfl, fun _ => ⟨rfl, rfl⟩, fun q => by omega⟩
end There
