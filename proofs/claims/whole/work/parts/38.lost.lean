/-! ===== putRight, lost, count: both sides ===== -/
theorem mulB {x y A B : Int} (hx : 0 ≤ x) (hxA : x ≤ A) (hy : 0 ≤ y) (hyB : y ≤ B) : 0 ≤ x * y ∧ x * y ≤ A * B :=
  ⟨Int.mul_nonneg hx hy, Int.mul_le_mul hxA hyB hy (Int.le_trans hx hxA)⟩
def cntF (fd : Nat → Nat → Int) (f : Int) : Nat → Int
  | 0 => 0
  | n + 1 => cntF fd f n + (if fd 4 n = f ∧ fd 5 n = 0 then 1 else 0)
theorem cntF_bd {fd : Nat → Nat → Int} {f : Int} (n : Nat) : 0 ≤ cntF fd f n ∧ cntF fd f n ≤ (n : Int) := by
  induction n with
  | zero => exact ⟨Int.le_refl _, Int.le_refl _⟩
  | succ n ih =>
    show 0 ≤ cntF fd f n + (if fd 4 n = f ∧ fd 5 n = 0 then 1 else 0) ∧ cntF fd f n + (if fd 4 n = f ∧ fd 5 n = 0 then 1 else 0) ≤ _
    split <;> omega
def cntD (fd : Nat → Nat → Int) : Nat → Int
  | 0 => 0
  | n + 1 => cntD fd n + fd 5 n
def cntB (bk : Nat → Nat → Int) : Nat → Int
  | 0 => 0
  | n + 1 => cntB bk n + (if bk 0 n = -1 then 0 else 1)
theorem cntD_bd {nf : Nat} {fd : Nat → Nat → Int} (hr : finR nf fd) : ∀ n : Nat, n ≤ nf → 0 ≤ cntD fd n ∧ cntD fd n ≤ (n : Int)
  | 0, _ => ⟨Int.le_refl _, Int.le_refl _⟩
  | n + 1, h => by
    have := cntD_bd hr n (by omega)
    have := (hr n (by omega)).2.2.2.2.2
    show 0 ≤ cntD fd n + fd 5 n ∧ cntD fd n + fd 5 n ≤ _
    omega
def coA (nf : Nat) (fd bk : Nat → Nat → Int) (wh : Int) : Nat → Int
  | 0 => 0
  | i + 1 => coA nf fd bk wh i + (if wh = 1 ∧ i < nf then fd 5 i else if wh = 4 ∧ i < 6 ∧ ¬ bk 0 i = -1 then 1 else 0)
theorem coA_bd {nf : Nat} {fd bk : Nat → Nat → Int} {wh : Int} (hr : finR nf fd) (i : Nat) : 0 ≤ coA nf fd bk wh i ∧ coA nf fd bk wh i ≤ (i : Int) := by
  induction i with
  | zero => exact ⟨Int.le_refl _, Int.le_refl _⟩
  | succ i ih =>
    show 0 ≤ coA nf fd bk wh i + (if wh = 1 ∧ i < nf then fd 5 i else if wh = 4 ∧ i < 6 ∧ ¬ bk 0 i = -1 then 1 else 0) ∧ coA nf fd bk wh i + (if wh = 1 ∧ i < nf then fd 5 i else if wh = 4 ∧ i < 6 ∧ ¬ bk 0 i = -1 then 1 else 0) ≤ _
    split
    · rename_i h
      have := (hr i h.2).2.2.2.2.2
      omega
    · split <;> omega
theorem coA1 {nf : Nat} {fd bk : Nat → Nat → Int} (i : Nat) : coA nf fd bk 1 i = cntD fd (min i nf) := by
  induction i with
  | zero => rw [Nat.zero_min]; rfl
  | succ i ih =>
    show coA nf fd bk 1 i + (if (1 : Int) = 1 ∧ i < nf then fd 5 i else if (1 : Int) = 4 ∧ i < 6 ∧ ¬ bk 0 i = -1 then 1 else 0) = _
    rw [ih]
    by_cases h : i < nf
    · rw [if_pos ⟨rfl, h⟩, Nat.min_eq_left (by omega), Nat.min_eq_left (by omega)]; rfl
    · rw [if_neg (fun q => h q.2), if_neg (fun q => absurd q.1 (by decide)), Nat.min_eq_right (by omega), Nat.min_eq_right (by omega)]
      omega
theorem coA4 {nf : Nat} {fd bk : Nat → Nat → Int} (i : Nat) : coA nf fd bk 4 i = cntB bk (min i 6) := by
  induction i with
  | zero => rw [Nat.zero_min]; rfl
  | succ i ih =>
    show coA nf fd bk 4 i + (if (4 : Int) = 1 ∧ i < nf then fd 5 i else if (4 : Int) = 4 ∧ i < 6 ∧ ¬ bk 0 i = -1 then 1 else 0) = _
    rw [ih, if_neg (fun q => absurd q.1 (by decide))]
    by_cases h : i < 6
    · rw [Nat.min_eq_left (by omega), Nat.min_eq_left (by omega)]
      show _ = cntB bk i + (if bk 0 i = -1 then 0 else 1)
      by_cases q : bk 0 i = -1
      · rw [if_neg (fun w => w.2.2 q), if_pos q]
      · rw [if_pos ⟨rfl, h, q⟩, if_neg q]
    · rw [if_neg (fun q => h q.2.1), Nat.min_eq_right (by omega), Nat.min_eq_right (by omega)]
      omega
def cntA (nf nw np : Nat) (fd bk : Nat → Nat → Int) (wh : Int) : Int := if wh = 0 then (nf : Int) else if wh = 1 then cntD fd nf else if wh = 2 then (nw : Int) else if wh = 3 then (np : Int) else if wh = 4 then cntB bk 6 else -2
/-- what is lost, as a fraction not lowered -/
def lsN (nf : Nat) (fd fr : Nat → Nat → Int) (p : Int) : Nat → Int × Int
  | 0 => (0, 1)
  | f + 1 => if p = -1 ∨ p = (f : Int) then ((lsN nf fd fr p f).1 * fr 0 f + cntF fd (f : Int) nf * fr 1 f * (lsN nf fd fr p f).2, (lsN nf fd fr p f).2 * fr 0 f) else lsN nf fd fr p f
theorem lsN_bd {nf : Nat} {fd fr : Nat → Nat → Int} {p : Int} (hn : nf ≤ 60) (hfr : frR fr) : ∀ f : Nat, f ≤ 4 → (0 ≤ (lsN nf fd fr p f).1 ∧ (lsN nf fd fr p f).1 ≤ 60 * (f : Int) * 1000 ^ f) ∧ (1 ≤ (lsN nf fd fr p f).2 ∧ (lsN nf fd fr p f).2 ≤ 1000 ^ f)
  | 0, _ => ⟨⟨Int.le_refl _, Int.le_refl _⟩, Int.le_refl _, Int.le_refl _⟩
  | f + 1, h => by
    obtain ⟨⟨h1, h2⟩, h3, h4⟩ := lsN_bd (p := p) (fd := fd) hn hfr f (by omega)
    obtain ⟨a1, a2, a3⟩ := hfr f (by omega)
    have c := cntF_bd (fd := fd) (f := (f : Int)) nf
    have m1 := mulB h1 h2 (by omega : 0 ≤ fr 0 f) (by omega : fr 0 f ≤ 1000)
    have m2 := mulB c.1 (by omega : cntF fd (f : Int) nf ≤ 60) (by omega : 0 ≤ fr 1 f) a3
    have m3 := mulB m2.1 m2.2 (by omega : 0 ≤ (lsN nf fd fr p f).2) h4
    have m4 := mulB (by omega : 0 ≤ (lsN nf fd fr p f).2) h4 (by omega : 0 ≤ fr 0 f) (by omega : fr 0 f ≤ 1000)
    have m5 : 1 ≤ (lsN nf fd fr p f).2 * fr 0 f := Int.mul_pos (by omega) (by omega)
    have hB : (1000 : Int) ^ (f + 1) = 1000 ^ f * 1000 := Int.pow_succ _ _
    have hp : (0 : Int) < 1000 ^ f := Int.pow_pos (by decide)
    have e1 : 60 * (f : Int) * 1000 ^ f * 1000 + 60 * 1000 * 1000 ^ f = 60 * ((f + 1 : Nat) : Int) * (1000 ^ f * 1000) := by
      rw [Int.natCast_add]
      grind
    have e2 : 60 * ((f + 1 : Nat) : Int) * (1000 ^ f * 1000) = 60 * (f : Int) * 1000 ^ f * 1000 + 60 * 1000 * 1000 ^ f := e1.symm
    have hpos : 0 ≤ 60 * (f : Int) * 1000 ^ f := Int.mul_nonneg (by omega) (by omega)
    unfold lsN
    rw [hB]
    split
    · dsimp only
      rw [e2]
      refine ⟨⟨by omega, by omega⟩, m5, m4.2⟩
    · rw [e2]
      refine ⟨⟨h1, by omega⟩, h3, by omega⟩
theorem lsN_bn {nf : Nat} {fd fr : Nat → Nat → Int} {p : Int} (hn : nf ≤ 60) (hfr : frR fr) (f : Nat) (h : f ≤ 4) : (0 ≤ (lsN nf fd fr p f).1 ∧ (lsN nf fd fr p f).1 ≤ 240000000000000) ∧ (1 ≤ (lsN nf fd fr p f).2 ∧ (lsN nf fd fr p f).2 ≤ 1000000000000) ∧ (f < 4 → (lsN nf fd fr p f).1 ≤ 180000000000 ∧ (lsN nf fd fr p f).2 ≤ 1000000000) := by
  obtain ⟨⟨h1, h2⟩, h3, h4⟩ := lsN_bd (p := p) (fd := fd) hn hfr f h
  obtain rfl | rfl | rfl | rfl | rfl : f = 0 ∨ f = 1 ∨ f = 2 ∨ f = 3 ∨ f = 4 := by omega
  all_goals simp at h2 h4; omega
section OpsE
variable {X : Nat × (Int → Int)} {mem : Mem} {nf np nw : Nat} {fd pr fr bk : Nat → Nat → Int} {a b : Nat}
def prOk (a n : Int) : Prop := (0 ≤ a ∧ a ≤ 5) ∧ 0 ≤ n ∧ n ≤ 9999
theorem cm_X11_putRight {a n : Int} (hf : prC mem np pr) (hr : prR np pr) : CM X (0, 0) 3 mX11_putRight G0 [vr 0, vi a, vi n] mem (pI G0 fun z m => (¬ prOk a n → z = -2 ∧ m = mem) ∧ (prOk a n → sumA pr a (pr 1) np = 0 → z = -3 ∧ onS 68 4 7 mem m) ∧ (prOk a n → ¬ sumA pr a (pr 1) np = 0 → z = 1 ∧ lowC m (n * sumA pr a (pr 2) np) (sumA pr a (pr 1) np) ∧ (∀ x, x ≠ 68 → x < 80 ∨ 88 ≤ x → m x = mem x) ∧ ∀ j, j < 4 ∨ 7 < j → m 68 j = mem 68 j)) := by
  unfold prOk
  refine CM.of (by decide +kernel) 0 (Nat.le_of_ble_eq_true rfl) ?_
  show ZZ X (0, 0) 3 mX11_putRight G0 0 [vr 0, vi a, vi n] [] mem _
  refine z_iload_n dX11_putRight_0 rfl ?_
  refine z_iconst dX11_putRight_1 (by decide) ?_
  refine z_iconst dX11_putRight_2 (by decide) ?_
  refine z_S3i dX11_putRight_3 ok_X11_within lk_X11_83 (Nat.le_of_ble_eq_true rfl) (by decide) (cm_X11_within) (fun z1 m1 hm1 => ?_)
  obtain ⟨hz1, rfl⟩ := hm1
  refine z_if_eq 20 dX11_putRight_6 (by decide) (fun h6 => ?_) (fun h6 => ?_)
  · refine z_bipush dX11_putRight_20 (by decide) ?_
    refine z_iret dX11_putRight_22 rfl ?_
    exact ⟨rfl, _, rfl, fun _ => ⟨rfl, rfl⟩, fun q => by omega, fun q => by omega⟩
  · refine z_iload_n dX11_putRight_9 rfl ?_
    refine z_iconst dX11_putRight_10 (by decide) ?_
    refine z_sipush dX11_putRight_11 (by decide) ?_
    refine z_S3i dX11_putRight_14 ok_X11_within lk_X11_83 (Nat.le_of_ble_eq_true rfl) (by decide) (cm_X11_within) (fun z1 m1 hm1 => ?_)
    obtain ⟨hz2, rfl⟩ := hm1
    refine z_if_ne 23 dX11_putRight_17 (by decide) (fun h17 => ?_) (fun h17 => ?_)
    · refine z_aload_n dX11_putRight_23 rfl ?_
      refine z_getR (ty := .int) dX11_putRight_24 fl_X11_54 (by first | rfl | assumption) rfl rfl ?_
      refine z_iload_n dX11_putRight_27 rfl ?_
      refine z_V1v dX11_putRight_28 ok_X0_sumUp lk_X11_203 (by first | rfl | assumption) rfl rfl (Nat.le_of_ble_eq_true rfl) (by decide) (cm_X0_sumUp hf hr) (fun m2 hm2 => ?_)
      obtain ⟨hsm, hon⟩ := hm2
      have bd := hsm.bd hr
      have hnp := hf.1
      obtain ⟨e1, e2, e3, e4⟩ := hsm
      rw [← e2, ← e3]
      have mb := mulB (x := n) (A := 9999) (by omega) (by omega) bd.2.2.1.1 (by omega : m2 68 6 ≤ 199980)
      refine z_aload_n dX11_putRight_31 rfl ?_
      refine z_getR (ty := .int) dX11_putRight_32 fl_X11_54 (by first | rfl | assumption) rfl rfl ?_
      refine z_gJ 5 dX11_putRight_35 fl_X11_207 (by first | rfl | assumption) rfl rfl ?_
      refine z_lconst (z := 0) dX11_putRight_38 rfl (by decide) ?_
      refine z_lcmp dX11_putRight_39 ?_
      refine z_if_ne 46 dX11_putRight_40 (by decide) (fun h40 => ?_) (fun h40 => ?_)
      · rw [lc_eq] at h40
        refine z_aload_n dX11_putRight_46 rfl ?_
        refine z_getR (ty := .int) dX11_putRight_47 fl_X11_75 (by first | rfl | assumption) rfl rfl ?_
        refine z_iload_n dX11_putRight_50 rfl ?_
        refine z_i2l dX11_putRight_51 ?_
        refine z_aload_n dX11_putRight_52 rfl ?_
        refine z_getR (ty := .int) dX11_putRight_53 fl_X11_54 (by first | rfl | assumption) rfl rfl ?_
        refine z_gJ 6 dX11_putRight_56 fl_X11_214 (by first | rfl | assumption) rfl rfl ?_
        refine z_lmul dX11_putRight_59 (by omega) ?_
        refine z_aload_n dX11_putRight_60 rfl ?_
        refine z_getR (ty := .int) dX11_putRight_61 fl_X11_54 (by first | rfl | assumption) rfl rfl ?_
        refine z_gJ 5 dX11_putRight_64 fl_X11_207 (by first | rfl | assumption) rfl rfl ?_
        refine z_V2v dX11_putRight_67 ok_X4_become lk_X11_220 (by first | rfl | assumption) rfl rfl (Nat.le_of_ble_eq_true rfl) (by decide) (cm_become79 (by omega) (by omega) (by omega) (by omega)) (fun m3 hm3 => ?_)
        refine z_iconst dX11_putRight_70 (by decide) ?_
        refine z_iret dX11_putRight_71 rfl ?_
        exact ⟨rfl, _, rfl, fun q => by omega, fun _ q => by omega, fun _ _ => ⟨rfl, hm3.1, fun x h1 h2 => (hm3.2 x h2).trans (hon.1 x h1), fun j hj => (congrFun (hm3.2 68 (by decide)) j).trans (hon.2 j hj)⟩⟩
      · rw [lc_eq] at h40
        refine z_bipush dX11_putRight_43 (by decide) ?_
        refine z_iret dX11_putRight_45 rfl ?_
        exact ⟨rfl, _, rfl, fun q => by omega, fun _ _ => ⟨rfl, hon⟩, fun _ q => by omega⟩
    · refine z_bipush dX11_putRight_20 (by decide) ?_
      refine z_iret dX11_putRight_22 rfl ?_
      exact ⟨rfl, _, rfl, fun _ => ⟨rfl, rfl⟩, fun q => by omega, fun q => by omega⟩
theorem cm_X12_putRight {a n : Int} (hf : prM mem np pr) (hr : prR np pr) : CM X (0, 0) 4 mX12_putRight G0 [vr 88, vi a, vi n] mem (pI G0 fun z m => (¬ prOk a n → z = -2 ∧ m = mem) ∧ (prOk a n → sumA pr a (pr 1) np = 0 → z = -3 ∧ onS 88 32 35 mem m) ∧ (prOk a n → ¬ sumA pr a (pr 1) np = 0 → z = 1 ∧ lowM m (n * sumA pr a (pr 2) np) (sumA pr a (pr 1) np) ∧ (∀ x, x ≠ 88 → x ≠ 89 → x ≠ 90 → m x = mem x) ∧ ∀ j, j < 32 ∨ 35 < j → m 88 j = mem 88 j)) := by
  unfold prOk
  refine CM.of (by decide +kernel) 0 (Nat.le_of_ble_eq_true rfl) ?_
  show ZZ X (0, 0) 4 mX12_putRight G0 0 [vr 88, vi a, vi n] [] mem _
  refine z_iload_n dX12_putRight_0 rfl ?_
  refine z_S1i dX12_putRight_1 ok_X12_isMaker lk_X12_103 (Nat.le_of_ble_eq_true rfl) (by decide) (cm_X12_isMaker) (fun z1 m1 hm1 => ?_)
  obtain ⟨hz1, rfl⟩ := hm1
  refine z_if_eq 19 dX12_putRight_4 (by decide) (fun h4 => ?_) (fun h4 => ?_)
  · refine z_bipush dX12_putRight_19 (by decide) ?_
    refine z_iret dX12_putRight_21 rfl ?_
    exact ⟨rfl, _, rfl, fun _ => ⟨rfl, rfl⟩, fun q => by omega, fun q => by omega⟩
  · refine z_iload_n dX12_putRight_7 rfl ?_
    refine z_i2l dX12_putRight_8 ?_
    refine z_lconst (z := 0) dX12_putRight_9 rfl (by decide) ?_
    refine z_ldc2 (z := 9999) dX12_putRight_10 kc_X12_106 (by decide) ?_
    refine z_S3i dX12_putRight_13 ok_X12_in lk_X12_97 (Nat.le_of_ble_eq_true rfl) (by decide) (cm_X12_in) (fun z1 m1 hm1 => ?_)
    obtain ⟨hz2, rfl⟩ := hm1
    refine z_if_ne 22 dX12_putRight_16 (by decide) (fun h16 => ?_) (fun h16 => ?_)
    · refine z_aload_n dX12_putRight_22 rfl ?_
      refine z_iload_n dX12_putRight_23 rfl ?_
      refine z_V1v dX12_putRight_24 ok_X12_sums lk_X12_301 (by first | rfl | assumption) rfl rfl (Nat.le_of_ble_eq_true rfl) (by decide) (cm_X12_sums hf hr) (fun m2 hm2 => ?_)
      obtain ⟨hsm, hon⟩ := hm2
      have bd := hsm.bd hr
      have hnp := hf.1
      obtain ⟨e1, e2, e3, e4⟩ := hsm
      rw [← e2, ← e3]
      have mb := mulB (x := n) (A := 9999) (by omega) (by omega) bd.2.2.1.1 (by omega : m2 88 33 ≤ 199980)
      refine z_aload_n dX12_putRight_27 rfl ?_
      refine z_gJ 32 dX12_putRight_28 fl_X12_288 (by first | rfl | assumption) rfl rfl ?_
      refine z_lconst (z := 0) dX12_putRight_31 rfl (by decide) ?_
      refine z_lcmp dX12_putRight_32 ?_
      refine z_if_ne 41 dX12_putRight_33 (by decide) (fun h33 => ?_) (fun h33 => ?_)
      · rw [lc_eq] at h33
        refine z_aload_n dX12_putRight_41 rfl ?_
        refine z_iload_n dX12_putRight_42 rfl ?_
        refine z_i2l dX12_putRight_43 ?_
        refine z_aload_n dX12_putRight_44 rfl ?_
        refine z_gJ 33 dX12_putRight_45 fl_X12_292 (by first | rfl | assumption) rfl rfl ?_
        refine z_lmul dX12_putRight_48 (by omega) ?_
        refine z_aload_n dX12_putRight_49 rfl ?_
        refine z_gJ 32 dX12_putRight_50 fl_X12_288 (by first | rfl | assumption) rfl rfl ?_
        refine z_V2i dX12_putRight_53 ok_X12_tells lk_X12_281 (by first | rfl | assumption) rfl rfl (Nat.le_of_ble_eq_true rfl) (by decide) (cm_tellsI (by omega) (by omega) (by omega) (by omega)) (fun z3 m3 hm3 => ?_)
        refine z_iret dX12_putRight_56 rfl ?_
        first | exact ⟨rfl, _, rfl, fun q => by omega, fun _ _ => ⟨rfl, hon⟩, fun _ q => by omega⟩ | exact ⟨rfl, _, rfl, fun q => by omega, fun _ q => by omega, fun _ _ => ⟨hm3.1, ⟨hm3.2.1, hm3.2.2.1⟩, fun x h1 h2 h3 => (hm3.2.2.2 x h2 h3).trans (hon.1 x h1), fun j hj => (congrFun (hm3.2.2.2 88 (by decide) (by decide)) j).trans (hon.2 j hj)⟩⟩
      · rw [lc_eq] at h33
        refine z_bipush dX12_putRight_36 (by decide) ?_
        refine z_goto 56 dX12_putRight_38 (by decide) ?_
        refine z_iret dX12_putRight_56 rfl ?_
        first | exact ⟨rfl, _, rfl, fun q => by omega, fun _ _ => ⟨rfl, hon⟩, fun _ q => by omega⟩ | exact ⟨rfl, _, rfl, fun q => by omega, fun _ q => by omega, fun _ _ => ⟨hm3.1, ⟨hm3.2.1, hm3.2.2.1⟩, fun x h1 h2 h3 => (hm3.2.2.2 x h2 h3).trans (hon.1 x h1), fun j hj => (congrFun (hm3.2.2.2 88 (by decide) (by decide)) j).trans (hon.2 j hj)⟩⟩
    · refine z_bipush dX12_putRight_19 (by decide) ?_
      refine z_iret dX12_putRight_21 rfl ?_
      exact ⟨rfl, _, rfl, fun _ => ⟨rfl, rfl⟩, fun q => by omega, fun q => by omega⟩
theorem cm_X3_foundAt {f : Int} (hf : finC mem nf fd) : CM X (0, 0) 0 mX3_foundAt G0 [vr 1, vi f] mem (pI G0 fun z m => z = cntF fd f nf ∧ m = mem) := by
  obtain ⟨hn, hs, hrow, hz⟩ := hf
  refine CM.of (by decide +kernel) 2 (Nat.le_of_ble_eq_true rfl) ?_
  show ZZ X (0, 0) 0 mX3_foundAt G0 0 [vr 1, vi f, vd, vd] [] mem _
  have loop : ∀ (d i : Nat), i + d = nf → ZZ X (0, 0) 0 mX3_foundAt G0 4 [vr 1, vi f, vi (cntF fd f i), vi (i : Int)] [] mem (pI G0 fun z m => z = cntF fd f nf ∧ m = mem) := by
    intro d
    induction d with
    | zero =>
      intro i hi
      have : i = nf := by omega
      subst this
      refine z_iload_n dX3_foundAt_4 rfl ?_
      refine z_aload_n dX3_foundAt_5 rfl ?_
      refine z_gI 6 dX3_foundAt_6 fl_X3_31 (by first | rfl | assumption) rfl rfl ?_
      rw [hs]
      refine z_icmp_ge 40 dX3_foundAt_9 (by decide) (fun h9 => ?_) (fun h9 => ?_)
      · refine z_iload_n dX3_foundAt_40 rfl ?_
        refine z_iret dX3_foundAt_41 rfl ?_
        exact ⟨rfl, _, rfl, rfl, rfl⟩
      · omega
    | succ d ih =>
      intro i hi
      have r4 : mem 6 (i : Int) = fd 4 i := hrow 4 i (by decide) (by omega)
      have r5 : mem 7 (i : Int) = fd 5 i := hrow 5 i (by decide) (by omega)
      have bd := cntF_bd (fd := fd) (f := f) i
      have ih' := ih (i + 1) (by omega)
      refine z_iload_n dX3_foundAt_4 rfl ?_
      refine z_aload_n dX3_foundAt_5 rfl ?_
      refine z_gI 6 dX3_foundAt_6 fl_X3_31 (by first | rfl | assumption) rfl rfl ?_
      rw [hs]
      refine z_icmp_ge 40 dX3_foundAt_9 (by decide) (fun h9 => ?_) (fun h9 => ?_)
      · omega
      · refine z_aload_n dX3_foundAt_12 rfl ?_
        refine z_getR (ty := .int) dX3_foundAt_13 fl_X3_24 (by first | rfl | assumption) rfl rfl ?_
        refine z_iload_n dX3_foundAt_16 rfl ?_
        refine z_iald dX3_foundAt_17 (by first | rfl | assumption) (by omega) (by omega) ?_
        rw [r4]
        refine z_iload_n dX3_foundAt_18 rfl ?_
        refine z_icmp_ne 34 dX3_foundAt_19 (by decide) (fun h19 => ?_) (fun h19 => ?_)
        · refine z_iinc dX3_foundAt_34 rfl (by omega) (by decide) rfl ?_
          dsimp only [List.set]
          refine z_goto 4 dX3_foundAt_37 (by decide) ?_
          first | (have e : cntF fd f (i + 1) = cntF fd f i + 1 := by show cntF fd f i + (if fd 4 i = f ∧ fd 5 i = 0 then 1 else 0) = _; rw [if_pos (by omega)]) | (have e : cntF fd f (i + 1) = cntF fd f i := by show cntF fd f i + (if fd 4 i = f ∧ fd 5 i = 0 then 1 else 0) = _; rw [if_neg (by omega)]; omega)
          rw [e] at ih'
          exact ih'
        · refine z_aload_n dX3_foundAt_22 rfl ?_
          refine z_getR (ty := .int) dX3_foundAt_23 fl_X3_27 (by first | rfl | assumption) rfl rfl ?_
          refine z_iload_n dX3_foundAt_26 rfl ?_
          refine z_zald dX3_foundAt_27 (by first | rfl | assumption) (by omega) (by omega) (fun h27 => ?_)
          rw [r5] at h27 ⊢
          refine z_if_ne 34 dX3_foundAt_28 (by decide) (fun h28 => ?_) (fun h28 => ?_)
          · refine z_iinc dX3_foundAt_34 rfl (by omega) (by decide) rfl ?_
            dsimp only [List.set]
            refine z_goto 4 dX3_foundAt_37 (by decide) ?_
            first | (have e : cntF fd f (i + 1) = cntF fd f i + 1 := by show cntF fd f i + (if fd 4 i = f ∧ fd 5 i = 0 then 1 else 0) = _; rw [if_pos (by omega)]) | (have e : cntF fd f (i + 1) = cntF fd f i := by show cntF fd f i + (if fd 4 i = f ∧ fd 5 i = 0 then 1 else 0) = _; rw [if_neg (by omega)]; omega)
            rw [e] at ih'
            exact ih'
          · refine z_iinc dX3_foundAt_31 rfl (by omega) (by decide) rfl ?_
            dsimp only [List.set]
            refine z_iinc dX3_foundAt_34 rfl (by omega) (by decide) rfl ?_
            dsimp only [List.set]
            refine z_goto 4 dX3_foundAt_37 (by decide) ?_
            first | (have e : cntF fd f (i + 1) = cntF fd f i + 1 := by show cntF fd f i + (if fd 4 i = f ∧ fd 5 i = 0 then 1 else 0) = _; rw [if_pos (by omega)]) | (have e : cntF fd f (i + 1) = cntF fd f i := by show cntF fd f i + (if fd 4 i = f ∧ fd 5 i = 0 then 1 else 0) = _; rw [if_neg (by omega)]; omega)
            rw [e] at ih'
            exact ih'
  refine z_iconst dX3_foundAt_0 (by decide) ?_
  refine z_istore_n dX3_foundAt_1 (by decide) rfl ?_
  dsimp only [List.set]
  refine z_iconst dX3_foundAt_2 (by decide) ?_
  refine z_istore_n dX3_foundAt_3 (by decide) rfl ?_
  dsimp only [List.set]
  exact loop nf 0 (by omega)
theorem cm_X3_allDoubted (hf : finC mem nf fd) (hr : finR nf fd) : CM X (0, 0) 0 mX3_allDoubted G0 [vr 1] mem (pI G0 fun z m => z = cntD fd nf ∧ m = mem) := by
  obtain ⟨hn, hs, hrow, hz⟩ := hf
  refine CM.of (by decide +kernel) 2 (Nat.le_of_ble_eq_true rfl) ?_
  show ZZ X (0, 0) 0 mX3_allDoubted G0 0 [vr 1, vd, vd] [] mem _
  have loop : ∀ (d i : Nat), i + d = nf → ZZ X (0, 0) 0 mX3_allDoubted G0 4 [vr 1, vi (cntD fd i), vi (i : Int)] [] mem (pI G0 fun z m => z = cntD fd nf ∧ m = mem) := by
    intro d
    induction d with
    | zero =>
      intro i hi
      have : i = nf := by omega
      subst this
      refine z_iload_n dX3_allDoubted_4 rfl ?_
      refine z_aload_n dX3_allDoubted_5 rfl ?_
      refine z_gI 6 dX3_allDoubted_6 fl_X3_31 (by first | rfl | assumption) rfl rfl ?_
      rw [hs]
      refine z_icmp_ge 30 dX3_allDoubted_9 (by decide) (fun h9 => ?_) (fun h9 => ?_)
      · refine z_iload_n dX3_allDoubted_30 rfl ?_
        refine z_iret dX3_allDoubted_31 rfl ?_
        exact ⟨rfl, _, rfl, rfl, rfl⟩
      · omega
    | succ d ih =>
      intro i hi
      have r5 : mem 7 (i : Int) = fd 5 i := hrow 5 i (by decide) (by omega)
      have bd := cntD_bd hr i (by omega)
      have b5 := (hr i (by omega)).2.2.2.2.2
      have ih' := ih (i + 1) (by omega)
      refine z_iload_n dX3_allDoubted_4 rfl ?_
      refine z_aload_n dX3_allDoubted_5 rfl ?_
      refine z_gI 6 dX3_allDoubted_6 fl_X3_31 (by first | rfl | assumption) rfl rfl ?_
      rw [hs]
      refine z_icmp_ge 30 dX3_allDoubted_9 (by decide) (fun h9 => ?_) (fun h9 => ?_)
      · omega
      · refine z_aload_n dX3_allDoubted_12 rfl ?_
        refine z_getR (ty := .int) dX3_allDoubted_13 fl_X3_27 (by first | rfl | assumption) rfl rfl ?_
        refine z_iload_n dX3_allDoubted_16 rfl ?_
        refine z_zald dX3_allDoubted_17 (by first | rfl | assumption) (by omega) (by omega) (fun h17 => ?_)
        rw [r5] at h17 ⊢
        refine z_if_eq 24 dX3_allDoubted_18 (by decide) (fun h18 => ?_) (fun h18 => ?_)
        · refine z_iinc dX3_allDoubted_24 rfl (by omega) (by decide) rfl ?_
          dsimp only [List.set]
          refine z_goto 4 dX3_allDoubted_27 (by decide) ?_
          first | (have e : cntD fd (i + 1) = cntD fd i + 1 := by show cntD fd i + fd 5 i = _; omega) | (have e : cntD fd (i + 1) = cntD fd i := by show cntD fd i + fd 5 i = _; omega)
          rw [e] at ih'
          exact ih'
        · refine z_iinc dX3_allDoubted_21 rfl (by omega) (by decide) rfl ?_
          dsimp only [List.set]
          refine z_iinc dX3_allDoubted_24 rfl (by omega) (by decide) rfl ?_
          dsimp only [List.set]
          refine z_goto 4 dX3_allDoubted_27 (by decide) ?_
          first | (have e : cntD fd (i + 1) = cntD fd i + 1 := by show cntD fd i + fd 5 i = _; omega) | (have e : cntD fd (i + 1) = cntD fd i := by show cntD fd i + fd 5 i = _; omega)
          rw [e] at ih'
          exact ih'
  refine z_iconst dX3_allDoubted_0 (by decide) ?_
  refine z_istore_n dX3_allDoubted_1 (by decide) rfl ?_
  dsimp only [List.set]
  refine z_iconst dX3_allDoubted_2 (by decide) ?_
  refine z_istore_n dX3_allDoubted_3 (by decide) rfl ?_
  dsimp only [List.set]
  exact loop nf 0 (by omega)
theorem cm_X1_has {j : Nat} (hf : bkC mem bk) (hj : j < 6) : CM X (0, 0) 0 mX1_has G0 [vr 75, vi (j : Int)] mem (pI G0 fun z m => bT z (¬ bk 0 j = -1) ∧ m = mem) := by
  have r0 : mem 76 (j : Int) = bk 0 j := hf 0 j (by decide) hj
  refine CM.of (by decide +kernel) 0 (Nat.le_of_ble_eq_true rfl) ?_
  show ZZ X (0, 0) 0 mX1_has G0 0 [vr 75, vi (j : Int)] [] mem _
  refine z_aload_n dX1_has_0 rfl ?_
  refine z_getR (ty := .int) dX1_has_1 fl_X1_9 (by first | rfl | assumption) rfl rfl ?_
  refine z_iload_n dX1_has_4 rfl ?_
  refine z_iald dX1_has_5 (by first | rfl | assumption) (by omega) (by omega) ?_
  rw [r0]
  refine z_iconst dX1_has_6 (by decide) ?_
  refine z_icmp_eq 14 dX1_has_7 (by decide) (fun h7 => ?_) (fun h7 => ?_)
  · refine z_iconst dX1_has_14 (by decide) ?_
    refine z_zret dX1_has_15 rfl (by first | exact Or.inl rfl | exact Or.inr rfl | assumption | (split <;> simp) | omega) ?_
    first | exact ⟨rfl, _, rfl, Or.inl ⟨rfl, h7⟩, rfl⟩ | exact ⟨rfl, _, rfl, Or.inr ⟨rfl, h7⟩, rfl⟩ | exact ⟨rfl, _, rfl, by unfold bT; omega, rfl⟩
  · refine z_iconst dX1_has_10 (by decide) ?_
    refine z_goto 15 dX1_has_11 (by decide) ?_
    refine z_zret dX1_has_15 rfl (by first | exact Or.inl rfl | exact Or.inr rfl | assumption | (split <;> simp) | omega) ?_
    first | exact ⟨rfl, _, rfl, Or.inl ⟨rfl, h7⟩, rfl⟩ | exact ⟨rfl, _, rfl, Or.inr ⟨rfl, h7⟩, rfl⟩ | exact ⟨rfl, _, rfl, by unfold bT; omega, rfl⟩
theorem cntB_bd (n : Nat) : 0 ≤ cntB bk n ∧ cntB bk n ≤ (n : Int) := by
  induction n with
  | zero => exact ⟨Int.le_refl _, Int.le_refl _⟩
  | succ n ih =>
    show 0 ≤ cntB bk n + (if bk 0 n = -1 then 0 else 1) ∧ cntB bk n + (if bk 0 n = -1 then 0 else 1) ≤ _
    split <;> omega
theorem cm_X1_written (hf : bkC mem bk) : CM X (0, 0) 1 mX1_written G0 [vr 75] mem (pI G0 fun z m => z = cntB bk 6 ∧ m = mem) := by
  refine CM.of (by decide +kernel) 2 (Nat.le_of_ble_eq_true rfl) ?_
  show ZZ X (0, 0) 1 mX1_written G0 0 [vr 75, vd, vd] [] mem _
  have loop : ∀ (d i : Nat), i + d = 6 → ZZ X (0, 0) 1 mX1_written G0 4 [vr 75, vi (cntB bk i), vi (i : Int)] [] mem (pI G0 fun z m => z = cntB bk 6 ∧ m = mem) := by
    intro d
    induction d with
    | zero =>
      intro i hi
      have : i = 6 := by omega
      subst this
      refine z_iload_n dX1_written_4 rfl ?_
      refine z_bipush dX1_written_5 (by decide) ?_
      refine z_icmp_ge 27 dX1_written_7 (by decide) (fun h7 => ?_) (fun h7 => ?_)
      · refine z_iload_n dX1_written_27 rfl ?_
        refine z_iret dX1_written_28 rfl ?_
        exact ⟨rfl, _, rfl, rfl, rfl⟩
      · omega
    | succ d ih =>
      intro i hi
      have bd := cntB_bd (bk := bk) i
      have ih' := ih (i + 1) (by omega)
      refine z_iload_n dX1_written_4 rfl ?_
      refine z_bipush dX1_written_5 (by decide) ?_
      refine z_icmp_ge 27 dX1_written_7 (by decide) (fun h7 => ?_) (fun h7 => ?_)
      · omega
      · refine z_aload_n dX1_written_10 rfl ?_
        refine z_iload_n dX1_written_11 rfl ?_
        refine z_V1i dX1_written_12 ok_X1_has lk_X1_27 (by first | rfl | assumption) rfl rfl (Nat.le_of_ble_eq_true rfl) (by decide) (cm_X1_has (j := i) hf (by omega)) (fun z1 m1 hm1 => ?_)
        obtain ⟨hz1, rfl⟩ := hm1
        refine z_if_eq 21 dX1_written_15 (by decide) (fun h15 => ?_) (fun h15 => ?_)
        · refine z_iinc dX1_written_21 rfl (by omega) (by decide) rfl ?_
          dsimp only [List.set]
          refine z_goto 4 dX1_written_24 (by decide) ?_
          first | (have e : cntB bk (i + 1) = cntB bk i + 1 := by show cntB bk i + (if bk 0 i = -1 then 0 else 1) = _; rw [if_neg (by omega)]) | (have e : cntB bk (i + 1) = cntB bk i := by show cntB bk i + (if bk 0 i = -1 then 0 else 1) = _; rw [if_pos (by omega)]; omega)
          rw [e] at ih'
          exact ih'
        · refine z_iinc dX1_written_18 rfl (by omega) (by decide) rfl ?_
          dsimp only [List.set]
          refine z_iinc dX1_written_21 rfl (by omega) (by decide) rfl ?_
          dsimp only [List.set]
          refine z_goto 4 dX1_written_24 (by decide) ?_
          first | (have e : cntB bk (i + 1) = cntB bk i + 1 := by show cntB bk i + (if bk 0 i = -1 then 0 else 1) = _; rw [if_neg (by omega)]) | (have e : cntB bk (i + 1) = cntB bk i := by show cntB bk i + (if bk 0 i = -1 then 0 else 1) = _; rw [if_pos (by omega)]; omega)
          rw [e] at ih'
          exact ih'
  refine z_iconst dX1_written_0 (by decide) ?_
  refine z_istore_n dX1_written_1 (by decide) rfl ?_
  dsimp only [List.set]
  refine z_iconst dX1_written_2 (by decide) ?_
  refine z_istore_n dX1_written_3 (by decide) rfl ?_
  dsimp only [List.set]
  exact loop 6 0 (by omega)
end OpsE
