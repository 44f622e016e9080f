/-! ===== agents: both sides ===== -/
def sumA (pr : Nat → Nat → Int) (a : Int) (g : Nat → Int) : Nat → Int
  | 0 => 0
  | n + 1 => sumA pr a g n + (if pr 0 n = a then g n else 0)
def absI (x : Int) : Int := if 0 ≤ x then x else -x
def gOff (pr : Nat → Nat → Int) (i : Nat) : Int := absI (pr 1 i - pr 2 i)
theorem sumA_bd {pr : Nat → Nat → Int} {a : Int} {g : Nat → Int} {n : Nat} (h : ∀ i, i < n → 0 ≤ g i ∧ g i ≤ 9999) : 0 ≤ sumA pr a g n ∧ sumA pr a g n ≤ 9999 * (n : Int) := by
  induction n with
  | zero => exact ⟨Int.le_refl _, show (0 : Int) ≤ 9999 * 0 by decide⟩
  | succ n ih =>
    have := ih fun i hi => h i (by omega)
    have := h n (by omega)
    show 0 ≤ sumA pr a g n + (if pr 0 n = a then g n else 0) ∧ sumA pr a g n + (if pr 0 n = a then g n else 0) ≤ _
    split <;> omega
def sums (pr : Nat → Nat → Int) (a : Int) (n : Nat) (p s t o : Int) : Prop := p = sumA pr a (fun _ => 1) n ∧ s = sumA pr a (pr 1) n ∧ t = sumA pr a (pr 2) n ∧ o = sumA pr a (gOff pr) n
theorem sums.skip {pr : Nat → Nat → Int} {a : Int} {n : Nat} {p s t o : Int} (h : sums pr a n p s t o) (q : ¬ pr 0 n = a) : sums pr a (n + 1) p s t o := by
  unfold sums at *
  simp only [sumA, if_neg q, Int.add_zero]
  exact h
theorem sums.take {pr : Nat → Nat → Int} {a : Int} {n : Nat} {p s t o p' s' t' o' : Int} (h : sums pr a n p s t o) (q : pr 0 n = a) (hp : p' = p + 1) (hs : s' = s + pr 1 n) (ht : t' = t + pr 2 n) (ho : o' = o + gOff pr n) : sums pr a (n + 1) p' s' t' o' := by
  unfold sums at *
  simp only [sumA, if_pos q]
  obtain ⟨rfl, rfl, rfl, rfl⟩ := h
  exact ⟨hp, hs, ht, ho⟩
theorem sums.bd {pr : Nat → Nat → Int} {a : Int} {n : Nat} {p s t o : Int} (h : sums pr a n p s t o) (hr : prR n pr) : (0 ≤ p ∧ p ≤ 9999 * (n : Int)) ∧ (0 ≤ s ∧ s ≤ 9999 * (n : Int)) ∧ (0 ≤ t ∧ t ≤ 9999 * (n : Int)) ∧ (0 ≤ o ∧ o ≤ 9999 * (n : Int)) := by
  obtain ⟨rfl, rfl, rfl, rfl⟩ := h
  refine ⟨sumA_bd fun i _ => ⟨by decide, by decide⟩, sumA_bd fun i hi => (hr i hi).2.1, sumA_bd fun i hi => (hr i hi).2.2, sumA_bd fun i hi => ?_⟩
  have := hr i hi
  unfold gOff absI
  split <;> omega
theorem sumA_z {pr : Nat → Nat → Int} {a : Int} {g : Nat → Int} {n : Nat} (hr : ∀ i, i < n → 0 ≤ g i ∧ g i ≤ 9999) (h : sumA pr a (fun _ => 1) n = 0) : sumA pr a g n = 0 := by
  induction n with
  | zero => rfl
  | succ n ih =>
    have h' : sumA pr a (fun _ => 1) n + (if pr 0 n = a then 1 else 0) = 0 := h
    have := sumA_bd (pr := pr) (a := a) (n := n) (g := fun _ => 1) fun i _ => ⟨by decide, by decide⟩
    show sumA pr a g n + (if pr 0 n = a then g n else 0) = 0
    by_cases q : pr 0 n = a
    · rw [if_pos q] at h'; omega
    · rw [if_neg q] at h' ⊢
      have := ih (fun i hi => hr i (by omega)) (by omega)
      omega
/-- only some slots of one object have changed -/
def onS (o : Nat) (lo hi : Int) (mem m : Mem) : Prop := (∀ x, x ≠ o → m x = mem x) ∧ ∀ j, j < lo ∨ hi < j → m o j = mem o j
theorem onS.rf {o : Nat} {lo hi : Int} {m : Mem} : onS o lo hi m m := ⟨fun _ _ => rfl, fun _ _ => rfl⟩
theorem onS.set {o : Nat} {lo hi j v : Int} {mem m : Mem} (h : onS o lo hi mem m) (h1 : lo ≤ j) (h2 : j ≤ hi) : onS o lo hi mem (mset m o j v) :=
  ⟨fun x hx => (mset_ne _ hx _ _).trans (h.1 x hx), fun i hi => (mset_nej _ _ (by omega) _).trans (h.2 i hi)⟩
section OpsD
variable {X : Nat × (Int → Int)} {mem : Mem} {nf np : Nat} {fd pr fr bk : Nat → Nat → Int} {a b : Nat}
theorem cm_X0_sumUp {a : Int} (hf : prC mem np pr) (hr : prR np pr) : CM X (0, 0) 1 mX0_sumUp G0 [vr 68, vi a] mem (pV G0 fun m => sums pr a np (m 68 4) (m 68 5) (m 68 6) (m 68 7) ∧ onS 68 4 7 mem m) := by
  obtain ⟨hn, hs, hrow⟩ := hf
  refine CM.of (by decide +kernel) 1 (Nat.le_of_ble_eq_true rfl) ?_
  show ZZ X (0, 0) 1 mX0_sumUp G0 0 [vr 68, vi a, vd] [] mem _
  have loop : ∀ (d i : Nat) (m : Mem), i + d = np → sums pr a i (m 68 4) (m 68 5) (m 68 6) (m 68 7) → onS 68 4 7 mem m → ZZ X (0, 0) 1 mX0_sumUp G0 22 [vr 68, vi a, vi (i : Int)] [] m (pV G0 fun m => sums pr a np (m 68 4) (m 68 5) (m 68 6) (m 68 7) ∧ onS 68 4 7 mem m) := by
    intro d
    induction d with
    | zero =>
      intro i m hi hsm hon
      have e3 : m 68 3 = (np : Int) := (hon.2 3 (by decide)).trans hs
      have : i = np := by omega
      subst this
      refine z_iload_n dX0_sumUp_22 rfl ?_
      refine z_aload_n dX0_sumUp_23 rfl ?_
      refine z_gI 3 dX0_sumUp_24 fl_X0_21 (by first | rfl | assumption) rfl rfl ?_
      rw [e3]
      refine z_icmp_ge 114 dX0_sumUp_27 (by decide) (fun h27 => ?_) (fun h27 => ?_)
      · refine z_vret dX0_sumUp_114 rfl ?_
        exact ⟨rfl, rfl, hsm, hon⟩
      · omega
    | succ d ih =>
      intro i m hi hsm hon
      have e3 : m 68 3 = (np : Int) := (hon.2 3 (by decide)).trans hs
      have r0 : m 69 (i : Int) = pr 0 i := (congrFun (hon.1 69 (by decide)) _).trans (hrow 0 i (by decide) (by omega))
      have r1 : m 70 (i : Int) = pr 1 i := (congrFun (hon.1 70 (by decide)) _).trans (hrow 1 i (by decide) (by omega))
      have r2 : m 71 (i : Int) = pr 2 i := (congrFun (hon.1 71 (by decide)) _).trans (hrow 2 i (by decide) (by omega))
      have bd := hsm.bd (fun j hj => hr j (by omega))
      have b1 := hr i (by omega)
      refine z_iload_n dX0_sumUp_22 rfl ?_
      refine z_aload_n dX0_sumUp_23 rfl ?_
      refine z_gI 3 dX0_sumUp_24 fl_X0_21 (by first | rfl | assumption) rfl rfl ?_
      rw [e3]
      refine z_icmp_ge 114 dX0_sumUp_27 (by decide) (fun h27 => ?_) (fun h27 => ?_)
      · omega
      · refine z_aload_n dX0_sumUp_30 rfl ?_
        refine z_getR (ty := .int) dX0_sumUp_31 fl_X0_11 (by first | rfl | assumption) rfl rfl ?_
        refine z_iload_n dX0_sumUp_34 rfl ?_
        refine z_iald dX0_sumUp_35 (by first | rfl | assumption) (by omega) (by omega) ?_
        rw [r0]
        refine z_iload_n dX0_sumUp_36 rfl ?_
        refine z_icmp_ne 108 dX0_sumUp_37 (by decide) (fun h37 => ?_) (fun h37 => ?_)
        · have hno := h37
          refine z_iinc dX0_sumUp_108 rfl (by omega) (by decide) rfl ?_
          dsimp only [List.set]
          refine z_goto 22 dX0_sumUp_111 (by decide) ?_
          first | exact ih (i + 1) _ (by omega) (hsm.skip hno) hon | refine ih (i + 1) _ (by omega) (hsm.take h37 ?_ ?_ ?_ ?_) ((((hon.set (by decide) (by decide)).set (by decide) (by decide)).set (by decide) (by decide)).set (by decide) (by decide))
          all_goals first | done | (rw [mset_nej _ _ (by decide), mset_nej _ _ (by decide), mset_nej _ _ (by decide), mset_eq]; done) | (rw [mset_nej _ _ (by decide), mset_nej _ _ (by decide), mset_eq]; done) | (rw [mset_nej _ _ (by decide), mset_eq]; done) | exact mset_eq _ _ _ _
        · refine z_aload_n dX0_sumUp_40 rfl ?_
          refine z_dup dX0_sumUp_41 (by intro z q; cases q) ?_
          refine z_gI 4 dX0_sumUp_42 fl_X0_25 (by first | rfl | assumption) rfl rfl ?_
          refine z_iconst dX0_sumUp_45 (by decide) ?_
          refine z_iadd dX0_sumUp_46 (by omega) ?_
          refine z_pI 4 dX0_sumUp_47 fm_X0_25 (by first | rfl | assumption) rfl rfl ?_
          refine z_aload_n dX0_sumUp_50 rfl ?_
          refine z_dup dX0_sumUp_51 (by intro z q; cases q) ?_
          refine z_gJ 5 dX0_sumUp_52 fl_X0_28 (by first | rfl | assumption) rfl rfl ?_
          rw [mset_nej _ _ (by decide)]
          refine z_aload_n dX0_sumUp_55 rfl ?_
          refine z_getR (ty := .int) dX0_sumUp_56 fl_X0_15 (by first | rfl | assumption) rfl rfl ?_
          refine z_iload_n dX0_sumUp_59 rfl ?_
          refine z_iald dX0_sumUp_60 (by first | rfl | assumption) (by omega) (by omega) ?_
          rw [mset_ne _ (by decide), r1]
          refine z_i2l dX0_sumUp_61 ?_
          refine z_ladd dX0_sumUp_62 (by omega) ?_
          refine z_pJ 5 dX0_sumUp_63 fm_X0_28 (by first | rfl | assumption) rfl rfl ?_
          refine z_aload_n dX0_sumUp_66 rfl ?_
          refine z_dup dX0_sumUp_67 (by intro z q; cases q) ?_
          refine z_gJ 6 dX0_sumUp_68 fl_X0_32 (by first | rfl | assumption) rfl rfl ?_
          rw [mset_nej _ _ (by decide), mset_nej _ _ (by decide)]
          refine z_aload_n dX0_sumUp_71 rfl ?_
          refine z_getR (ty := .int) dX0_sumUp_72 fl_X0_18 (by first | rfl | assumption) rfl rfl ?_
          refine z_iload_n dX0_sumUp_75 rfl ?_
          refine z_iald dX0_sumUp_76 (by first | rfl | assumption) (by omega) (by omega) ?_
          rw [mset_ne _ (by decide), mset_ne _ (by decide), r2]
          refine z_i2l dX0_sumUp_77 ?_
          refine z_ladd dX0_sumUp_78 (by omega) ?_
          refine z_pJ 6 dX0_sumUp_79 fm_X0_32 (by first | rfl | assumption) rfl rfl ?_
          refine z_aload_n dX0_sumUp_82 rfl ?_
          refine z_dup dX0_sumUp_83 (by intro z q; cases q) ?_
          refine z_gJ 7 dX0_sumUp_84 fl_X0_35 (by first | rfl | assumption) rfl rfl ?_
          rw [mset_nej _ _ (by decide), mset_nej _ _ (by decide), mset_nej _ _ (by decide)]
          refine z_aload_n dX0_sumUp_87 rfl ?_
          refine z_getR (ty := .int) dX0_sumUp_88 fl_X0_15 (by first | rfl | assumption) rfl rfl ?_
          refine z_iload_n dX0_sumUp_91 rfl ?_
          refine z_iald dX0_sumUp_92 (by first | rfl | assumption) (by omega) (by omega) ?_
          rw [mset_ne _ (by decide), mset_ne _ (by decide), mset_ne _ (by decide), r1]
          refine z_aload_n dX0_sumUp_93 rfl ?_
          refine z_getR (ty := .int) dX0_sumUp_94 fl_X0_18 (by first | rfl | assumption) rfl rfl ?_
          refine z_iload_n dX0_sumUp_97 rfl ?_
          refine z_iald dX0_sumUp_98 (by first | rfl | assumption) (by omega) (by omega) ?_
          rw [mset_ne _ (by decide), mset_ne _ (by decide), mset_ne _ (by decide), r2]
          refine z_isub dX0_sumUp_99 (by omega) ?_
          refine z_abs dX0_sumUp_100 lm_X0_38 (by decide) (Nat.le_of_ble_eq_true rfl) (by omega) ?_
          refine z_i2l dX0_sumUp_103 ?_
          have hab : 0 ≤ (if 0 ≤ pr 1 i - pr 2 i then pr 1 i - pr 2 i else -(pr 1 i - pr 2 i)) ∧ (if 0 ≤ pr 1 i - pr 2 i then pr 1 i - pr 2 i else -(pr 1 i - pr 2 i)) ≤ 9999 := by split <;> omega
          refine z_ladd dX0_sumUp_104 (by omega) ?_
          refine z_pJ 7 dX0_sumUp_105 fm_X0_35 (by first | rfl | assumption) rfl rfl ?_
          refine z_iinc dX0_sumUp_108 rfl (by omega) (by decide) rfl ?_
          dsimp only [List.set]
          refine z_goto 22 dX0_sumUp_111 (by decide) ?_
          first | exact ih (i + 1) _ (by omega) (hsm.skip hno) hon | refine ih (i + 1) _ (by omega) (hsm.take h37 ?_ ?_ ?_ ?_) ((((hon.set (by decide) (by decide)).set (by decide) (by decide)).set (by decide) (by decide)).set (by decide) (by decide))
          all_goals first | done | (rw [mset_nej _ _ (by decide), mset_nej _ _ (by decide), mset_nej _ _ (by decide), mset_eq]; done) | (rw [mset_nej _ _ (by decide), mset_nej _ _ (by decide), mset_eq]; done) | (rw [mset_nej _ _ (by decide), mset_eq]; done) | exact mset_eq _ _ _ _
  refine z_aload_n dX0_sumUp_0 rfl ?_
  refine z_iconst dX0_sumUp_1 (by decide) ?_
  refine z_pI 4 dX0_sumUp_2 fm_X0_25 (by first | rfl | assumption) rfl rfl ?_
  refine z_aload_n dX0_sumUp_5 rfl ?_
  refine z_lconst (z := 0) dX0_sumUp_6 rfl (by decide) ?_
  refine z_pJ 5 dX0_sumUp_7 fm_X0_28 (by first | rfl | assumption) rfl rfl ?_
  refine z_aload_n dX0_sumUp_10 rfl ?_
  refine z_lconst (z := 0) dX0_sumUp_11 rfl (by decide) ?_
  refine z_pJ 6 dX0_sumUp_12 fm_X0_32 (by first | rfl | assumption) rfl rfl ?_
  refine z_aload_n dX0_sumUp_15 rfl ?_
  refine z_lconst (z := 0) dX0_sumUp_16 rfl (by decide) ?_
  refine z_pJ 7 dX0_sumUp_17 fm_X0_35 (by first | rfl | assumption) rfl rfl ?_
  refine z_iconst dX0_sumUp_20 (by decide) ?_
  refine z_istore_n dX0_sumUp_21 (by decide) rfl ?_
  dsimp only [List.set]
  refine loop np 0 _ (by omega) ⟨?_, ?_, ?_, ?_⟩ ((((onS.rf.set (by decide) (by decide)).set (by decide) (by decide)).set (by decide) (by decide)).set (by decide) (by decide))
  · rw [mset_nej _ _ (by decide), mset_nej _ _ (by decide), mset_nej _ _ (by decide), mset_eq]; rfl
  · rw [mset_nej _ _ (by decide), mset_nej _ _ (by decide), mset_eq]; rfl
  · rw [mset_nej _ _ (by decide), mset_eq]; rfl
  · exact mset_eq _ _ _ _
theorem cm_X12_sums {a : Int} (hf : prM mem np pr) (hr : prR np pr) : CM X (0, 0) 0 mX12_sums G0 [vr 88, vi a] mem (pV G0 fun m => sums pr a np (m 88 35) (m 88 32) (m 88 33) (m 88 34) ∧ onS 88 32 35 mem m) := by
  obtain ⟨hn, hs, hrow⟩ := hf
  refine CM.of (by decide +kernel) 2 (Nat.le_of_ble_eq_true rfl) ?_
  show ZZ X (0, 0) 0 mX12_sums G0 0 [vr 88, vi a, vd, vd] [] mem _
  have loop : ∀ (d i : Nat) (m : Mem) (w : VV), i + d = np → sums pr a i (m 88 35) (m 88 32) (m 88 33) (m 88 34) → onS 88 32 35 mem m → (∀ z, w ≠ vl z) → ZZ X (0, 0) 0 mX12_sums G0 22 [vr 88, vi a, vi (i : Int), w] [] m (pV G0 fun m => sums pr a np (m 88 35) (m 88 32) (m 88 33) (m 88 34) ∧ onS 88 32 35 mem m) := by
    intro d
    induction d with
    | zero =>
      intro i m w hi hsm hon hw
      have e3 : m 88 29 = (np : Int) := (hon.2 29 (by decide)).trans hs
      have : i = np := by omega
      subst this
      refine z_iload_n dX12_sums_22 rfl ?_
      refine z_aload_n dX12_sums_23 rfl ?_
      refine z_gI 29 dX12_sums_24 fl_X12_285 (by first | rfl | assumption) rfl rfl ?_
      rw [e3]
      refine z_icmp_ge 141 dX12_sums_27 (by decide) (fun h27 => ?_) (fun h27 => ?_)
      · refine z_vret dX12_sums_141 rfl ?_
        exact ⟨rfl, rfl, hsm, hon⟩
      · omega
    | succ d ih =>
      intro i m w hi hsm hon hw
      refine z_kill 3 ?_
      dsimp only [List.set]
      have e3 : m 88 29 = (np : Int) := (hon.2 29 (by decide)).trans hs
      have r0 : m 102 (3 * (i : Int)) = pr 0 i := (congrFun (hon.1 102 (by decide)) _).trans ((congrArg (mem 102) (by omega)).trans (hrow 0 i (by decide) (by omega)))
      have r1 : m 102 (3 * (i : Int) + 1) = pr 1 i := (congrFun (hon.1 102 (by decide)) _).trans (hrow 1 i (by decide) (by omega))
      have r2 : m 102 (3 * (i : Int) + 2) = pr 2 i := (congrFun (hon.1 102 (by decide)) _).trans (hrow 2 i (by decide) (by omega))
      have bd := hsm.bd (fun j hj => hr j (by omega))
      have b1 := hr i (by omega)
      refine z_iload_n dX12_sums_22 rfl ?_
      refine z_aload_n dX12_sums_23 rfl ?_
      refine z_gI 29 dX12_sums_24 fl_X12_285 (by first | rfl | assumption) rfl rfl ?_
      rw [e3]
      refine z_icmp_ge 141 dX12_sums_27 (by decide) (fun h27 => ?_) (fun h27 => ?_)
      · omega
      · refine z_aload_n dX12_sums_30 rfl ?_
        refine z_getR (ty := .int) dX12_sums_31 fl_X12_50 (by first | rfl | assumption) rfl rfl ?_
        refine z_iconst dX12_sums_34 (by decide) ?_
        refine z_iload_n dX12_sums_35 rfl ?_
        refine z_imul dX12_sums_36 (by omega) ?_
        refine z_iald dX12_sums_37 (by first | rfl | assumption) (by omega) (by omega) ?_
        rw [r0]
        refine z_iload_n dX12_sums_38 rfl ?_
        refine z_icmp_ne 135 dX12_sums_39 (by decide) (fun h39 => ?_) (fun h39 => ?_)
        · have hno := h39
          refine z_iinc dX12_sums_135 rfl (by omega) (by decide) rfl ?_
          dsimp only [List.set]
          refine z_goto 22 dX12_sums_138 (by decide) ?_
          first | exact ih (i + 1) _ _ (by omega) (hsm.skip hno) hon (by intro z q; cases q) | refine ih (i + 1) _ _ (by omega) (hsm.take h39 ?_ ?_ ?_ ?_) ((((hon.set (by decide) (by decide)).set (by decide) (by decide)).set (by decide) (by decide)).set (by decide) (by decide)) (by intro z q; cases q)
          all_goals first | done | exact mset_eq _ _ _ _ | (rw [mset_nej _ _ (by decide), mset_nej _ _ (by decide), mset_nej _ _ (by decide), mset_eq]; done) | (rw [mset_nej _ _ (by decide), mset_nej _ _ (by decide), mset_eq]; done) | (rw [mset_nej _ _ (by decide), mset_eq]; unfold gOff absI; split <;> omega)
        · refine z_aload_n dX12_sums_42 rfl ?_
          refine z_getR (ty := .int) dX12_sums_43 fl_X12_50 (by first | rfl | assumption) rfl rfl ?_
          refine z_iconst dX12_sums_46 (by decide) ?_
          refine z_iload_n dX12_sums_47 rfl ?_
          refine z_imul dX12_sums_48 (by omega) ?_
          refine z_iconst dX12_sums_49 (by decide) ?_
          refine z_iadd dX12_sums_50 (by omega) ?_
          refine z_iald dX12_sums_51 (by first | rfl | assumption) (by omega) (by omega) ?_
          rw [r1]
          refine z_aload_n dX12_sums_52 rfl ?_
          refine z_getR (ty := .int) dX12_sums_53 fl_X12_50 (by first | rfl | assumption) rfl rfl ?_
          refine z_iconst dX12_sums_56 (by decide) ?_
          refine z_iload_n dX12_sums_57 rfl ?_
          refine z_imul dX12_sums_58 (by omega) ?_
          refine z_iconst dX12_sums_59 (by decide) ?_
          refine z_iadd dX12_sums_60 (by omega) ?_
          refine z_iald dX12_sums_61 (by first | rfl | assumption) (by omega) (by omega) ?_
          rw [r2]
          refine z_isub dX12_sums_62 (by omega) ?_
          refine z_istore_n dX12_sums_63 (by decide) rfl ?_
          dsimp only [List.set]
          refine z_aload_n dX12_sums_64 rfl ?_
          refine z_dup dX12_sums_65 (by intro z q; cases q) ?_
          refine z_gJ 32 dX12_sums_66 fl_X12_288 (by first | rfl | assumption) rfl rfl ?_
          refine z_aload_n dX12_sums_69 rfl ?_
          refine z_getR (ty := .int) dX12_sums_70 fl_X12_50 (by first | rfl | assumption) rfl rfl ?_
          refine z_iconst dX12_sums_73 (by decide) ?_
          refine z_iload_n dX12_sums_74 rfl ?_
          refine z_imul dX12_sums_75 (by omega) ?_
          refine z_iconst dX12_sums_76 (by decide) ?_
          refine z_iadd dX12_sums_77 (by omega) ?_
          refine z_iald dX12_sums_78 (by first | rfl | assumption) (by omega) (by omega) ?_
          rw [r1]
          refine z_i2l dX12_sums_79 ?_
          refine z_ladd dX12_sums_80 (by omega) ?_
          refine z_pJ 32 dX12_sums_81 fm_X12_288 (by first | rfl | assumption) rfl rfl ?_
          refine z_aload_n dX12_sums_84 rfl ?_
          refine z_dup dX12_sums_85 (by intro z q; cases q) ?_
          refine z_gJ 33 dX12_sums_86 fl_X12_292 (by first | rfl | assumption) rfl rfl ?_
          rw [mset_nej _ _ (by decide)]
          refine z_aload_n dX12_sums_89 rfl ?_
          refine z_getR (ty := .int) dX12_sums_90 fl_X12_50 (by first | rfl | assumption) rfl rfl ?_
          refine z_iconst dX12_sums_93 (by decide) ?_
          refine z_iload_n dX12_sums_94 rfl ?_
          refine z_imul dX12_sums_95 (by omega) ?_
          refine z_iconst dX12_sums_96 (by decide) ?_
          refine z_iadd dX12_sums_97 (by omega) ?_
          refine z_iald dX12_sums_98 (by first | rfl | assumption) (by omega) (by omega) ?_
          rw [mset_ne _ (by decide), r2]
          refine z_i2l dX12_sums_99 ?_
          refine z_ladd dX12_sums_100 (by omega) ?_
          refine z_pJ 33 dX12_sums_101 fm_X12_292 (by first | rfl | assumption) rfl rfl ?_
          refine z_aload_n dX12_sums_104 rfl ?_
          refine z_dup dX12_sums_105 (by intro z q; cases q) ?_
          refine z_gJ 34 dX12_sums_106 fl_X12_295 (by first | rfl | assumption) rfl rfl ?_
          rw [mset_nej _ _ (by decide), mset_nej _ _ (by decide)]
          refine z_iload_n dX12_sums_109 rfl ?_
          refine z_if_ge 119 dX12_sums_110 (by decide) (fun h110 => ?_) (fun h110 => ?_)
          · refine z_iload_n dX12_sums_119 rfl ?_
            refine z_i2l dX12_sums_120 ?_
            refine z_ladd dX12_sums_121 (by omega) ?_
            refine z_pJ 34 dX12_sums_122 fm_X12_295 (by first | rfl | assumption) rfl rfl ?_
            refine z_aload_n dX12_sums_125 rfl ?_
            refine z_dup dX12_sums_126 (by intro z q; cases q) ?_
            refine z_gI 35 dX12_sums_127 fl_X12_298 (by first | rfl | assumption) rfl rfl ?_
            rw [mset_nej _ _ (by decide), mset_nej _ _ (by decide), mset_nej _ _ (by decide)]
            refine z_iconst dX12_sums_130 (by decide) ?_
            refine z_iadd dX12_sums_131 (by omega) ?_
            refine z_pI 35 dX12_sums_132 fm_X12_298 (by first | rfl | assumption) rfl rfl ?_
            refine z_iinc dX12_sums_135 rfl (by omega) (by decide) rfl ?_
            dsimp only [List.set]
            refine z_goto 22 dX12_sums_138 (by decide) ?_
            first | exact ih (i + 1) _ _ (by omega) (hsm.skip hno) hon (by intro z q; cases q) | refine ih (i + 1) _ _ (by omega) (hsm.take h39 ?_ ?_ ?_ ?_) ((((hon.set (by decide) (by decide)).set (by decide) (by decide)).set (by decide) (by decide)).set (by decide) (by decide)) (by intro z q; cases q)
            all_goals first | done | exact mset_eq _ _ _ _ | (rw [mset_nej _ _ (by decide), mset_nej _ _ (by decide), mset_nej _ _ (by decide), mset_eq]; done) | (rw [mset_nej _ _ (by decide), mset_nej _ _ (by decide), mset_eq]; done) | (rw [mset_nej _ _ (by decide), mset_eq]; unfold gOff absI; split <;> omega)
          · refine z_iload_n dX12_sums_113 rfl ?_
            refine z_inegw dX12_sums_114 ?_
            rw [w32_id (by omega)]
            refine z_i2l dX12_sums_115 ?_
            refine z_goto 121 dX12_sums_116 (by decide) ?_
            refine z_ladd dX12_sums_121 (by omega) ?_
            refine z_pJ 34 dX12_sums_122 fm_X12_295 (by first | rfl | assumption) rfl rfl ?_
            refine z_aload_n dX12_sums_125 rfl ?_
            refine z_dup dX12_sums_126 (by intro z q; cases q) ?_
            refine z_gI 35 dX12_sums_127 fl_X12_298 (by first | rfl | assumption) rfl rfl ?_
            rw [mset_nej _ _ (by decide), mset_nej _ _ (by decide), mset_nej _ _ (by decide)]
            refine z_iconst dX12_sums_130 (by decide) ?_
            refine z_iadd dX12_sums_131 (by omega) ?_
            refine z_pI 35 dX12_sums_132 fm_X12_298 (by first | rfl | assumption) rfl rfl ?_
            refine z_iinc dX12_sums_135 rfl (by omega) (by decide) rfl ?_
            dsimp only [List.set]
            refine z_goto 22 dX12_sums_138 (by decide) ?_
            first | exact ih (i + 1) _ _ (by omega) (hsm.skip hno) hon (by intro z q; cases q) | refine ih (i + 1) _ _ (by omega) (hsm.take h39 ?_ ?_ ?_ ?_) ((((hon.set (by decide) (by decide)).set (by decide) (by decide)).set (by decide) (by decide)).set (by decide) (by decide)) (by intro z q; cases q)
            all_goals first | done | exact mset_eq _ _ _ _ | (rw [mset_nej _ _ (by decide), mset_nej _ _ (by decide), mset_nej _ _ (by decide), mset_eq]; done) | (rw [mset_nej _ _ (by decide), mset_nej _ _ (by decide), mset_eq]; done) | (rw [mset_nej _ _ (by decide), mset_eq]; unfold gOff absI; split <;> omega)
  refine z_aload_n dX12_sums_0 rfl ?_
  refine z_lconst (z := 0) dX12_sums_1 rfl (by decide) ?_
  refine z_pJ 32 dX12_sums_2 fm_X12_288 (by first | rfl | assumption) rfl rfl ?_
  refine z_aload_n dX12_sums_5 rfl ?_
  refine z_lconst (z := 0) dX12_sums_6 rfl (by decide) ?_
  refine z_pJ 33 dX12_sums_7 fm_X12_292 (by first | rfl | assumption) rfl rfl ?_
  refine z_aload_n dX12_sums_10 rfl ?_
  refine z_lconst (z := 0) dX12_sums_11 rfl (by decide) ?_
  refine z_pJ 34 dX12_sums_12 fm_X12_295 (by first | rfl | assumption) rfl rfl ?_
  refine z_aload_n dX12_sums_15 rfl ?_
  refine z_iconst dX12_sums_16 (by decide) ?_
  refine z_pI 35 dX12_sums_17 fm_X12_298 (by first | rfl | assumption) rfl rfl ?_
  refine z_iconst dX12_sums_20 (by decide) ?_
  refine z_istore_n dX12_sums_21 (by decide) rfl ?_
  dsimp only [List.set]
  refine loop np 0 _ _ (by omega) ⟨?_, ?_, ?_, ?_⟩ ((((onS.rf.set (by decide) (by decide)).set (by decide) (by decide)).set (by decide) (by decide)).set (by decide) (by decide)) (by intro z q; cases q)
  · exact mset_eq _ _ _ _
  · rw [mset_nej _ _ (by decide), mset_nej _ _ (by decide), mset_nej _ _ (by decide), mset_eq]; rfl
  · rw [mset_nej _ _ (by decide), mset_nej _ _ (by decide), mset_eq]; rfl
  · rw [mset_nej _ _ (by decide), mset_eq]; rfl
def agOk (a wh : Int) : Prop := (0 ≤ a ∧ a ≤ 5) ∧ 0 ≤ wh ∧ wh ≤ 1
def agD (np : Nat) (pr : Nat → Nat → Int) (a wh : Int) : Int := if wh = 0 then sumA pr a (pr 1) np else sumA pr a (fun _ => 1) np
def agN (np : Nat) (pr : Nat → Nat → Int) (a wh : Int) : Int := if wh = 0 then sumA pr a (pr 2) np else sumA pr a (gOff pr) np
/-- the fraction n by d in lowest terms, on the class's side and on the other -/
def lowC (m : Mem) (n d : Int) : Prop := fracAt m 79 (n.toNat / Nat.gcd n.toNat d.toNat) (d.toNat / Nat.gcd n.toNat d.toNat)
def lowM (m : Mem) (n d : Int) : Prop := regAt m 0 (n.toNat / Nat.gcd n.toNat d.toNat) ∧ regAt m 1 (d.toNat / Nat.gcd n.toNat d.toNat)
theorem cm_become79 {n d : Int} (hn : 0 ≤ n) (hn' : n < 9223372036854775808) (hd : 0 < d) (hd' : d < 9223372036854775808) : CM X (0, 0) 2 mX4_become G0 [vr 79, vl n, vl d] mem (pV G0 fun m => lowC m n d ∧ onF 79 mem m) := by
  have := cm_X4_become (X := X) (mem := mem) (a := n.toNat) (b := d.toNat) isF_79 (by omega) (by omega) (by omega)
  rw [Int.toNat_of_nonneg hn, Int.toNat_of_nonneg (Int.le_of_lt hd)] at this
  exact this
theorem cm_tellsI {n d : Int} (hn : 0 ≤ n) (hn' : n < 9223372036854775808) (hd : 0 < d) (hd' : d < 9223372036854775808) : CM X (0, 0) 3 mX12_tells G0 [vr 88, vl n, vl d] mem (pI G0 fun z m => z = 1 ∧ regAt m 0 (n.toNat / Nat.gcd n.toNat d.toNat) ∧ regAt m 1 (d.toNat / Nat.gcd n.toNat d.toNat) ∧ on89 mem m) := by
  have := cm_X12_tells (X := X) (mem := mem) (a := n.toNat) (b := d.toNat) (by omega) (by omega) (by omega)
  rw [Int.toNat_of_nonneg hn, Int.toNat_of_nonneg (Int.le_of_lt hd)] at this
  exact this
theorem cm_X11_agent {a wh : Int} (hf : prC mem np pr) (hr : prR np pr) : CM X (0, 0) 3 mX11_agent G0 [vr 0, vi a, vi wh] mem (pI G0 fun z m => (¬ agOk a wh → z = -2 ∧ m = mem) ∧ (agOk a wh → agD np pr a wh = 0 → z = -3 ∧ onS 68 4 7 mem m) ∧ (agOk a wh → ¬ agD np pr a wh = 0 → z = 1 ∧ lowC m (agN np pr a wh) (agD np pr a wh) ∧ (∀ x, x ≠ 68 → x < 80 ∨ 88 ≤ x → m x = mem x) ∧ ∀ j, j < 4 ∨ 7 < j → m 68 j = mem 68 j)) := by
  unfold agOk agD agN
  refine CM.of (by decide +kernel) 2 (Nat.le_of_ble_eq_true rfl) ?_
  show ZZ X (0, 0) 3 mX11_agent G0 0 [vr 0, vi a, vi wh, vd, vd] [] mem _
  refine z_iload_n dX11_agent_0 rfl ?_
  refine z_iconst dX11_agent_1 (by decide) ?_
  refine z_iconst dX11_agent_2 (by decide) ?_
  refine z_S3i dX11_agent_3 ok_X11_within lk_X11_83 (Nat.le_of_ble_eq_true rfl) (by decide) (cm_X11_within) (fun z1 m1 hm1 => ?_)
  obtain ⟨hz1, rfl⟩ := hm1
  refine z_if_eq 18 dX11_agent_6 (by decide) (fun h6 => ?_) (fun h6 => ?_)
  · refine z_bipush dX11_agent_18 (by decide) ?_
    refine z_iret dX11_agent_20 rfl ?_
    exact ⟨rfl, _, rfl, fun _ => ⟨rfl, rfl⟩, fun q => by omega, fun q => by omega⟩
  · refine z_iload_n dX11_agent_9 rfl ?_
    refine z_iconst dX11_agent_10 (by decide) ?_
    refine z_iconst dX11_agent_11 (by decide) ?_
    refine z_S3i dX11_agent_12 ok_X11_within lk_X11_83 (Nat.le_of_ble_eq_true rfl) (by decide) (cm_X11_within) (fun z1 m1 hm1 => ?_)
    obtain ⟨hz2, rfl⟩ := hm1
    refine z_if_ne 21 dX11_agent_15 (by decide) (fun h15 => ?_) (fun h15 => ?_)
    · refine z_aload_n dX11_agent_21 rfl ?_
      refine z_getR (ty := .int) dX11_agent_22 fl_X11_54 (by first | rfl | assumption) rfl rfl ?_
      refine z_iload_n dX11_agent_25 rfl ?_
      refine z_V1v dX11_agent_26 ok_X0_sumUp lk_X11_203 (by first | rfl | assumption) rfl rfl (Nat.le_of_ble_eq_true rfl) (by decide) (cm_X0_sumUp hf hr) (fun m2 hm2 => ?_)
      obtain ⟨hsm, hon⟩ := hm2
      have bd := hsm.bd hr
      have hnp := hf.1
      obtain ⟨e1, e2, e3, e4⟩ := hsm
      refine z_iload_n dX11_agent_29 rfl ?_
      refine z_if_ne 43 dX11_agent_30 (by decide) (fun h30 => ?_) (fun h30 => ?_)
      · rw [if_neg h30, if_neg h30, ← e1, ← e4]
        refine z_aload_n dX11_agent_43 rfl ?_
        refine z_getR (ty := .int) dX11_agent_44 fl_X11_54 (by first | rfl | assumption) rfl rfl ?_
        refine z_gI 4 dX11_agent_47 fl_X11_211 (by first | rfl | assumption) rfl rfl ?_
        refine z_i2l dX11_agent_50 ?_
        refine z_lstore_n dX11_agent_51 (by decide) rfl ?_
        dsimp only [List.set]
        refine z_lload_n dX11_agent_52 rfl ?_
        refine z_lconst (z := 0) dX11_agent_53 rfl (by decide) ?_
        refine z_lcmp dX11_agent_54 ?_
        refine z_if_ne 61 dX11_agent_55 (by decide) (fun h55 => ?_) (fun h55 => ?_)
        · rw [lc_eq] at h55
          refine z_aload_n dX11_agent_61 rfl ?_
          refine z_getR (ty := .int) dX11_agent_62 fl_X11_75 (by first | rfl | assumption) rfl rfl ?_
          refine z_iload_n dX11_agent_65 rfl ?_
          refine z_if_ne 79 dX11_agent_66 (by decide) (fun h66 => ?_) (fun h66 => ?_)
          · refine z_aload_n dX11_agent_79 rfl ?_
            refine z_getR (ty := .int) dX11_agent_80 fl_X11_54 (by first | rfl | assumption) rfl rfl ?_
            refine z_gJ 7 dX11_agent_83 fl_X11_217 (by first | rfl | assumption) rfl rfl ?_
            refine z_lload_n dX11_agent_86 rfl ?_
            refine z_V2v dX11_agent_87 ok_X4_become lk_X11_220 (by first | rfl | assumption) rfl rfl (Nat.le_of_ble_eq_true rfl) (by decide) (cm_become79 (by omega) (by omega) (by omega) (by omega)) (fun m3 hm3 => ?_)
            refine z_iconst dX11_agent_90 (by decide) ?_
            refine z_iret dX11_agent_91 rfl ?_
            first | exact absurd h66 h30 | exact absurd h30 h66 | exact ⟨rfl, _, rfl, fun q => by omega, fun _ q => by omega, fun _ _ => ⟨rfl, hm3.1, fun x h1 h2 => (hm3.2 x h2).trans (hon.1 x h1), fun j hj => (congrFun (hm3.2 68 (by decide)) j).trans (hon.2 j hj)⟩⟩
          · refine z_aload_n dX11_agent_69 rfl ?_
            refine z_getR (ty := .int) dX11_agent_70 fl_X11_54 (by first | rfl | assumption) rfl rfl ?_
            refine z_gJ 6 dX11_agent_73 fl_X11_214 (by first | rfl | assumption) rfl rfl ?_
            refine z_goto 86 dX11_agent_76 (by decide) ?_
            refine z_lload_n dX11_agent_86 rfl ?_
            refine z_V2v dX11_agent_87 ok_X4_become lk_X11_220 (by first | rfl | assumption) rfl rfl (Nat.le_of_ble_eq_true rfl) (by decide) (cm_become79 (by omega) (by omega) (by omega) (by omega)) (fun m3 hm3 => ?_)
            refine z_iconst dX11_agent_90 (by decide) ?_
            refine z_iret dX11_agent_91 rfl ?_
            first | exact absurd h66 h30 | exact absurd h30 h66 | exact ⟨rfl, _, rfl, fun q => by omega, fun _ q => by omega, fun _ _ => ⟨rfl, hm3.1, fun x h1 h2 => (hm3.2 x h2).trans (hon.1 x h1), fun j hj => (congrFun (hm3.2 68 (by decide)) j).trans (hon.2 j hj)⟩⟩
        · rw [lc_eq] at h55
          refine z_bipush dX11_agent_58 (by decide) ?_
          refine z_iret dX11_agent_60 rfl ?_
          exact ⟨rfl, _, rfl, fun q => by omega, fun _ _ => ⟨rfl, hon⟩, fun _ q => by omega⟩
      · rw [if_pos h30, if_pos h30, ← e2, ← e3]
        refine z_aload_n dX11_agent_33 rfl ?_
        refine z_getR (ty := .int) dX11_agent_34 fl_X11_54 (by first | rfl | assumption) rfl rfl ?_
        refine z_gJ 5 dX11_agent_37 fl_X11_207 (by first | rfl | assumption) rfl rfl ?_
        refine z_goto 51 dX11_agent_40 (by decide) ?_
        refine z_lstore_n dX11_agent_51 (by decide) rfl ?_
        dsimp only [List.set]
        refine z_lload_n dX11_agent_52 rfl ?_
        refine z_lconst (z := 0) dX11_agent_53 rfl (by decide) ?_
        refine z_lcmp dX11_agent_54 ?_
        refine z_if_ne 61 dX11_agent_55 (by decide) (fun h55 => ?_) (fun h55 => ?_)
        · rw [lc_eq] at h55
          refine z_aload_n dX11_agent_61 rfl ?_
          refine z_getR (ty := .int) dX11_agent_62 fl_X11_75 (by first | rfl | assumption) rfl rfl ?_
          refine z_iload_n dX11_agent_65 rfl ?_
          refine z_if_ne 79 dX11_agent_66 (by decide) (fun h66 => ?_) (fun h66 => ?_)
          · refine z_aload_n dX11_agent_79 rfl ?_
            refine z_getR (ty := .int) dX11_agent_80 fl_X11_54 (by first | rfl | assumption) rfl rfl ?_
            refine z_gJ 7 dX11_agent_83 fl_X11_217 (by first | rfl | assumption) rfl rfl ?_
            refine z_lload_n dX11_agent_86 rfl ?_
            refine z_V2v dX11_agent_87 ok_X4_become lk_X11_220 (by first | rfl | assumption) rfl rfl (Nat.le_of_ble_eq_true rfl) (by decide) (cm_become79 (by omega) (by omega) (by omega) (by omega)) (fun m3 hm3 => ?_)
            refine z_iconst dX11_agent_90 (by decide) ?_
            refine z_iret dX11_agent_91 rfl ?_
            first | exact absurd h66 h30 | exact absurd h30 h66 | exact ⟨rfl, _, rfl, fun q => by omega, fun _ q => by omega, fun _ _ => ⟨rfl, hm3.1, fun x h1 h2 => (hm3.2 x h2).trans (hon.1 x h1), fun j hj => (congrFun (hm3.2 68 (by decide)) j).trans (hon.2 j hj)⟩⟩
          · refine z_aload_n dX11_agent_69 rfl ?_
            refine z_getR (ty := .int) dX11_agent_70 fl_X11_54 (by first | rfl | assumption) rfl rfl ?_
            refine z_gJ 6 dX11_agent_73 fl_X11_214 (by first | rfl | assumption) rfl rfl ?_
            refine z_goto 86 dX11_agent_76 (by decide) ?_
            refine z_lload_n dX11_agent_86 rfl ?_
            refine z_V2v dX11_agent_87 ok_X4_become lk_X11_220 (by first | rfl | assumption) rfl rfl (Nat.le_of_ble_eq_true rfl) (by decide) (cm_become79 (by omega) (by omega) (by omega) (by omega)) (fun m3 hm3 => ?_)
            refine z_iconst dX11_agent_90 (by decide) ?_
            refine z_iret dX11_agent_91 rfl ?_
            first | exact absurd h66 h30 | exact absurd h30 h66 | exact ⟨rfl, _, rfl, fun q => by omega, fun _ q => by omega, fun _ _ => ⟨rfl, hm3.1, fun x h1 h2 => (hm3.2 x h2).trans (hon.1 x h1), fun j hj => (congrFun (hm3.2 68 (by decide)) j).trans (hon.2 j hj)⟩⟩
        · rw [lc_eq] at h55
          refine z_bipush dX11_agent_58 (by decide) ?_
          refine z_iret dX11_agent_60 rfl ?_
          exact ⟨rfl, _, rfl, fun q => by omega, fun _ _ => ⟨rfl, hon⟩, fun _ q => by omega⟩
    · refine z_bipush dX11_agent_18 (by decide) ?_
      refine z_iret dX11_agent_20 rfl ?_
      exact ⟨rfl, _, rfl, fun _ => ⟨rfl, rfl⟩, fun q => by omega, fun q => by omega⟩
theorem cm_X12_agent {a wh : Int} (hf : prM mem np pr) (hr : prR np pr) : CM X (0, 0) 4 mX12_agent G0 [vr 88, vi a, vi wh] mem (pI G0 fun z m => (¬ agOk a wh → z = -2 ∧ m = mem) ∧ (agOk a wh → agD np pr a wh = 0 → z = -3 ∧ onS 88 32 35 mem m) ∧ (agOk a wh → ¬ agD np pr a wh = 0 → z = 1 ∧ lowM m (agN np pr a wh) (agD np pr a wh) ∧ (∀ x, x ≠ 88 → x ≠ 89 → x ≠ 90 → m x = mem x) ∧ ∀ j, j < 32 ∨ 35 < j → m 88 j = mem 88 j)) := by
  unfold agOk agD agN
  have hz0 := sumA_z (pr := pr) (a := a) (n := np) (g := pr 1) (fun i hi => (hr i hi).2.1)
  refine CM.of (by decide +kernel) 0 (Nat.le_of_ble_eq_true rfl) ?_
  show ZZ X (0, 0) 4 mX12_agent G0 0 [vr 88, vi a, vi wh] [] mem _
  refine z_iload_n dX12_agent_0 rfl ?_
  refine z_S1i dX12_agent_1 ok_X12_isMaker lk_X12_103 (Nat.le_of_ble_eq_true rfl) (by decide) (cm_X12_isMaker) (fun z1 m1 hm1 => ?_)
  obtain ⟨hz1, rfl⟩ := hm1
  refine z_if_eq 17 dX12_agent_4 (by decide) (fun h4 => ?_) (fun h4 => ?_)
  · refine z_bipush dX12_agent_17 (by decide) ?_
    refine z_iret dX12_agent_19 rfl ?_
    exact ⟨rfl, _, rfl, fun _ => ⟨rfl, rfl⟩, fun q => by omega, fun q => by omega⟩
  · refine z_iload_n dX12_agent_7 rfl ?_
    refine z_i2l dX12_agent_8 ?_
    refine z_lconst (z := 0) dX12_agent_9 rfl (by decide) ?_
    refine z_lconst (z := 1) dX12_agent_10 rfl (by decide) ?_
    refine z_S3i dX12_agent_11 ok_X12_in lk_X12_97 (Nat.le_of_ble_eq_true rfl) (by decide) (cm_X12_in) (fun z1 m1 hm1 => ?_)
    obtain ⟨hz2, rfl⟩ := hm1
    refine z_if_ne 20 dX12_agent_14 (by decide) (fun h14 => ?_) (fun h14 => ?_)
    · refine z_aload_n dX12_agent_20 rfl ?_
      refine z_iload_n dX12_agent_21 rfl ?_
      refine z_V1v dX12_agent_22 ok_X12_sums lk_X12_301 (by first | rfl | assumption) rfl rfl (Nat.le_of_ble_eq_true rfl) (by decide) (cm_X12_sums hf hr) (fun m2 hm2 => ?_)
      obtain ⟨hsm, hon⟩ := hm2
      have bd := hsm.bd hr
      have hnp := hf.1
      obtain ⟨e1, e2, e3, e4⟩ := hsm
      rw [← e1, ← e2] at hz0
      refine z_aload_n dX12_agent_25 rfl ?_
      refine z_gI 35 dX12_agent_26 fl_X12_298 (by first | rfl | assumption) rfl rfl ?_
      refine z_if_eq 45 dX12_agent_29 (by decide) (fun h29 => ?_) (fun h29 => ?_)
      · refine z_bipush dX12_agent_45 (by decide) ?_
        refine z_iret dX12_agent_47 rfl ?_
        refine ⟨rfl, _, rfl, fun q => by omega, fun _ _ => ⟨rfl, hon⟩, fun _ q => absurd ?_ q⟩
        rw [← e1, ← e2]
        split <;> omega
      · refine z_iload_n dX12_agent_32 rfl ?_
        refine z_if_ne 48 dX12_agent_33 (by decide) (fun h33 => ?_) (fun h33 => ?_)
        · refine z_iload_n dX12_agent_48 rfl ?_
          refine z_if_ne 67 dX12_agent_49 (by decide) (fun h49 => ?_) (fun h49 => ?_)
          · rw [if_neg h49, if_neg h49, ← e1, ← e4]
            refine z_aload_n dX12_agent_67 rfl ?_
            refine z_aload_n dX12_agent_68 rfl ?_
            refine z_gJ 34 dX12_agent_69 fl_X12_295 (by first | rfl | assumption) rfl rfl ?_
            refine z_aload_n dX12_agent_72 rfl ?_
            refine z_gI 35 dX12_agent_73 fl_X12_298 (by first | rfl | assumption) rfl rfl ?_
            refine z_i2l dX12_agent_76 ?_
            refine z_V2i dX12_agent_77 ok_X12_tells lk_X12_281 (by first | rfl | assumption) rfl rfl (Nat.le_of_ble_eq_true rfl) (by decide) (cm_tellsI (by omega) (by omega) (by omega) (by omega)) (fun z3 m3 hm3 => ?_)
            refine z_iret dX12_agent_80 rfl ?_
            exact ⟨rfl, _, rfl, fun q => by omega, fun _ q => by omega, fun _ _ => ⟨hm3.1, ⟨hm3.2.1, hm3.2.2.1⟩, fun x h1 h2 h3 => (hm3.2.2.2 x h2 h3).trans (hon.1 x h1), fun j hj => (congrFun (hm3.2.2.2 88 (by decide) (by decide)) j).trans (hon.2 j hj)⟩⟩
          · rw [if_pos h49, if_pos h49, ← e2, ← e3]
            refine z_aload_n dX12_agent_52 rfl ?_
            refine z_aload_n dX12_agent_53 rfl ?_
            refine z_gJ 33 dX12_agent_54 fl_X12_292 (by first | rfl | assumption) rfl rfl ?_
            refine z_aload_n dX12_agent_57 rfl ?_
            refine z_gJ 32 dX12_agent_58 fl_X12_288 (by first | rfl | assumption) rfl rfl ?_
            refine z_V2i dX12_agent_61 ok_X12_tells lk_X12_281 (by first | rfl | assumption) rfl rfl (Nat.le_of_ble_eq_true rfl) (by decide) (cm_tellsI (by omega) (by omega) (by omega) (by omega)) (fun z3 m3 hm3 => ?_)
            refine z_goto 80 dX12_agent_64 (by decide) ?_
            refine z_iret dX12_agent_80 rfl ?_
            exact ⟨rfl, _, rfl, fun q => by omega, fun _ q => by omega, fun _ _ => ⟨hm3.1, ⟨hm3.2.1, hm3.2.2.1⟩, fun x h1 h2 h3 => (hm3.2.2.2 x h2 h3).trans (hon.1 x h1), fun j hj => (congrFun (hm3.2.2.2 88 (by decide) (by decide)) j).trans (hon.2 j hj)⟩⟩
        · refine z_aload_n dX12_agent_36 rfl ?_
          refine z_gJ 32 dX12_agent_37 fl_X12_288 (by first | rfl | assumption) rfl rfl ?_
          refine z_lconst (z := 0) dX12_agent_40 rfl (by decide) ?_
          refine z_lcmp dX12_agent_41 ?_
          refine z_if_ne 48 dX12_agent_42 (by decide) (fun h42 => ?_) (fun h42 => ?_)
          · rw [lc_eq] at h42
            refine z_iload_n dX12_agent_48 rfl ?_
            refine z_if_ne 67 dX12_agent_49 (by decide) (fun h49 => ?_) (fun h49 => ?_)
            · rw [if_neg h49, if_neg h49, ← e1, ← e4]
              refine z_aload_n dX12_agent_67 rfl ?_
              refine z_aload_n dX12_agent_68 rfl ?_
              refine z_gJ 34 dX12_agent_69 fl_X12_295 (by first | rfl | assumption) rfl rfl ?_
              refine z_aload_n dX12_agent_72 rfl ?_
              refine z_gI 35 dX12_agent_73 fl_X12_298 (by first | rfl | assumption) rfl rfl ?_
              refine z_i2l dX12_agent_76 ?_
              refine z_V2i dX12_agent_77 ok_X12_tells lk_X12_281 (by first | rfl | assumption) rfl rfl (Nat.le_of_ble_eq_true rfl) (by decide) (cm_tellsI (by omega) (by omega) (by omega) (by omega)) (fun z3 m3 hm3 => ?_)
              refine z_iret dX12_agent_80 rfl ?_
              exact ⟨rfl, _, rfl, fun q => by omega, fun _ q => by omega, fun _ _ => ⟨hm3.1, ⟨hm3.2.1, hm3.2.2.1⟩, fun x h1 h2 h3 => (hm3.2.2.2 x h2 h3).trans (hon.1 x h1), fun j hj => (congrFun (hm3.2.2.2 88 (by decide) (by decide)) j).trans (hon.2 j hj)⟩⟩
            · rw [if_pos h49, if_pos h49, ← e2, ← e3]
              refine z_aload_n dX12_agent_52 rfl ?_
              refine z_aload_n dX12_agent_53 rfl ?_
              refine z_gJ 33 dX12_agent_54 fl_X12_292 (by first | rfl | assumption) rfl rfl ?_
              refine z_aload_n dX12_agent_57 rfl ?_
              refine z_gJ 32 dX12_agent_58 fl_X12_288 (by first | rfl | assumption) rfl rfl ?_
              refine z_V2i dX12_agent_61 ok_X12_tells lk_X12_281 (by first | rfl | assumption) rfl rfl (Nat.le_of_ble_eq_true rfl) (by decide) (cm_tellsI (by omega) (by omega) (by omega) (by omega)) (fun z3 m3 hm3 => ?_)
              refine z_goto 80 dX12_agent_64 (by decide) ?_
              refine z_iret dX12_agent_80 rfl ?_
              exact ⟨rfl, _, rfl, fun q => by omega, fun _ q => by omega, fun _ _ => ⟨hm3.1, ⟨hm3.2.1, hm3.2.2.1⟩, fun x h1 h2 h3 => (hm3.2.2.2 x h2 h3).trans (hon.1 x h1), fun j hj => (congrFun (hm3.2.2.2 88 (by decide) (by decide)) j).trans (hon.2 j hj)⟩⟩
          · rw [lc_eq] at h42
            refine z_bipush dX12_agent_45 (by decide) ?_
            refine z_iret dX12_agent_47 rfl ?_
            refine ⟨rfl, _, rfl, fun q => by omega, fun _ _ => ⟨rfl, hon⟩, fun _ q => absurd ?_ q⟩
            rw [← e1, ← e2]
            split <;> omega
    · refine z_bipush dX12_agent_17 (by decide) ?_
      refine z_iret dX12_agent_19 rfl ?_
      exact ⟨rfl, _, rfl, fun _ => ⟨rfl, rfl⟩, fun q => by omega, fun q => by omega⟩
end OpsD
