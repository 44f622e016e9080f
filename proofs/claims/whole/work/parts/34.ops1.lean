/-! ===== find, doubt, most, can, said, front, book: both sides ===== -/
def mostOk (n : Int) : Prop := 1 ≤ n ∧ n ≤ 150
def prC (mem : Mem) (np : Nat) (pr : Nat → Nat → Int) : Prop := np ≤ 20 ∧ mem 68 3 = (np : Int) ∧ ∀ k i : Nat, k < 3 → i < np → mem (69 + k) (i : Int) = pr k i
def prM (mem : Mem) (np : Nat) (pr : Nat → Nat → Int) : Prop := np ≤ 20 ∧ mem 88 29 = (np : Int) ∧ ∀ k i : Nat, k < 3 → i < np → mem 102 (3 * (i : Int) + (k : Int)) = pr k i
def prR (np : Nat) (pr : Nat → Nat → Int) : Prop := ∀ i : Nat, i < np → (0 ≤ pr 0 i ∧ pr 0 i ≤ 5) ∧ (0 ≤ pr 1 i ∧ pr 1 i ≤ 9999) ∧ (0 ≤ pr 2 i ∧ pr 2 i ≤ 9999)
def frC (mem : Mem) (fr : Nat → Nat → Int) : Prop := ∀ k f : Nat, k < 2 → f < 4 → mem (73 + k) (f : Int) = fr k f
def frM (mem : Mem) (fr : Nat → Nat → Int) : Prop := ∀ k f : Nat, k < 2 → f < 4 → mem 103 (2 * (f : Int) + (k : Int)) = fr k f
def frR (fr : Nat → Nat → Int) : Prop := ∀ f : Nat, f < 4 → 1 ≤ fr 0 f ∧ fr 0 f ≤ fr 1 f ∧ fr 1 f ≤ 1000
def bkC (mem : Mem) (bk : Nat → Nat → Int) : Prop := ∀ k m : Nat, k < 3 → m < 6 → mem (76 + k) (m : Int) = bk k m
def bkM (mem : Mem) (bk : Nat → Nat → Int) : Prop := ∀ k m : Nat, k < 3 → m < 6 → mem 32 (3 * (m : Int) + (k : Int)) = bk k m
def bkR (bk : Nat → Nat → Int) : Prop := ∀ m : Nat, m < 6 → bk 0 m = -1 ∨ ((1 ≤ bk 0 m ∧ bk 0 m ≤ 150) ∧ (0 ≤ bk 1 m ∧ bk 1 m ≤ 9999) ∧ (1 ≤ bk 2 m ∧ bk 2 m ≤ 99))
def fdU (fd : Nat → Nat → Int) (n : Nat) (v : Nat → Int) : Nat → Nat → Int := fun k i => if i = n then v k else fd k i
def v5 (a b c d e : Int) (k : Nat) : Int := match k with
  | 0 => a
  | 1 => b
  | 2 => c
  | 3 => d
  | 4 => e
  | _ => 0
def v3 (a b c : Int) (k : Nat) : Int := match k with
  | 0 => a
  | 1 => b
  | _ => c
def okFind (mk nb wk md fr : Int) : Prop := (0 ≤ mk ∧ mk ≤ 5) ∧ (0 ≤ nb ∧ nb ≤ 9999) ∧ (-1 ≤ wk ∧ wk ≤ 29) ∧ (-1 ≤ md ∧ md ≤ 19) ∧ (0 ≤ fr ∧ fr ≤ 3)
section OpsA
variable {X : Nat × (Int → Int)} {mem : Mem} {nf np : Nat} {fd pr fr bk : Nat → Nat → Int}
/-- one cell of the reference's object, and one row -/
def onO (js : Int) (c : Nat) (mem m : Mem) : Prop := (∀ a, a ≠ 88 → a ≠ c → m a = mem a) ∧ ∀ j, j ≠ js → m 88 j = mem 88 j
theorem onO.rf {js : Int} {c : Nat} {m : Mem} : onO js c m m := ⟨fun _ _ _ => rfl, fun _ _ => rfl⟩
theorem cm_X3_add {mk nb wk md fv : Int} (hf : finC mem nf fd) : CM X (0, 0) 0 mX3_add G0 [vr 1, vi mk, vi nb, vi wk, vi md, vi fv] mem (pI G0 fun z m => (nf = 60 → z = -4 ∧ m = mem) ∧ (nf < 60 → z = (nf : Int) ∧ finC m (nf + 1) (fdU fd nf (v5 mk nb wk md fv)) ∧ ∀ a, a = 0 ∨ 7 ≤ a → m a = mem a)) := by
  obtain ⟨hn, hs, hrow, hz⟩ := hf
  refine CM.of (by decide +kernel) 0 (Nat.le_of_ble_eq_true rfl) ?_
  show ZZ X (0, 0) 0 mX3_add G0 0 [vr 1, vi mk, vi nb, vi wk, vi md, vi fv] [] mem _
  refine z_aload_n dX3_add_0 rfl ?_
  refine z_gI 6 dX3_add_1 fl_X3_31 (by first | rfl | assumption) rfl rfl ?_
  rw [hs]
  refine z_bipush dX3_add_4 (by decide) ?_
  refine z_icmp_lt 12 dX3_add_6 (by decide) (fun h6 => ?_) (fun h6 => ?_)
  · refine z_aload_n dX3_add_12 rfl ?_
    refine z_getR (ty := .int) dX3_add_13 fl_X3_11 (by first | rfl | assumption) rfl rfl ?_
    refine z_aload_n dX3_add_16 rfl ?_
    refine z_gI 6 dX3_add_17 fl_X3_31 (by first | rfl | assumption) rfl rfl ?_
    rw [hs]
    refine z_iload_n dX3_add_20 rfl ?_
    refine z_iast dX3_add_21 (by first | rfl | assumption) (by omega) (by omega) ?_
    refine z_aload_n dX3_add_22 rfl ?_
    refine z_getR (ty := .int) dX3_add_23 fl_X3_15 (by first | rfl | assumption) rfl rfl ?_
    refine z_aload_n dX3_add_26 rfl ?_
    refine z_gI 6 dX3_add_27 fl_X3_31 (by first | rfl | assumption) rfl rfl ?_
    rw [mset_ne _ (by decide), hs]
    refine z_iload_n dX3_add_30 rfl ?_
    refine z_iast dX3_add_31 (by first | rfl | assumption) (by omega) (by omega) ?_
    refine z_aload_n dX3_add_32 rfl ?_
    refine z_getR (ty := .int) dX3_add_33 fl_X3_18 (by first | rfl | assumption) rfl rfl ?_
    refine z_aload_n dX3_add_36 rfl ?_
    refine z_gI 6 dX3_add_37 fl_X3_31 (by first | rfl | assumption) rfl rfl ?_
    rw [mset_ne _ (by decide), mset_ne _ (by decide), hs]
    refine z_iload_n dX3_add_40 rfl ?_
    refine z_iast dX3_add_41 (by first | rfl | assumption) (by omega) (by omega) ?_
    refine z_aload_n dX3_add_42 rfl ?_
    refine z_getR (ty := .int) dX3_add_43 fl_X3_21 (by first | rfl | assumption) rfl rfl ?_
    refine z_aload_n dX3_add_46 rfl ?_
    refine z_gI 6 dX3_add_47 fl_X3_31 (by first | rfl | assumption) rfl rfl ?_
    rw [mset_ne _ (by decide), mset_ne _ (by decide), mset_ne _ (by decide), hs]
    refine z_iload dX3_add_50 rfl ?_
    refine z_iast dX3_add_52 (by first | rfl | assumption) (by omega) (by omega) ?_
    refine z_aload_n dX3_add_53 rfl ?_
    refine z_getR (ty := .int) dX3_add_54 fl_X3_24 (by first | rfl | assumption) rfl rfl ?_
    refine z_aload_n dX3_add_57 rfl ?_
    refine z_gI 6 dX3_add_58 fl_X3_31 (by first | rfl | assumption) rfl rfl ?_
    rw [mset_ne _ (by decide), mset_ne _ (by decide), mset_ne _ (by decide), mset_ne _ (by decide), hs]
    refine z_iload dX3_add_61 rfl ?_
    refine z_iast dX3_add_63 (by first | rfl | assumption) (by omega) (by omega) ?_
    refine z_aload_n dX3_add_64 rfl ?_
    refine z_dup dX3_add_65 (by intro z q; cases q) ?_
    refine z_gI 6 dX3_add_66 fl_X3_31 (by first | rfl | assumption) rfl rfl ?_
    rw [mset_ne _ (by decide), mset_ne _ (by decide), mset_ne _ (by decide), mset_ne _ (by decide), mset_ne _ (by decide), hs]
    refine z_iconst dX3_add_69 (by decide) ?_
    refine z_iadd dX3_add_70 (by omega) ?_
    refine z_pI 6 dX3_add_71 fm_X3_31 (by first | rfl | assumption) rfl rfl ?_
    refine z_aload_n dX3_add_74 rfl ?_
    refine z_gI 6 dX3_add_75 fl_X3_31 (by first | rfl | assumption) rfl rfl ?_
    rw [mset_eq]
    refine z_iconst dX3_add_78 (by decide) ?_
    refine z_isub dX3_add_79 (by omega) ?_
    refine z_iret dX3_add_80 rfl ?_
    refine ⟨rfl, _, rfl, fun q => by omega, fun _ => ⟨by omega, ⟨by omega, ?_, ?_, ?_⟩, ?_⟩⟩
    · rw [mset_eq]; omega
    · intro k i hk hi
      rw [mset_ne _ (by omega)]
      unfold fdU
      by_cases e : i = nf
      · rw [if_pos e]
        subst e
        obtain rfl | rfl | rfl | rfl | rfl | rfl : k = 0 ∨ k = 1 ∨ k = 2 ∨ k = 3 ∨ k = 4 ∨ k = 5 := by omega
        · show mset _ 6 _ _ 2 _ = mk
          rw [mset_ne _ (by decide), mset_ne _ (by decide), mset_ne _ (by decide), mset_ne _ (by decide), mset_eq]
        · show mset _ 6 _ _ 3 _ = nb
          rw [mset_ne _ (by decide), mset_ne _ (by decide), mset_ne _ (by decide), mset_eq]
        · show mset _ 6 _ _ 4 _ = wk
          rw [mset_ne _ (by decide), mset_ne _ (by decide), mset_eq]
        · show mset _ 6 _ _ 5 _ = md
          rw [mset_ne _ (by decide), mset_eq]
        · show mset _ 6 _ _ 6 _ = fv
          rw [mset_eq]
        · show mset _ 6 _ _ 7 _ = 0
          rw [mset_ne _ (by decide), mset_ne _ (by decide), mset_ne _ (by decide), mset_ne _ (by decide), mset_ne _ (by decide)]
          exact hz i (Nat.le_refl i) (by omega)
      · rw [if_neg e]
        have hh := hrow k i hk (by omega)
        have ne : ((i : Nat) : Int) ≠ (nf : Int) := by omega
        rw [← hh]
        simp only [mset]
        obtain rfl | rfl | rfl | rfl | rfl | rfl : k = 0 ∨ k = 1 ∨ k = 2 ∨ k = 3 ∨ k = 4 ∨ k = 5 := by omega
        all_goals simp [ne]
    · intro i a b
      rw [mset_ne _ (by decide), mset_ne _ (by decide), mset_ne _ (by decide), mset_ne _ (by decide), mset_ne _ (by decide), mset_ne _ (by decide)]
      exact hz i (by omega) b
    · intro a ha
      rw [mset_ne _ (by omega), mset_ne _ (by omega), mset_ne _ (by omega), mset_ne _ (by omega), mset_ne _ (by omega), mset_ne _ (by omega)]
  · refine z_bipush dX3_add_9 (by decide) ?_
    refine z_iret dX3_add_11 rfl ?_
    exact ⟨rfl, _, rfl, fun _ => ⟨rfl, rfl⟩, fun q => by omega⟩
theorem cm_X11_find {mk nb wk md fv : Int} (hf : finC mem nf fd) : CM X (0, 0) 1 mX11_find G0 [vr 0, vi mk, vi nb, vi wk, vi md, vi fv] mem (pI G0 fun z m => (¬ okFind mk nb wk md fv → z = -2 ∧ m = mem) ∧ (okFind mk nb wk md fv → nf = 60 → z = -4 ∧ m = mem) ∧ (okFind mk nb wk md fv → nf < 60 → z = (nf : Int) ∧ finC m (nf + 1) (fdU fd nf (v5 mk nb wk md fv)) ∧ ∀ a, a = 0 ∨ 7 ≤ a → m a = mem a)) := by
  unfold okFind
  refine CM.of (by decide +kernel) 0 (Nat.le_of_ble_eq_true rfl) ?_
  show ZZ X (0, 0) 1 mX11_find G0 0 [vr 0, vi mk, vi nb, vi wk, vi md, vi fv] [] mem _
  refine z_iload_n dX11_find_0 rfl ?_
  refine z_iconst dX11_find_1 (by decide) ?_
  refine z_iconst dX11_find_2 (by decide) ?_
  refine z_S3i dX11_find_3 ok_X11_within lk_X11_83 (Nat.le_of_ble_eq_true rfl) (by decide) (cm_X11_within) (fun z1 m1 hm1 => ?_)
  obtain ⟨hz1, rfl⟩ := hm1
  refine z_if_eq 51 dX11_find_6 (by decide) (fun h6 => ?_) (fun h6 => ?_)
  · refine z_bipush dX11_find_51 (by decide) ?_
    refine z_iret dX11_find_53 rfl ?_
    exact ⟨rfl, _, rfl, fun _ => ⟨rfl, rfl⟩, fun q => by omega, fun q => by omega⟩
  · refine z_iload_n dX11_find_9 rfl ?_
    refine z_iconst dX11_find_10 (by decide) ?_
    refine z_sipush dX11_find_11 (by decide) ?_
    refine z_S3i dX11_find_14 ok_X11_within lk_X11_83 (Nat.le_of_ble_eq_true rfl) (by decide) (cm_X11_within) (fun z1 m1 hm1 => ?_)
    obtain ⟨hz2, rfl⟩ := hm1
    refine z_if_eq 51 dX11_find_17 (by decide) (fun h17 => ?_) (fun h17 => ?_)
    · refine z_bipush dX11_find_51 (by decide) ?_
      refine z_iret dX11_find_53 rfl ?_
      exact ⟨rfl, _, rfl, fun _ => ⟨rfl, rfl⟩, fun q => by omega, fun q => by omega⟩
    · refine z_iload_n dX11_find_20 rfl ?_
      refine z_iconst dX11_find_21 (by decide) ?_
      refine z_bipush dX11_find_22 (by decide) ?_
      refine z_S3i dX11_find_24 ok_X11_within lk_X11_83 (Nat.le_of_ble_eq_true rfl) (by decide) (cm_X11_within) (fun z1 m1 hm1 => ?_)
      obtain ⟨hz3, rfl⟩ := hm1
      refine z_if_eq 51 dX11_find_27 (by decide) (fun h27 => ?_) (fun h27 => ?_)
      · refine z_bipush dX11_find_51 (by decide) ?_
        refine z_iret dX11_find_53 rfl ?_
        exact ⟨rfl, _, rfl, fun _ => ⟨rfl, rfl⟩, fun q => by omega, fun q => by omega⟩
      · refine z_iload dX11_find_30 rfl ?_
        refine z_iconst dX11_find_32 (by decide) ?_
        refine z_bipush dX11_find_33 (by decide) ?_
        refine z_S3i dX11_find_35 ok_X11_within lk_X11_83 (Nat.le_of_ble_eq_true rfl) (by decide) (cm_X11_within) (fun z1 m1 hm1 => ?_)
        obtain ⟨hz4, rfl⟩ := hm1
        refine z_if_eq 51 dX11_find_38 (by decide) (fun h38 => ?_) (fun h38 => ?_)
        · refine z_bipush dX11_find_51 (by decide) ?_
          refine z_iret dX11_find_53 rfl ?_
          exact ⟨rfl, _, rfl, fun _ => ⟨rfl, rfl⟩, fun q => by omega, fun q => by omega⟩
        · refine z_iload dX11_find_41 rfl ?_
          refine z_iconst dX11_find_43 (by decide) ?_
          refine z_iconst dX11_find_44 (by decide) ?_
          refine z_S3i dX11_find_45 ok_X11_within lk_X11_83 (Nat.le_of_ble_eq_true rfl) (by decide) (cm_X11_within) (fun z1 m1 hm1 => ?_)
          obtain ⟨hz5, rfl⟩ := hm1
          refine z_if_ne 54 dX11_find_48 (by decide) (fun h48 => ?_) (fun h48 => ?_)
          · refine z_aload_n dX11_find_54 rfl ?_
            refine z_getR (ty := .int) dX11_find_55 fl_X11_10 (by first | rfl | assumption) rfl rfl ?_
            refine z_iload_n dX11_find_58 rfl ?_
            refine z_iload_n dX11_find_59 rfl ?_
            refine z_iload_n dX11_find_60 rfl ?_
            refine z_iload dX11_find_61 rfl ?_
            refine z_iload dX11_find_63 rfl ?_
            refine z_V5i dX11_find_65 ok_X3_add lk_X11_87 (by first | rfl | assumption) rfl rfl (Nat.le_of_ble_eq_true rfl) (by decide) (cm_X3_add hf) (fun z6 m6 hm6 => ?_)
            refine z_iret dX11_find_68 rfl ?_
            exact ⟨rfl, _, rfl, fun q => by omega, fun _ => hm6.1, fun _ => hm6.2⟩
          · refine z_bipush dX11_find_51 (by decide) ?_
            refine z_iret dX11_find_53 rfl ?_
            exact ⟨rfl, _, rfl, fun _ => ⟨rfl, rfl⟩, fun q => by omega, fun q => by omega⟩
theorem cm_X12_find {mk nb wk md fv : Int} (hf : finM mem nf fd) : CM X (0, 0) 2 mX12_find G0 [vr 88, vi mk, vi nb, vi wk, vi md, vi fv] mem (pI G0 fun z m => (¬ okFind mk nb wk md fv → z = -2 ∧ m = mem) ∧ (okFind mk nb wk md fv → nf = 60 → z = -4 ∧ m = mem) ∧ (okFind mk nb wk md fv → nf < 60 → z = (nf : Int) ∧ finM m (nf + 1) (fdU fd nf (v5 mk nb wk md fv)) ∧ onO 3 91 mem m)) := by
  obtain ⟨hn, hs, hrow⟩ := hf
  unfold okFind
  refine CM.of (by decide +kernel) 1 (Nat.le_of_ble_eq_true rfl) ?_
  show ZZ X (0, 0) 2 mX12_find G0 0 [vr 88, vi mk, vi nb, vi wk, vi md, vi fv, vd] [] mem _
  refine z_iload_n dX12_find_0 rfl ?_
  refine z_S1i dX12_find_1 ok_X12_isMaker lk_X12_103 (Nat.le_of_ble_eq_true rfl) (by decide) (cm_X12_isMaker) (fun z1 m1 hm1 => ?_)
  obtain ⟨hz1, rfl⟩ := hm1
  refine z_if_eq 61 dX12_find_4 (by decide) (fun h4 => ?_) (fun h4 => ?_)
  · refine z_bipush dX12_find_61 (by decide) ?_
    refine z_iret dX12_find_63 rfl ?_
    exact ⟨rfl, _, rfl, fun _ => ⟨rfl, rfl⟩, fun q => by omega, fun q => by omega⟩
  · refine z_iload_n dX12_find_7 rfl ?_
    refine z_i2l dX12_find_8 ?_
    refine z_lconst (z := 0) dX12_find_9 rfl (by decide) ?_
    refine z_ldc2 (z := 9999) dX12_find_10 kc_X12_106 (by decide) ?_
    refine z_S3i dX12_find_13 ok_X12_in lk_X12_97 (Nat.le_of_ble_eq_true rfl) (by decide) (cm_X12_in) (fun z1 m1 hm1 => ?_)
    obtain ⟨hz2, rfl⟩ := hm1
    refine z_if_eq 61 dX12_find_16 (by decide) (fun h16 => ?_) (fun h16 => ?_)
    · refine z_bipush dX12_find_61 (by decide) ?_
      refine z_iret dX12_find_63 rfl ?_
      exact ⟨rfl, _, rfl, fun _ => ⟨rfl, rfl⟩, fun q => by omega, fun q => by omega⟩
    · refine z_iload_n dX12_find_19 rfl ?_
      refine z_i2l dX12_find_20 ?_
      refine z_ldc2 (z := -1) dX12_find_21 kc_X12_108 (by decide) ?_
      refine z_ldc2 (z := 29) dX12_find_24 kc_X12_110 (by decide) ?_
      refine z_S3i dX12_find_27 ok_X12_in lk_X12_97 (Nat.le_of_ble_eq_true rfl) (by decide) (cm_X12_in) (fun z1 m1 hm1 => ?_)
      obtain ⟨hz3, rfl⟩ := hm1
      refine z_if_eq 61 dX12_find_30 (by decide) (fun h30 => ?_) (fun h30 => ?_)
      · refine z_bipush dX12_find_61 (by decide) ?_
        refine z_iret dX12_find_63 rfl ?_
        exact ⟨rfl, _, rfl, fun _ => ⟨rfl, rfl⟩, fun q => by omega, fun q => by omega⟩
      · refine z_iload dX12_find_33 rfl ?_
        refine z_i2l dX12_find_35 ?_
        refine z_ldc2 (z := -1) dX12_find_36 kc_X12_108 (by decide) ?_
        refine z_ldc2 (z := 19) dX12_find_39 kc_X12_112 (by decide) ?_
        refine z_S3i dX12_find_42 ok_X12_in lk_X12_97 (Nat.le_of_ble_eq_true rfl) (by decide) (cm_X12_in) (fun z1 m1 hm1 => ?_)
        obtain ⟨hz4, rfl⟩ := hm1
        refine z_if_eq 61 dX12_find_45 (by decide) (fun h45 => ?_) (fun h45 => ?_)
        · refine z_bipush dX12_find_61 (by decide) ?_
          refine z_iret dX12_find_63 rfl ?_
          exact ⟨rfl, _, rfl, fun _ => ⟨rfl, rfl⟩, fun q => by omega, fun q => by omega⟩
        · refine z_iload dX12_find_48 rfl ?_
          refine z_i2l dX12_find_50 ?_
          refine z_lconst (z := 0) dX12_find_51 rfl (by decide) ?_
          refine z_ldc2 (z := 3) dX12_find_52 kc_X12_114 (by decide) ?_
          refine z_S3i dX12_find_55 ok_X12_in lk_X12_97 (Nat.le_of_ble_eq_true rfl) (by decide) (cm_X12_in) (fun z1 m1 hm1 => ?_)
          obtain ⟨hz5, rfl⟩ := hm1
          refine z_if_ne 64 dX12_find_58 (by decide) (fun h58 => ?_) (fun h58 => ?_)
          · refine z_aload_n dX12_find_64 rfl ?_
            refine z_gI 3 dX12_find_65 fl_X12_116 (by first | rfl | assumption) rfl rfl ?_
            rw [hs]
            refine z_bipush dX12_find_68 (by decide) ?_
            refine z_icmp_ne 76 dX12_find_70 (by decide) (fun h70 => ?_) (fun h70 => ?_)
            · refine z_bipush dX12_find_76 (by decide) ?_
              refine z_aload_n dX12_find_78 rfl ?_
              refine z_gI 3 dX12_find_79 fl_X12_116 (by first | rfl | assumption) rfl rfl ?_
              rw [hs]
              refine z_imul dX12_find_82 (by omega) ?_
              refine z_istore dX12_find_83 (by decide) rfl ?_
              dsimp only [List.set]
              refine z_aload_n dX12_find_85 rfl ?_
              refine z_getR (ty := .int) dX12_find_86 fl_X12_16 (by first | rfl | assumption) rfl rfl ?_
              refine z_iload dX12_find_89 rfl ?_
              refine z_iload_n dX12_find_91 rfl ?_
              refine z_iast dX12_find_92 (by first | rfl | assumption) (by omega) (by omega) ?_
              refine z_aload_n dX12_find_93 rfl ?_
              refine z_getR (ty := .int) dX12_find_94 fl_X12_16 (by first | rfl | assumption) rfl rfl ?_
              refine z_iload dX12_find_97 rfl ?_
              refine z_iconst dX12_find_99 (by decide) ?_
              refine z_iadd dX12_find_100 (by omega) ?_
              refine z_iload_n dX12_find_101 rfl ?_
              refine z_iast dX12_find_102 (by first | rfl | assumption) (by omega) (by omega) ?_
              refine z_aload_n dX12_find_103 rfl ?_
              refine z_getR (ty := .int) dX12_find_104 fl_X12_16 (by first | rfl | assumption) rfl rfl ?_
              refine z_iload dX12_find_107 rfl ?_
              refine z_iconst dX12_find_109 (by decide) ?_
              refine z_iadd dX12_find_110 (by omega) ?_
              refine z_iload_n dX12_find_111 rfl ?_
              refine z_iast dX12_find_112 (by first | rfl | assumption) (by omega) (by omega) ?_
              refine z_aload_n dX12_find_113 rfl ?_
              refine z_getR (ty := .int) dX12_find_114 fl_X12_16 (by first | rfl | assumption) rfl rfl ?_
              refine z_iload dX12_find_117 rfl ?_
              refine z_iconst dX12_find_119 (by decide) ?_
              refine z_iadd dX12_find_120 (by omega) ?_
              refine z_iload dX12_find_121 rfl ?_
              refine z_iast dX12_find_123 (by first | rfl | assumption) (by omega) (by omega) ?_
              refine z_aload_n dX12_find_124 rfl ?_
              refine z_getR (ty := .int) dX12_find_125 fl_X12_16 (by first | rfl | assumption) rfl rfl ?_
              refine z_iload dX12_find_128 rfl ?_
              refine z_iconst dX12_find_130 (by decide) ?_
              refine z_iadd dX12_find_131 (by omega) ?_
              refine z_iload dX12_find_132 rfl ?_
              refine z_iast dX12_find_134 (by first | rfl | assumption) (by omega) (by omega) ?_
              refine z_aload_n dX12_find_135 rfl ?_
              refine z_getR (ty := .int) dX12_find_136 fl_X12_16 (by first | rfl | assumption) rfl rfl ?_
              refine z_iload dX12_find_139 rfl ?_
              refine z_iconst dX12_find_141 (by decide) ?_
              refine z_iadd dX12_find_142 (by omega) ?_
              refine z_iconst dX12_find_143 (by decide) ?_
              refine z_iast dX12_find_144 (by first | rfl | assumption) (by omega) (by omega) ?_
              refine z_aload_n dX12_find_145 rfl ?_
              refine z_dup dX12_find_146 (by intro z q; cases q) ?_
              refine z_gI 3 dX12_find_147 fl_X12_116 (by first | rfl | assumption) rfl rfl ?_
              rw [mset_ne _ (by decide), mset_ne _ (by decide), mset_ne _ (by decide), mset_ne _ (by decide), mset_ne _ (by decide), mset_ne _ (by decide), hs]
              refine z_iconst dX12_find_150 (by decide) ?_
              refine z_iadd dX12_find_151 (by omega) ?_
              refine z_pI 3 dX12_find_152 fm_X12_116 (by first | rfl | assumption) rfl rfl ?_
              refine z_aload_n dX12_find_155 rfl ?_
              refine z_gI 3 dX12_find_156 fl_X12_116 (by first | rfl | assumption) rfl rfl ?_
              rw [mset_eq]
              refine z_iconst dX12_find_159 (by decide) ?_
              refine z_isub dX12_find_160 (by omega) ?_
              refine z_iret dX12_find_161 rfl ?_
              refine ⟨rfl, _, rfl, fun q => by omega, fun _ q => by omega, fun _ _ => ⟨by omega, ⟨by omega, ?_, ?_⟩, ?_, ?_⟩⟩
              · rw [mset_eq]; omega
              · intro k i hk hi
                rw [mset_ne _ (by decide)]
                unfold fdU
                by_cases e : i = nf
                · rw [if_pos e]
                  subst e
                  obtain rfl | rfl | rfl | rfl | rfl | rfl : k = 0 ∨ k = 1 ∨ k = 2 ∨ k = 3 ∨ k = 4 ∨ k = 5 := by omega
                  · rw [mset_nej _ _ (by omega), mset_nej _ _ (by omega), mset_nej _ _ (by omega), mset_nej _ _ (by omega), mset_nej _ _ (by omega), show 6 * (i : Int) + ((0 : Nat) : Int) = 6 * (i : Int) by omega, mset_eq]; rfl
                  · rw [mset_nej _ _ (by omega), mset_nej _ _ (by omega), mset_nej _ _ (by omega), mset_nej _ _ (by omega)]; exact mset_eq _ _ _ _
                  · rw [mset_nej _ _ (by omega), mset_nej _ _ (by omega), mset_nej _ _ (by omega)]; exact mset_eq _ _ _ _
                  · rw [mset_nej _ _ (by omega), mset_nej _ _ (by omega)]; exact mset_eq _ _ _ _
                  · rw [mset_nej _ _ (by omega)]; exact mset_eq _ _ _ _
                  · exact mset_eq _ _ _ _
                · rw [if_neg e, mset_nej _ _ (by omega), mset_nej _ _ (by omega), mset_nej _ _ (by omega), mset_nej _ _ (by omega), mset_nej _ _ (by omega), mset_nej _ _ (by omega)]
                  exact hrow k i hk (by omega)
              · intro a ha hb
                rw [mset_ne _ ha, mset_ne _ hb, mset_ne _ hb, mset_ne _ hb, mset_ne _ hb, mset_ne _ hb, mset_ne _ hb]
              · intro j hj
                rw [mset_nej _ _ hj, mset_ne _ (by decide), mset_ne _ (by decide), mset_ne _ (by decide), mset_ne _ (by decide), mset_ne _ (by decide), mset_ne _ (by decide)]
            · refine z_bipush dX12_find_73 (by decide) ?_
              refine z_iret dX12_find_75 rfl ?_
              exact ⟨rfl, _, rfl, fun q => by omega, fun _ _ => ⟨rfl, rfl⟩, fun q => by omega⟩
          · refine z_bipush dX12_find_61 (by decide) ?_
            refine z_iret dX12_find_63 rfl ?_
            exact ⟨rfl, _, rfl, fun _ => ⟨rfl, rfl⟩, fun q => by omega, fun q => by omega⟩
theorem cm_X11_most {n v : Int} (hm : mem 0 10 = v) : CM X (0, 0) 1 mX11_most G0 [vr 0, vi n] mem (pI G0 fun z m => (¬ mostOk n → z = -2 ∧ m = mem) ∧ (mostOk n → z = v ∧ m = mset mem 0 10 n)) := by
  unfold mostOk
  refine CM.of (by decide +kernel) 1 (Nat.le_of_ble_eq_true rfl) ?_
  show ZZ X (0, 0) 1 mX11_most G0 0 [vr 0, vi n, vd] [] mem _
  refine z_iload_n dX11_most_0 rfl ?_
  refine z_iconst dX11_most_1 (by decide) ?_
  refine z_sipush dX11_most_2 (by decide) ?_
  refine z_S3i dX11_most_5 ok_X11_within lk_X11_83 (Nat.le_of_ble_eq_true rfl) (by decide) (cm_X11_within) (fun z1 m1 hm1 => ?_)
  obtain ⟨hz1, rfl⟩ := hm1
  refine z_if_ne 14 dX11_most_8 (by decide) (fun h8 => ?_) (fun h8 => ?_)
  · refine z_aload_n dX11_most_14 rfl ?_
    refine z_gI 10 dX11_most_15 fl_X11_79 (by first | rfl | assumption) rfl rfl ?_
    rw [hm]
    refine z_istore_n dX11_most_18 (by decide) rfl ?_
    dsimp only [List.set]
    refine z_aload_n dX11_most_19 rfl ?_
    refine z_iload_n dX11_most_20 rfl ?_
    refine z_pI 10 dX11_most_21 fm_X11_79 (by first | rfl | assumption) rfl rfl ?_
    refine z_iload_n dX11_most_24 rfl ?_
    refine z_iret dX11_most_25 rfl ?_
    exact ⟨rfl, _, rfl, fun q => by omega, fun _ => ⟨rfl, rfl⟩⟩
  · refine z_bipush dX11_most_11 (by decide) ?_
    refine z_iret dX11_most_13 rfl ?_
    exact ⟨rfl, _, rfl, fun _ => ⟨rfl, rfl⟩, fun q => by omega⟩
theorem cm_X12_most {n v : Int} (hm : mem 88 4 = v) : CM X (0, 0) 1 mX12_most G0 [vr 88, vi n] mem (pI G0 fun z m => (¬ mostOk n → z = -2 ∧ m = mem) ∧ (mostOk n → z = v ∧ m = mset mem 88 4 n)) := by
  unfold mostOk
  refine CM.of (by decide +kernel) 1 (Nat.le_of_ble_eq_true rfl) ?_
  show ZZ X (0, 0) 1 mX12_most G0 0 [vr 88, vi n, vd] [] mem _
  refine z_iload_n dX12_most_0 rfl ?_
  refine z_i2l dX12_most_1 ?_
  refine z_lconst (z := 1) dX12_most_2 rfl (by decide) ?_
  refine z_ldc2 (z := 150) dX12_most_3 kc_X12_151 (by decide) ?_
  refine z_S3i dX12_most_6 ok_X12_in lk_X12_97 (Nat.le_of_ble_eq_true rfl) (by decide) (cm_X12_in) (fun z1 m1 hm1 => ?_)
  obtain ⟨hz1, rfl⟩ := hm1
  refine z_if_ne 15 dX12_most_9 (by decide) (fun h9 => ?_) (fun h9 => ?_)
  · refine z_aload_n dX12_most_15 rfl ?_
    refine z_gI 4 dX12_most_16 fl_X12_59 (by first | rfl | assumption) rfl rfl ?_
    rw [hm]
    refine z_istore_n dX12_most_19 (by decide) rfl ?_
    dsimp only [List.set]
    refine z_aload_n dX12_most_20 rfl ?_
    refine z_iload_n dX12_most_21 rfl ?_
    refine z_pI 4 dX12_most_22 fm_X12_59 (by first | rfl | assumption) rfl rfl ?_
    refine z_iload_n dX12_most_25 rfl ?_
    refine z_iret dX12_most_26 rfl ?_
    exact ⟨rfl, _, rfl, fun q => by omega, fun _ => ⟨rfl, rfl⟩⟩
  · refine z_bipush dX12_most_12 (by decide) ?_
    refine z_iret dX12_most_14 rfl ?_
    exact ⟨rfl, _, rfl, fun _ => ⟨rfl, rfl⟩, fun q => by omega⟩
def okCan (a b c d e : Int) : Prop := (1 ≤ a ∧ a ≤ 20) ∧ (1 ≤ b ∧ b ≤ 9) ∧ (1 ≤ c ∧ c ≤ 7) ∧ (1 ≤ d ∧ d ≤ 99) ∧ (0 ≤ e ∧ e ≤ 99)
theorem can_b {a b c d e : Int} (h : okCan a b c d e) : (0 ≤ a * b ∧ a * b ≤ 180) ∧ (0 ≤ a * b * c ∧ a * b * c ≤ 1260) ∧ (0 ≤ a * b * c * e ∧ a * b * c * e ≤ 124740) := by
  unfold okCan at h
  have h1 : a * b ≤ 20 * b := Int.mul_le_mul_of_nonneg_right (by omega) (by omega)
  have h2 := Int.mul_nonneg (show 0 ≤ a by omega) (show 0 ≤ b by omega)
  have h3 : a * b * c ≤ 180 * c := Int.mul_le_mul_of_nonneg_right (by omega) (by omega)
  have h4 := Int.mul_nonneg h2 (show 0 ≤ c by omega)
  have h5 : a * b * c * e ≤ 1260 * e := Int.mul_le_mul_of_nonneg_right (by omega) (by omega)
  have h6 := Int.mul_nonneg h4 (show 0 ≤ e by omega)
  omega
theorem cm_X11_can {a b c d e : Int} : CM X (0, 0) 1 mX11_can G0 [vr 0, vi a, vi b, vi c, vi d, vi e] mem (pI G0 fun z m => ((¬ okCan a b c d e → z = -2) ∧ (okCan a b c d e → z = a * b * c * e / d)) ∧ m = mem) := by
  refine CM.of (by decide +kernel) 0 (Nat.le_of_ble_eq_true rfl) ?_
  show ZZ X (0, 0) 1 mX11_can G0 0 [vr 0, vi a, vi b, vi c, vi d, vi e] [] mem _
  refine z_iload_n dX11_can_0 rfl ?_
  refine z_iconst dX11_can_1 (by decide) ?_
  refine z_bipush dX11_can_2 (by decide) ?_
  refine z_S3i dX11_can_4 ok_X11_within lk_X11_83 (Nat.le_of_ble_eq_true rfl) (by decide) (cm_X11_within) (fun z1 m1 hm1 => ?_)
  obtain ⟨hz1, rfl⟩ := hm1
  refine z_if_eq 52 dX11_can_7 (by decide) (fun h7 => ?_) (fun h7 => ?_)
  · refine z_bipush dX11_can_52 (by decide) ?_
    refine z_iret dX11_can_54 rfl ?_
    exact ⟨rfl, _, rfl, ⟨fun _ => rfl, fun q => by unfold okCan at q; omega⟩, rfl⟩
  · refine z_iload_n dX11_can_10 rfl ?_
    refine z_iconst dX11_can_11 (by decide) ?_
    refine z_bipush dX11_can_12 (by decide) ?_
    refine z_S3i dX11_can_14 ok_X11_within lk_X11_83 (Nat.le_of_ble_eq_true rfl) (by decide) (cm_X11_within) (fun z1 m1 hm1 => ?_)
    obtain ⟨hz2, rfl⟩ := hm1
    refine z_if_eq 52 dX11_can_17 (by decide) (fun h17 => ?_) (fun h17 => ?_)
    · refine z_bipush dX11_can_52 (by decide) ?_
      refine z_iret dX11_can_54 rfl ?_
      exact ⟨rfl, _, rfl, ⟨fun _ => rfl, fun q => by unfold okCan at q; omega⟩, rfl⟩
    · refine z_iload_n dX11_can_20 rfl ?_
      refine z_iconst dX11_can_21 (by decide) ?_
      refine z_bipush dX11_can_22 (by decide) ?_
      refine z_S3i dX11_can_24 ok_X11_within lk_X11_83 (Nat.le_of_ble_eq_true rfl) (by decide) (cm_X11_within) (fun z1 m1 hm1 => ?_)
      obtain ⟨hz3, rfl⟩ := hm1
      refine z_if_eq 52 dX11_can_27 (by decide) (fun h27 => ?_) (fun h27 => ?_)
      · refine z_bipush dX11_can_52 (by decide) ?_
        refine z_iret dX11_can_54 rfl ?_
        exact ⟨rfl, _, rfl, ⟨fun _ => rfl, fun q => by unfold okCan at q; omega⟩, rfl⟩
      · refine z_iload dX11_can_30 rfl ?_
        refine z_iconst dX11_can_32 (by decide) ?_
        refine z_bipush dX11_can_33 (by decide) ?_
        refine z_S3i dX11_can_35 ok_X11_within lk_X11_83 (Nat.le_of_ble_eq_true rfl) (by decide) (cm_X11_within) (fun z1 m1 hm1 => ?_)
        obtain ⟨hz4, rfl⟩ := hm1
        refine z_if_eq 52 dX11_can_38 (by decide) (fun h38 => ?_) (fun h38 => ?_)
        · refine z_bipush dX11_can_52 (by decide) ?_
          refine z_iret dX11_can_54 rfl ?_
          exact ⟨rfl, _, rfl, ⟨fun _ => rfl, fun q => by unfold okCan at q; omega⟩, rfl⟩
        · refine z_iload dX11_can_41 rfl ?_
          refine z_iconst dX11_can_43 (by decide) ?_
          refine z_bipush dX11_can_44 (by decide) ?_
          refine z_S3i dX11_can_46 ok_X11_within lk_X11_83 (Nat.le_of_ble_eq_true rfl) (by decide) (cm_X11_within) (fun z1 m1 hm1 => ?_)
          obtain ⟨hz5, rfl⟩ := hm1
          refine z_if_ne 55 dX11_can_49 (by decide) (fun h49 => ?_) (fun h49 => ?_)
          · have hok : okCan a b c d e := by unfold okCan; omega
            have hb := can_b hok
            refine z_iload_n dX11_can_55 rfl ?_
            refine z_iload_n dX11_can_56 rfl ?_
            refine z_imul dX11_can_57 (by omega) ?_
            refine z_iload_n dX11_can_58 rfl ?_
            refine z_imul dX11_can_59 (by omega) ?_
            refine z_iload dX11_can_60 rfl ?_
            refine z_imul dX11_can_62 (by omega) ?_
            refine z_iload dX11_can_63 rfl ?_
            refine z_idiv dX11_can_65 (by omega) (by omega) ?_
            refine z_iret dX11_can_66 rfl ?_
            exact ⟨rfl, _, rfl, ⟨fun q => absurd hok q, fun _ => rfl⟩, rfl⟩
          · refine z_bipush dX11_can_52 (by decide) ?_
            refine z_iret dX11_can_54 rfl ?_
            exact ⟨rfl, _, rfl, ⟨fun _ => rfl, fun q => by unfold okCan at q; omega⟩, rfl⟩
theorem cm_X12_can {a b c d e : Int} : CM X (0, 0) 1 mX12_can G0 [vr 88, vi a, vi b, vi c, vi d, vi e] mem (pI G0 fun z m => ((¬ okCan a b c d e → z = -2) ∧ (okCan a b c d e → z = a * b * c * e / d)) ∧ m = mem) := by
  refine CM.of (by decide +kernel) 0 (Nat.le_of_ble_eq_true rfl) ?_
  show ZZ X (0, 0) 1 mX12_can G0 0 [vr 88, vi a, vi b, vi c, vi d, vi e] [] mem _
  refine z_iload_n dX12_can_0 rfl ?_
  refine z_i2l dX12_can_1 ?_
  refine z_lconst (z := 1) dX12_can_2 rfl (by decide) ?_
  refine z_ldc2 (z := 20) dX12_can_3 kc_X12_212 (by decide) ?_
  refine z_S3i dX12_can_6 ok_X12_in lk_X12_97 (Nat.le_of_ble_eq_true rfl) (by decide) (cm_X12_in) (fun z1 m1 hm1 => ?_)
  obtain ⟨hz1, rfl⟩ := hm1
  refine z_if_eq 62 dX12_can_9 (by decide) (fun h9 => ?_) (fun h9 => ?_)
  · refine z_bipush dX12_can_62 (by decide) ?_
    refine z_iret dX12_can_64 rfl ?_
    exact ⟨rfl, _, rfl, ⟨fun _ => rfl, fun q => by unfold okCan at q; omega⟩, rfl⟩
  · refine z_iload_n dX12_can_12 rfl ?_
    refine z_i2l dX12_can_13 ?_
    refine z_lconst (z := 1) dX12_can_14 rfl (by decide) ?_
    refine z_ldc2 (z := 9) dX12_can_15 kc_X12_214 (by decide) ?_
    refine z_S3i dX12_can_18 ok_X12_in lk_X12_97 (Nat.le_of_ble_eq_true rfl) (by decide) (cm_X12_in) (fun z1 m1 hm1 => ?_)
    obtain ⟨hz2, rfl⟩ := hm1
    refine z_if_eq 62 dX12_can_21 (by decide) (fun h21 => ?_) (fun h21 => ?_)
    · refine z_bipush dX12_can_62 (by decide) ?_
      refine z_iret dX12_can_64 rfl ?_
      exact ⟨rfl, _, rfl, ⟨fun _ => rfl, fun q => by unfold okCan at q; omega⟩, rfl⟩
    · refine z_iload_n dX12_can_24 rfl ?_
      refine z_i2l dX12_can_25 ?_
      refine z_lconst (z := 1) dX12_can_26 rfl (by decide) ?_
      refine z_ldc2 (z := 7) dX12_can_27 kc_X12_216 (by decide) ?_
      refine z_S3i dX12_can_30 ok_X12_in lk_X12_97 (Nat.le_of_ble_eq_true rfl) (by decide) (cm_X12_in) (fun z1 m1 hm1 => ?_)
      obtain ⟨hz3, rfl⟩ := hm1
      refine z_if_eq 62 dX12_can_33 (by decide) (fun h33 => ?_) (fun h33 => ?_)
      · refine z_bipush dX12_can_62 (by decide) ?_
        refine z_iret dX12_can_64 rfl ?_
        exact ⟨rfl, _, rfl, ⟨fun _ => rfl, fun q => by unfold okCan at q; omega⟩, rfl⟩
      · refine z_iload dX12_can_36 rfl ?_
        refine z_i2l dX12_can_38 ?_
        refine z_lconst (z := 1) dX12_can_39 rfl (by decide) ?_
        refine z_ldc2 (z := 99) dX12_can_40 kc_X12_143 (by decide) ?_
        refine z_S3i dX12_can_43 ok_X12_in lk_X12_97 (Nat.le_of_ble_eq_true rfl) (by decide) (cm_X12_in) (fun z1 m1 hm1 => ?_)
        obtain ⟨hz4, rfl⟩ := hm1
        refine z_if_eq 62 dX12_can_46 (by decide) (fun h46 => ?_) (fun h46 => ?_)
        · refine z_bipush dX12_can_62 (by decide) ?_
          refine z_iret dX12_can_64 rfl ?_
          exact ⟨rfl, _, rfl, ⟨fun _ => rfl, fun q => by unfold okCan at q; omega⟩, rfl⟩
        · refine z_iload dX12_can_49 rfl ?_
          refine z_i2l dX12_can_51 ?_
          refine z_lconst (z := 0) dX12_can_52 rfl (by decide) ?_
          refine z_ldc2 (z := 99) dX12_can_53 kc_X12_143 (by decide) ?_
          refine z_S3i dX12_can_56 ok_X12_in lk_X12_97 (Nat.le_of_ble_eq_true rfl) (by decide) (cm_X12_in) (fun z1 m1 hm1 => ?_)
          obtain ⟨hz5, rfl⟩ := hm1
          refine z_if_ne 65 dX12_can_59 (by decide) (fun h59 => ?_) (fun h59 => ?_)
          · have hok : okCan a b c d e := by unfold okCan; omega
            have hb := can_b hok
            refine z_iload_n dX12_can_65 rfl ?_
            refine z_iload_n dX12_can_66 rfl ?_
            refine z_imul dX12_can_67 (by omega) ?_
            refine z_iload_n dX12_can_68 rfl ?_
            refine z_imul dX12_can_69 (by omega) ?_
            refine z_iload dX12_can_70 rfl ?_
            refine z_imul dX12_can_72 (by omega) ?_
            refine z_iload dX12_can_73 rfl ?_
            refine z_idiv dX12_can_75 (by omega) (by omega) ?_
            refine z_iret dX12_can_76 rfl ?_
            exact ⟨rfl, _, rfl, ⟨fun q => absurd hok q, fun _ => rfl⟩, rfl⟩
          · refine z_bipush dX12_can_62 (by decide) ?_
            refine z_iret dX12_can_64 rfl ?_
            exact ⟨rfl, _, rfl, ⟨fun _ => rfl, fun q => by unfold okCan at q; omega⟩, rfl⟩
end OpsA
