/-! ===== the class's chance ===== -/
section Like
variable {X : Nat × (Int → Int)} {mem : Mem} {nf : Nat} {fd : Nat → Nat → Int}
def ways0 (mem : Mem) : Prop := ∀ n : Nat, 1 ≤ n → n ≤ 12 → mem 36 (n : Int) = 0
theorem cm_X2_waysWithoutGap {g wk dt : Nat} (hg : mem 33 3 = (g : Int)) (hg30 : g ≤ 30) (hw1 : 1 ≤ wk) (hw : wk ≤ 30) (hd1 : 1 ≤ dt) (hdt : dt ≤ 12) (h0 : ways0 mem) : CM X (0, 0) 2 mX2_waysWithoutGap G0 [vr 33, vi (wk : Int), vi (dt : Int)] mem (pL G0 fun z m => z = (nrA g (wk + 1) dt : Int) ∧ ways0 m ∧ ∀ y, y < 36 ∨ 67 < y → m y = mem y) := by
  refine CM.of (by decide +kernel) 2 (Nat.le_of_ble_eq_true rfl) ?_
  show ZZ X (0, 0) 2 mX2_waysWithoutGap G0 0 [vr 33, vi (wk : Int), vi (dt : Int), vd, vd] [] mem _
  have outer : ∀ (d W : Nat) (m : Mem) (u : VV), W + d = wk → (∀ v : Nat, v < W + 1 → ∀ n : Nat, n ≤ dt → m (36 + v) (n : Int) = (waA g v n : Int)) → ways0 m → (∀ y, y < 36 ∨ 67 < y → m y = mem y) → (∀ z, u ≠ vl z) → ZZ X (0, 0) 2 mX2_waysWithoutGap G0 11 [vr 33, vi (wk : Int), vi (dt : Int), vi ((W + 1 : Nat) : Int), u] [] m (pL G0 fun z m => z = (nrA g (wk + 1) dt : Int) ∧ ways0 m ∧ ∀ y, y < 36 ∨ 67 < y → m y = mem y) := by
    intro d
    induction d with
    | zero =>
      intro W m u hi h1 hz h2 hu
      have : W = wk := by omega
      subst this
      have e33 : m 33 3 = (g : Int) := (congrFun (h2 33 (by decide)) _).trans hg
      refine z_iload_n dX2_waysWithoutGap_11 rfl ?_
      refine z_iload_n dX2_waysWithoutGap_12 rfl ?_
      refine z_icmp_gt 71 dX2_waysWithoutGap_13 (by decide) (fun h13 => ?_) (fun h13 => ?_)
      · refine z_aload_n dX2_waysWithoutGap_71 rfl ?_
        refine z_iload_n dX2_waysWithoutGap_72 rfl ?_
        refine z_iconst dX2_waysWithoutGap_73 (by decide) ?_
        refine z_iadd dX2_waysWithoutGap_74 (by omega) ?_
        refine z_iload_n dX2_waysWithoutGap_75 rfl ?_
        rw [show (W : Int) + 1 = ((W + 1 : Nat) : Int) by omega]
        refine z_V2v dX2_waysWithoutGap_76 ok_X2_sumNear lk_X2_77 (by first | rfl | assumption) rfl rfl (Nat.le_of_ble_eq_true rfl) (by decide) (cm_X2_sumNear e33 hg30 (by omega) (by omega) hdt h1) (fun m2 hm2 => ?_)
        obtain ⟨f1, f2⟩ := hm2
        refine z_iload_n dX2_waysWithoutGap_79 rfl ?_
        refine z_iconst dX2_waysWithoutGap_80 (by decide) ?_
        refine z_bipush dX2_waysWithoutGap_81 (by decide) ?_
        refine z_S3i dX2_waysWithoutGap_83 ok_X11_within lk_X2_54 (Nat.le_of_ble_eq_true rfl) (by decide) (cm_X11_within) (fun z3 m3 hm3 => ?_)
        obtain ⟨hz3, rfl⟩ := hm3
        refine z_if_eq 98 dX2_waysWithoutGap_86 (by decide) (fun h86 => ?_) (fun h86 => ?_)
        · omega
        · refine z_aload_n dX2_waysWithoutGap_89 rfl ?_
          refine z_getR (ty := .int) dX2_waysWithoutGap_90 fl_X2_22 (by first | rfl | assumption) rfl rfl ?_
          refine z_iload_n dX2_waysWithoutGap_93 rfl ?_
          refine z_lald dX2_waysWithoutGap_94 (by first | rfl | assumption) (by omega) (by omega) ?_
          rw [f1 dt (Nat.le_refl dt)]
          refine z_goto 99 dX2_waysWithoutGap_95 (by decide) ?_
          refine z_lret dX2_waysWithoutGap_99 rfl ?_
          exact ⟨rfl, _, rfl, rfl, fun n a b => (congrFun (f2 36 (by decide)) _).trans (hz n a b), fun y hy => (f2 y (by omega)).trans (h2 y hy)⟩
      · omega
    | succ d ih =>
      intro W m u hi h1 hz h2 hu
      have e33 : m 33 3 = (g : Int) := (congrFun (h2 33 (by decide)) _).trans hg
      have hcell := way_g ⟨W + 1, by omega⟩
      have href := way_r ⟨W + 1, by omega⟩
      dsimp only at hcell href
      have inner : ∀ (e n : Nat) (m : Mem), n + e = dt + 1 → (∀ v : Nat, v < W + 1 → ∀ n : Nat, n ≤ dt → m (36 + v) (n : Int) = (waA g v n : Int)) → (∀ k : Nat, k < n → m (36 + (W + 1)) (k : Int) = (waA g (W + 1) k : Int)) → (∀ n : Nat, n ≤ dt → m 67 (n : Int) = (nrA g (W + 1) n : Int)) → ways0 m → (∀ y, y < 36 ∨ 67 < y → m y = mem y) → ZZ X (0, 0) 2 mX2_waysWithoutGap G0 31 [vr 33, vi (wk : Int), vi (dt : Int), vi ((W + 1 : Nat) : Int), vi (n : Int)] [] m (pL G0 fun z m => z = (nrA g (wk + 1) dt : Int) ∧ ways0 m ∧ ∀ y, y < 36 ∨ 67 < y → m y = mem y) := by
        intro e
        induction e with
        | zero =>
          intro n m hn h1 hk hr hz h2
          refine z_iload dX2_waysWithoutGap_31 rfl ?_
          refine z_iload_n dX2_waysWithoutGap_33 rfl ?_
          refine z_icmp_gt 65 dX2_waysWithoutGap_34 (by decide) (fun h34 => ?_) (fun h34 => ?_)
          · refine z_iinc dX2_waysWithoutGap_65 rfl (by omega) (by decide) rfl ?_
            dsimp only [List.set]
            refine z_goto 11 dX2_waysWithoutGap_68 (by decide) ?_
            refine ih (W + 1) _ _ (by omega) (fun v hv n' hn' => ?_) hz h2 (by intro z q; cases q)
            by_cases q : v = W + 1
            · subst q; exact hk n' (by omega)
            · exact h1 v (by omega) n' hn'
          · omega
        | succ e ihe =>
          intro n m hn h1 hk hr hz h2
          have hj := cm_X2_waysToJoin (X := X) (mem := m) (n := n) (w := W) (N := nrA g (W + 1)) (by omega) (by omega) (fun k hk => ⟨hr k (by omega), nr_le (w := W + 1) (by omega) (by omega) (by omega) (Nat.le_refl _)⟩)
          rw [wa_join (by omega)] at hj
          refine z_iload dX2_waysWithoutGap_31 rfl ?_
          refine z_iload_n dX2_waysWithoutGap_33 rfl ?_
          refine z_icmp_gt 65 dX2_waysWithoutGap_34 (by decide) (fun h34 => ?_) (fun h34 => ?_)
          · omega
          · refine z_iload dX2_waysWithoutGap_37 rfl ?_
            refine z_bipush dX2_waysWithoutGap_39 (by decide) ?_
            refine z_icmp_gt 65 dX2_waysWithoutGap_41 (by decide) (fun h41 => ?_) (fun h41 => ?_)
            · omega
            · refine z_aload_n dX2_waysWithoutGap_44 rfl ?_
              refine z_getR (ty := .int) dX2_waysWithoutGap_45 fl_X2_19 (by first | rfl | assumption) rfl rfl ?_
              refine z_iload_n dX2_waysWithoutGap_48 rfl ?_
              refine z_aald dX2_waysWithoutGap_49 rfl (by omega) (by omega) href ?_
              refine z_iload dX2_waysWithoutGap_50 rfl ?_
              refine z_aload_n dX2_waysWithoutGap_52 rfl ?_
              refine z_iload dX2_waysWithoutGap_53 rfl ?_
              refine z_V1l dX2_waysWithoutGap_55 ok_X2_waysToJoin lk_X2_81 (by first | rfl | assumption) rfl rfl (Nat.le_of_ble_eq_true rfl) (by decide) (hj) (fun z3 m3 hm3 => ?_)
              obtain ⟨rfl, rfl⟩ := hm3
              refine z_last dX2_waysWithoutGap_58 (by first | rfl | assumption) (by omega) (by omega) ?_
              refine z_iinc dX2_waysWithoutGap_59 rfl (by omega) (by decide) rfl ?_
              dsimp only [List.set]
              refine z_goto 31 dX2_waysWithoutGap_62 (by decide) ?_
              refine ihe (n + 1) _ (by omega) (fun v hv n' hn' => ?_) (fun k hk' => ?_) (fun n' hn' => ?_) (fun n' a b => ?_) (fun y hy => ?_)
              · rw [mset_ne _ (by omega)]; exact h1 v hv n' hn'
              · by_cases q : k = n
                · subst q; exact mset_eq _ _ _ _
                · rw [mset_nej _ _ (by omega)]; exact hk k (by omega)
              · rw [mset_ne _ (by omega)]; exact hr n' hn'
              · rw [mset_ne _ (by omega)]; exact hz n' a b
              · rw [mset_ne _ (by omega)]; exact h2 y hy
      refine z_kill 4 ?_
      dsimp only [List.set]
      refine z_iload_n dX2_waysWithoutGap_11 rfl ?_
      refine z_iload_n dX2_waysWithoutGap_12 rfl ?_
      refine z_icmp_gt 71 dX2_waysWithoutGap_13 (by decide) (fun h13 => ?_) (fun h13 => ?_)
      · omega
      · refine z_iload_n dX2_waysWithoutGap_16 rfl ?_
        refine z_bipush dX2_waysWithoutGap_17 (by decide) ?_
        refine z_icmp_gt 71 dX2_waysWithoutGap_19 (by decide) (fun h19 => ?_) (fun h19 => ?_)
        · omega
        · refine z_aload_n dX2_waysWithoutGap_22 rfl ?_
          refine z_iload_n dX2_waysWithoutGap_23 rfl ?_
          refine z_iload_n dX2_waysWithoutGap_24 rfl ?_
          refine z_V2v dX2_waysWithoutGap_25 ok_X2_sumNear lk_X2_77 (by first | rfl | assumption) rfl rfl (Nat.le_of_ble_eq_true rfl) (by decide) (cm_X2_sumNear e33 hg30 (by omega) (by omega) hdt h1) (fun m2 hm2 => ?_)
          obtain ⟨f1, f2⟩ := hm2
          refine z_iconst dX2_waysWithoutGap_28 (by decide) ?_
          refine z_istore dX2_waysWithoutGap_29 (by decide) rfl ?_
          dsimp only [List.set]
          exact inner (dt + 1) 0 _ (by omega) (fun v hv n hn => by rw [f2 _ (by omega)]; exact h1 v hv n hn) (fun k hk => by omega) f1 (fun n a b => (congrFun (f2 36 (by decide)) _).trans (hz n a b)) (fun y hy => (f2 y (by omega)).trans (h2 y hy))
  refine z_aload_n dX2_waysWithoutGap_0 rfl ?_
  refine z_getR (ty := .int) dX2_waysWithoutGap_1 fl_X2_19 (by first | rfl | assumption) rfl rfl ?_
  refine z_iconst dX2_waysWithoutGap_4 (by decide) ?_
  refine z_aald (r := 36) dX2_waysWithoutGap_5 rfl (by decide) (by decide) rfl ?_
  refine z_iconst dX2_waysWithoutGap_6 (by decide) ?_
  refine z_lconst (z := 1) dX2_waysWithoutGap_7 rfl (by decide) ?_
  refine z_last dX2_waysWithoutGap_8 (by first | rfl | assumption) (by omega) (by omega) ?_
  refine z_iconst dX2_waysWithoutGap_9 (by decide) ?_
  refine z_istore_n dX2_waysWithoutGap_10 (by decide) rfl ?_
  dsimp only [List.set]
  refine outer wk 0 _ _ (by omega) (fun v hv n hn => ?_) (fun n a b => ?_) (fun y hy => ?_) (by intro z q; cases q)
  · obtain rfl : v = 0 := by omega
    rw [wa_zero]
    by_cases q : n = 0
    · subst q; exact mset_eq _ _ _ _
    · obtain ⟨k, rfl⟩ : ∃ k, n = k + 1 := ⟨n - 1, by omega⟩
      exact (mset_nej _ _ (by omega) _).trans (h0 (k + 1) (by omega) (by omega))
  · exact (mset_nej _ _ (by omega) _).trans (h0 n a b)
  · exact mset_ne _ (by omega) _ _
theorem cm_X2_likelihood {g wk dt : Nat} (hg : mem 33 3 = (g : Int)) (hg30 : g ≤ 30) (hw1 : 1 ≤ wk) (hw : wk ≤ 30) (hd1 : 1 ≤ dt) (hdt : dt ≤ 12) (h0 : ways0 mem) : CM X (0, 0) 3 mX2_likelihood G0 [vr 33, vi (wk : Int), vi (dt : Int), vr 79] mem (pV G0 fun m => lowC m (((wk ^ dt : Nat) : Int) - (nrA g (wk + 1) dt : Int)) ((wk ^ dt : Nat) : Int) ∧ ways0 m ∧ ∀ y, y < 36 ∨ (67 < y ∧ y < 80) ∨ 88 ≤ y → m y = mem y) := by
  have hnr : nrA g (wk + 1) dt ≤ wk ^ dt := nr_le (w := wk + 1) (by omega) (by omega) hdt (Nat.le_refl _)
  have hp := Nat.pow_pos (n := dt) (show 0 < wk by omega)
  have hpb := pow30 hw hdt
  refine CM.of (by decide +kernel) 3 (Nat.le_of_ble_eq_true rfl) ?_
  show ZZ X (0, 0) 3 mX2_likelihood G0 0 [vr 33, vi (wk : Int), vi (dt : Int), vr 79, vd, vd, vd] [] mem _
  have loop : ∀ (d i : Nat), i + d = dt → ZZ X (0, 0) 3 mX2_likelihood G0 6 [vr 33, vi (wk : Int), vi (dt : Int), vr 79, vl ((wk ^ i : Nat) : Int), vd, vi (i : Int)] [] mem (pV G0 fun m => lowC m (((wk ^ dt : Nat) : Int) - (nrA g (wk + 1) dt : Int)) ((wk ^ dt : Nat) : Int) ∧ ways0 m ∧ ∀ y, y < 36 ∨ (67 < y ∧ y < 80) ∨ 88 ≤ y → m y = mem y) := by
    intro d
    induction d with
    | zero =>
      intro i hi
      have : i = dt := by omega
      subst this
      generalize hP : wk ^ i = P at *
      refine z_iload dX2_likelihood_6 rfl ?_
      refine z_iload_n dX2_likelihood_8 rfl ?_
      refine z_icmp_ge 25 dX2_likelihood_9 (by decide) (fun h9 => ?_) (fun h9 => ?_)
      · refine z_aload_n dX2_likelihood_25 rfl ?_
        refine z_lload dX2_likelihood_26 rfl ?_
        refine z_aload_n dX2_likelihood_28 rfl ?_
        refine z_iload_n dX2_likelihood_29 rfl ?_
        refine z_iload_n dX2_likelihood_30 rfl ?_
        refine z_V2l dX2_likelihood_31 ok_X2_waysWithoutGap lk_X2_67 (by first | rfl | assumption) rfl rfl (Nat.le_of_ble_eq_true rfl) (by decide) (cm_X2_waysWithoutGap hg hg30 hw1 hw hd1 hdt h0) (fun z2 m2 hm2 => ?_)
        obtain ⟨rfl, f1, f2⟩ := hm2
        refine z_lsub dX2_likelihood_34 (by omega) ?_
        refine z_lload dX2_likelihood_35 rfl ?_
        refine z_V2v dX2_likelihood_37 ok_X4_become lk_X2_71 (by first | rfl | assumption) rfl rfl (Nat.le_of_ble_eq_true rfl) (by decide) (cm_become79 (by omega) (by omega) (by omega) (by omega)) (fun m3 hm3 => ?_)
        refine z_vret dX2_likelihood_40 rfl ?_
        exact ⟨rfl, rfl, hm3.1, fun n a b => (congrFun (hm3.2 36 (by decide)) _).trans (f1 n a b), fun y hy => (hm3.2 y (by omega)).trans (f2 y (by omega))⟩
      · omega
    | succ d ih =>
      intro i hi
      have hb := pow30 (n := i + 1) hw (by omega)
      have e1 : ((wk ^ i : Nat) : Int) * (wk : Int) = ((wk ^ (i + 1) : Nat) : Int) := by rw [← Int.natCast_mul, ← Nat.pow_succ]
      refine z_iload dX2_likelihood_6 rfl ?_
      refine z_iload_n dX2_likelihood_8 rfl ?_
      refine z_icmp_ge 25 dX2_likelihood_9 (by decide) (fun h9 => ?_) (fun h9 => ?_)
      · omega
      · refine z_lload dX2_likelihood_12 rfl ?_
        refine z_iload_n dX2_likelihood_14 rfl ?_
        refine z_i2l dX2_likelihood_15 ?_
        refine z_lmul dX2_likelihood_16 (by rw [e1]; omega) ?_
        rw [e1]
        refine z_lstore dX2_likelihood_17 (by decide) rfl ?_
        dsimp only [List.set]
        refine z_iinc dX2_likelihood_19 rfl (by omega) (by decide) rfl ?_
        dsimp only [List.set]
        refine z_goto 6 dX2_likelihood_22 (by decide) ?_
        exact ih (i + 1) (by omega)
  refine z_lconst (z := 1) dX2_likelihood_0 rfl (by decide) ?_
  refine z_lstore dX2_likelihood_1 (by decide) rfl ?_
  dsimp only [List.set]
  refine z_iconst dX2_likelihood_3 (by decide) ?_
  refine z_istore dX2_likelihood_4 (by decide) rfl ?_
  dsimp only [List.set]
  exact loop dt 0 (by omega)
def chOk (mk wk : Int) : Prop := (0 ≤ mk ∧ mk ≤ 5) ∧ 1 ≤ wk ∧ wk ≤ 30
def chM (nf : Nat) (fd : Nat → Nat → Int) (mk wk : Int) : Nat := (datL fd mk wk nf).length
def chG (nf : Nat) (fd : Nat → Nat → Int) (mk wk : Int) : Nat := (gpL (orF fd (datL fd mk wk nf)) wk.toNat).toNat
def chN (nf : Nat) (fd : Nat → Nat → Int) (mk wk : Int) : Int := ((wk.toNat ^ chM nf fd mk wk : Nat) : Int) - (nrA (chG nf fd mk wk) (wk.toNat + 1) (chM nf fd mk wk) : Int)
def chD (nf : Nat) (fd : Nat → Nat → Int) (mk wk : Int) : Int := ((wk.toNat ^ chM nf fd mk wk : Nat) : Int)
theorem cm_X11_chance {mk wk : Int} (hf : finC mem nf fd) (hr : finR nf fd) (h0 : ways0 mem) : CM X (0, 0) 4 mX11_chance G0 [vr 0, vi mk, vi wk] mem (pI G0 fun z m => (¬ chOk mk wk → z = -2 ∧ m = mem) ∧ (chOk mk wk → ¬ (1 ≤ chM nf fd mk wk ∧ chM nf fd mk wk ≤ 12) → z = -3 ∧ onS 33 2 4 mem m) ∧ (chOk mk wk → 1 ≤ chM nf fd mk wk ∧ chM nf fd mk wk ≤ 12 → z = 1 ∧ lowC m (chN nf fd mk wk) (chD nf fd mk wk) ∧ ways0 m ∧ ∀ y, y < 33 ∨ (67 < y ∧ y < 80) ∨ 88 ≤ y → m y = mem y)) := by
  unfold chOk chN chD chG chM
  refine CM.of (by decide +kernel) 1 (Nat.le_of_ble_eq_true rfl) ?_
  show ZZ X (0, 0) 4 mX11_chance G0 0 [vr 0, vi mk, vi wk, vd] [] mem _
  refine z_iload_n dX11_chance_0 rfl ?_
  refine z_iconst dX11_chance_1 (by decide) ?_
  refine z_iconst dX11_chance_2 (by decide) ?_
  refine z_S3i dX11_chance_3 ok_X11_within lk_X11_83 (Nat.le_of_ble_eq_true rfl) (by decide) (cm_X11_within) (fun z1 m1 hm1 => ?_)
  obtain ⟨hz1, rfl⟩ := hm1
  refine z_if_eq 19 dX11_chance_6 (by decide) (fun h6 => ?_) (fun h6 => ?_)
  · refine z_bipush dX11_chance_19 (by decide) ?_
    refine z_iret dX11_chance_21 rfl ?_
    exact ⟨rfl, _, rfl, fun _ => ⟨rfl, rfl⟩, fun q => by omega, fun q => by omega⟩
  · refine z_iload_n dX11_chance_9 rfl ?_
    refine z_iconst dX11_chance_10 (by decide) ?_
    refine z_bipush dX11_chance_11 (by decide) ?_
    refine z_S3i dX11_chance_13 ok_X11_within lk_X11_83 (Nat.le_of_ble_eq_true rfl) (by decide) (cm_X11_within) (fun z1 m1 hm1 => ?_)
    obtain ⟨hz2, rfl⟩ := hm1
    refine z_if_ne 22 dX11_chance_16 (by decide) (fun h16 => ?_) (fun h16 => ?_)
    · obtain ⟨w, rfl⟩ : ∃ w : Nat, wk = (w : Int) := ⟨wk.toNat, by omega⟩
      rw [Int.toNat_natCast]
      have gb := gpL_bd (orF fd (datL fd mk (w : Int) nf)) w
      refine z_aload_n dX11_chance_22 rfl ?_
      refine z_getR (ty := .int) dX11_chance_23 fl_X11_47 (by first | rfl | assumption) rfl rfl ?_
      refine z_aload_n dX11_chance_26 rfl ?_
      refine z_getR (ty := .int) dX11_chance_27 fl_X11_10 (by first | rfl | assumption) rfl rfl ?_
      refine z_iload_n dX11_chance_30 rfl ?_
      refine z_iload_n dX11_chance_31 rfl ?_
      refine z_V3i dX11_chance_32 ok_X2_mark lk_X11_188 (by first | rfl | assumption) rfl rfl (Nat.le_of_ble_eq_true rfl) (by decide) (cm_X2_mark hf hr (by omega)) (fun z2 m2 hm2 => ?_)
      obtain ⟨rfl, g3, g4, hon⟩ := hm2
      refine z_istore_n dX11_chance_35 (by decide) rfl ?_
      dsimp only [List.set]
      refine z_iload_n dX11_chance_36 rfl ?_
      refine z_iconst dX11_chance_37 (by decide) ?_
      refine z_bipush dX11_chance_38 (by decide) ?_
      refine z_S3i dX11_chance_40 ok_X11_within lk_X11_83 (Nat.le_of_ble_eq_true rfl) (by decide) (cm_X11_within) (fun z4 m4 hm4 => ?_)
      obtain ⟨hz4, rfl⟩ := hm4
      refine z_if_ne 49 dX11_chance_43 (by decide) (fun h43 => ?_) (fun h43 => ?_)
      · refine z_aload_n dX11_chance_49 rfl ?_
        refine z_getR (ty := .int) dX11_chance_50 fl_X11_47 (by first | rfl | assumption) rfl rfl ?_
        refine z_iload_n dX11_chance_53 rfl ?_
        refine z_iload_n dX11_chance_54 rfl ?_
        refine z_aload_n dX11_chance_55 rfl ?_
        refine z_getR (ty := .int) dX11_chance_56 fl_X11_75 (by first | rfl | assumption) rfl rfl ?_
        refine z_V3v dX11_chance_59 ok_X2_likelihood lk_X11_198 (by first | rfl | assumption) rfl rfl (Nat.le_of_ble_eq_true rfl) (by decide) (cm_X2_likelihood (g := (gpL (orF fd (datL fd mk (w : Int) nf)) w).toNat) (g3.trans (by omega)) (by omega) (by omega) (by omega) (by omega) (by omega) (fun n a b => (congrFun (hon.1 36 (by decide)) _).trans (h0 n a b))) (fun m5 hm5 => ?_)
        refine z_iconst dX11_chance_62 (by decide) ?_
        refine z_iret dX11_chance_63 rfl ?_
        exact ⟨rfl, _, rfl, fun q => by omega, fun _ q => by omega, fun _ _ => ⟨rfl, hm5.1, hm5.2.1, fun y hy => (hm5.2.2 y (by omega)).trans (hon.1 y (by omega))⟩⟩
      · refine z_bipush dX11_chance_46 (by decide) ?_
        refine z_iret dX11_chance_48 rfl ?_
        exact ⟨rfl, _, rfl, fun q => by omega, fun _ _ => ⟨rfl, hon⟩, fun _ q => by omega⟩
    · refine z_bipush dX11_chance_19 (by decide) ?_
      refine z_iret dX11_chance_21 rfl ?_
      exact ⟨rfl, _, rfl, fun _ => ⟨rfl, rfl⟩, fun q => by omega, fun q => by omega⟩
end Like
