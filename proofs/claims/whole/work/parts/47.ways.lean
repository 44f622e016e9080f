/-! ===== the class's ways without a gap ===== -/
theorem way_r : ∀ v : Fin 31, (match G0[35]? with | some (_, _, rs) => rs[v.val]? | none => none) = some (some (36 + v.val)) := by decide +kernel
theorem way_g : ∀ v : Fin 31, G0[36 + v.val]? = some (3, 13, []) := by decide +kernel
section Ways
variable {X : Nat × (Int → Int)} {mem : Mem} {nf : Nat} {fd : Nat → Nat → Int} {G : List GC}
theorem cm_J7_fill {a n : Nat} {rs : List (Option Nat)} {x : Int} (hg : G[a]? = some (3, n, rs)) (hn : n < 1000000) : CM X (0, 0) 0 mJ7_fill_d0a16 G [vr a, vl x] mem (pV G fun m => (∀ j : Nat, j < n → m a (j : Int) = x) ∧ ∀ y, y ≠ a → m y = mem y) := by
  refine CM.of (by decide +kernel) 2 (Nat.le_of_ble_eq_true rfl) ?_
  show ZZ X (0, 0) 0 mJ7_fill_d0a16 G 0 [vr a, vl x, vd, vd, vd] [] mem _
  have loop : ∀ (d i : Nat) (m : Mem), i + d = n → (∀ j : Nat, j < i → m a (j : Int) = x) → (∀ y, y ≠ a → m y = mem y) → ZZ X (0, 0) 0 mJ7_fill_d0a16 G 6 [vr a, vl x, vd, vi (i : Int), vi (n : Int)] [] m (pV G fun m => (∀ j : Nat, j < n → m a (j : Int) = x) ∧ ∀ y, y ≠ a → m y = mem y) := by
    intro d
    induction d with
    | zero =>
      intro i m hi h1 h2
      have : i = n := by omega
      subst this
      refine z_iload_n dJ7_fill_d0a16_6 rfl ?_
      refine z_iload dJ7_fill_d0a16_7 rfl ?_
      refine z_icmp_ge 22 dJ7_fill_d0a16_9 (by decide) (fun h9 => ?_) (fun h9 => ?_)
      · refine z_vret dJ7_fill_d0a16_22 rfl ?_
        exact ⟨rfl, rfl, h1, h2⟩
      · omega
    | succ d ih =>
      intro i m hi h1 h2
      refine z_iload_n dJ7_fill_d0a16_6 rfl ?_
      refine z_iload dJ7_fill_d0a16_7 rfl ?_
      refine z_icmp_ge 22 dJ7_fill_d0a16_9 (by decide) (fun h9 => ?_) (fun h9 => ?_)
      · omega
      · refine z_aload_n dJ7_fill_d0a16_12 rfl ?_
        refine z_iload_n dJ7_fill_d0a16_13 rfl ?_
        refine z_lload_n dJ7_fill_d0a16_14 rfl ?_
        refine z_last dJ7_fill_d0a16_15 (by first | rfl | assumption) (by omega) (by omega) ?_
        refine z_iinc dJ7_fill_d0a16_16 rfl (by omega) (by decide) rfl ?_
        dsimp only [List.set]
        refine z_goto 6 dJ7_fill_d0a16_19 (by decide) ?_
        refine ih (i + 1) _ (by omega) (fun j hj => ?_) (fun y hy => (mset_ne _ hy _ _).trans (h2 y hy))
        by_cases e : j = i
        · subst e; exact mset_eq _ _ _ _
        · rw [mset_nej _ _ (by omega)]; exact h1 j (by omega)
  refine z_iconst dJ7_fill_d0a16_0 (by decide) ?_
  refine z_istore_n dJ7_fill_d0a16_1 (by decide) rfl ?_
  dsimp only [List.set]
  refine z_aload_n dJ7_fill_d0a16_2 rfl ?_
  refine z_alen dJ7_fill_d0a16_3 hg (by omega) ?_
  refine z_istore dJ7_fill_d0a16_4 (by decide) rfl ?_
  dsimp only [List.set]
  exact loop n 0 _ (by omega) (fun j hj => by omega) (fun _ _ => rfl)
theorem cm_X2_sumNear {g w dt : Nat} (hg : mem 33 3 = (g : Int)) (hg30 : g ≤ 30) (hw1 : 1 ≤ w) (hw : w ≤ 31) (hdt : dt ≤ 12) (hrow : ∀ v : Nat, v < w → ∀ n : Nat, n ≤ dt → mem (36 + v) (n : Int) = (waA g v n : Int)) : CM X (0, 0) 1 mX2_sumNear G0 [vr 33, vi (w : Int), vi (dt : Int)] mem (pV G0 fun m => (∀ n : Nat, n ≤ dt → m 67 (n : Int) = (nrA g w n : Int)) ∧ ∀ y, y ≠ 67 → m y = mem y) := by
  refine CM.of (by decide +kernel) 2 (Nat.le_of_ble_eq_true rfl) ?_
  show ZZ X (0, 0) 1 mX2_sumNear G0 0 [vr 33, vi (w : Int), vi (dt : Int), vd, vd] [] mem _
  have outer : ∀ (d i : Nat) (m : Mem) (u : VV), w - g + i + d = w → (∀ n : Nat, n ≤ dt → m 67 (n : Int) = (sg (fun i => waA g (w - g + i) n) i : Int)) → (∀ y, y ≠ 67 → m y = mem y) → (∀ z, u ≠ vl z) → ZZ X (0, 0) 1 mX2_sumNear G0 19 [vr 33, vi (w : Int), vi (dt : Int), vi ((w - g + i : Nat) : Int), u] [] m (pV G0 fun m => (∀ n : Nat, n ≤ dt → m 67 (n : Int) = (nrA g w n : Int)) ∧ ∀ y, y ≠ 67 → m y = mem y) := by
    intro d
    induction d with
    | zero =>
      intro i m u hi h1 h2 hu
      refine z_iload_n dX2_sumNear_19 rfl ?_
      refine z_iload_n dX2_sumNear_20 rfl ?_
      refine z_icmp_ge 77 dX2_sumNear_21 (by decide) (fun h21 => ?_) (fun h21 => ?_)
      · refine z_vret dX2_sumNear_77 rfl ?_
        refine ⟨rfl, rfl, fun n hn => ?_, h2⟩
        rw [h1 n hn]
        unfold nrA
        rw [show w - (w - g) = i by omega]
      · omega
    | succ d ih =>
      intro i m u hi h1 h2 hu
      have hv : w - g + i < 31 := by omega
      have hcell := way_g ⟨w - g + i, hv⟩
      have href := way_r ⟨w - g + i, hv⟩
      dsimp only at hcell href
      have inner : ∀ (e n : Nat) (m : Mem), n + e = dt + 1 → (∀ k : Nat, k ≤ dt → m 67 (k : Int) = (sg (fun i => waA g (w - g + i) k) (if k < n then i + 1 else i) : Int)) → (∀ y, y ≠ 67 → m y = mem y) → ZZ X (0, 0) 1 mX2_sumNear G0 33 [vr 33, vi (w : Int), vi (dt : Int), vi ((w - g + i : Nat) : Int), vi (n : Int)] [] m (pV G0 fun m => (∀ n : Nat, n ≤ dt → m 67 (n : Int) = (nrA g w n : Int)) ∧ ∀ y, y ≠ 67 → m y = mem y) := by
        intro e
        induction e with
        | zero =>
          intro n m hn h1 h2
          refine z_iload dX2_sumNear_33 rfl ?_
          refine z_iload_n dX2_sumNear_35 rfl ?_
          refine z_icmp_gt 71 dX2_sumNear_36 (by decide) (fun h36 => ?_) (fun h36 => ?_)
          · refine z_iinc dX2_sumNear_71 rfl (by omega) (by decide) rfl ?_
            dsimp only [List.set]
            refine z_goto 19 dX2_sumNear_74 (by decide) ?_
            rw [show ((w - g + i : Nat) : Int) + 1 = ((w - g + (i + 1) : Nat) : Int) by omega]
            refine ih (i + 1) _ _ (by omega) (fun k hk => ?_) h2 (by intro z q; cases q)
            rw [h1 k hk, if_pos (by omega)]
          · omega
        | succ e ihe =>
          intro n m hn h1 h2
          have r1 := h1 n (by omega)
          rw [if_neg (by omega)] at r1
          have r2 : m (36 + (w - g + i)) (n : Int) = (waA g (w - g + i) n : Int) := (congrFun (h2 _ (by omega)) _).trans (hrow _ (by omega) n (by omega))
          have b1 := nr_le (g := g) (w := w) (n := n) (k := i) hw hw1 (by omega) (by omega)
          have b1' := pow30 (w := w - 1) (n := n) (by omega) (by omega)
          have b2 := wa_le (g := g) (w := w - g + i) (n := n) (by omega) (by omega)
          refine z_iload dX2_sumNear_33 rfl ?_
          refine z_iload_n dX2_sumNear_35 rfl ?_
          refine z_icmp_gt 71 dX2_sumNear_36 (by decide) (fun h36 => ?_) (fun h36 => ?_)
          · omega
          · refine z_iload dX2_sumNear_39 rfl ?_
            refine z_bipush dX2_sumNear_41 (by decide) ?_
            refine z_icmp_gt 71 dX2_sumNear_43 (by decide) (fun h43 => ?_) (fun h43 => ?_)
            · omega
            · refine z_aload_n dX2_sumNear_46 rfl ?_
              refine z_getR (ty := .int) dX2_sumNear_47 fl_X2_22 (by first | rfl | assumption) rfl rfl ?_
              refine z_iload dX2_sumNear_50 rfl ?_
              refine z_dup2 dX2_sumNear_52 (by intro z q; cases q) (by intro z q; cases q) ?_
              refine z_lald dX2_sumNear_53 (by first | rfl | assumption) (by omega) (by omega) ?_
              rw [r1]
              refine z_aload_n dX2_sumNear_54 rfl ?_
              refine z_getR (ty := .int) dX2_sumNear_55 fl_X2_19 (by first | rfl | assumption) rfl rfl ?_
              refine z_iload_n dX2_sumNear_58 rfl ?_
              refine z_aald dX2_sumNear_59 rfl (by omega) (by omega) href ?_
              refine z_iload dX2_sumNear_60 rfl ?_
              refine z_lald dX2_sumNear_62 (by first | rfl | assumption) (by omega) (by omega) ?_
              rw [r2]
              refine z_ladd dX2_sumNear_63 (by omega) ?_
              refine z_last dX2_sumNear_64 (by first | rfl | assumption) (by omega) (by omega) ?_
              refine z_iinc dX2_sumNear_65 rfl (by omega) (by decide) rfl ?_
              dsimp only [List.set]
              refine z_goto 33 dX2_sumNear_68 (by decide) ?_
              refine ihe (n + 1) _ (by omega) (fun k hk => ?_) (fun y hy => (mset_ne _ hy _ _).trans (h2 y hy))
              by_cases q : k = n
              · subst q
                rw [mset_eq, if_pos (by omega)]
                show _ = ((sg (fun i => waA g (w - g + i) k) i + waA g (w - g + i) k : Nat) : Int)
                omega
              · rw [mset_nej _ _ (by omega), h1 k hk]
                by_cases q2 : k < n
                · rw [if_pos q2, if_pos (by omega)]
                · rw [if_neg q2, if_neg (by omega)]
      refine z_kill 4 ?_
      dsimp only [List.set]
      refine z_iload_n dX2_sumNear_19 rfl ?_
      refine z_iload_n dX2_sumNear_20 rfl ?_
      refine z_icmp_ge 77 dX2_sumNear_21 (by decide) (fun h21 => ?_) (fun h21 => ?_)
      · omega
      · refine z_iload_n dX2_sumNear_24 rfl ?_
        refine z_bipush dX2_sumNear_25 (by decide) ?_
        refine z_icmp_gt 77 dX2_sumNear_27 (by decide) (fun h27 => ?_) (fun h27 => ?_)
        · omega
        · refine z_iconst dX2_sumNear_30 (by decide) ?_
          refine z_istore dX2_sumNear_31 (by decide) rfl ?_
          dsimp only [List.set]
          exact inner (dt + 1) 0 _ (by omega) (fun k hk => by rw [if_neg (by omega)]; exact h1 k hk) h2
  refine z_aload_n dX2_sumNear_0 rfl ?_
  refine z_getR (ty := .int) dX2_sumNear_1 fl_X2_22 (by first | rfl | assumption) rfl rfl ?_
  refine z_lconst (z := 0) dX2_sumNear_4 rfl (by decide) ?_
  refine z_S2v dX2_sumNear_5 ok_J7_fill_d0a16 lk_X2_85 (Nat.le_of_ble_eq_true rfl) (by decide) (cm_J7_fill (a := 67) (n := 13) rfl (by decide)) (fun m2 hm2 => ?_)
  obtain ⟨f1, f2⟩ := hm2
  have e33 : m2 33 3 = (g : Int) := (congrFun (f2 33 (by decide)) _).trans hg
  refine z_iconst dX2_sumNear_8 (by decide) ?_
  refine z_iload_n dX2_sumNear_9 rfl ?_
  refine z_aload_n dX2_sumNear_10 rfl ?_
  refine z_gI 3 dX2_sumNear_11 fl_X2_61 (by first | rfl | assumption) rfl rfl ?_
  rw [e33]
  refine z_isub dX2_sumNear_14 (by omega) ?_
  refine z_max dX2_sumNear_15 lm_X2_91 (by decide) (Nat.le_of_ble_eq_true rfl) ?_
  rw [show (if (0 : Int) < (w : Int) - (g : Int) then (w : Int) - (g : Int) else 0) = ((w - g + 0 : Nat) : Int) by split <;> omega]
  refine z_istore_n dX2_sumNear_18 (by decide) rfl ?_
  dsimp only [List.set]
  exact outer (w - (w - g)) 0 _ _ (by omega) (fun n hn => f1 n (by omega)) f2 (by intro z q; cases q)
theorem cm_X2_waysToJoin {n w : Nat} {N : Nat → Nat} (hn : n ≤ 12) (hw : w ≤ 30) (hN : ∀ k : Nat, k ≤ n → mem 67 (k : Int) = (N k : Int) ∧ N k ≤ w ^ k) : CM X (0, 0) 0 mX2_waysToJoin G0 [vr 33, vi (n : Int)] mem (pL G0 fun z m => z = (sg (fun h => chs n (h + 1) * N (n - (h + 1))) n : Int) ∧ m = mem) := by
  have hbt : ∀ h, h ≤ n → sg (fun h => chs n (h + 1) * N (n - (h + 1))) h ≤ 800000000000000000 := by
    intro h hh
    have a1 := sg_mono (fun h => chs n (h + 1) * N (n - (h + 1))) h (n - h)
    rw [show h + (n - h) = n by omega] at a1
    have a2 : sg (fun h => chs n (h + 1) * N (n - (h + 1))) n ≤ sg (fun h => chs n (h + 1) * w ^ (n - (h + 1))) n := sg_le fun i hi => Nat.mul_le_mul_left _ (hN _ (by omega)).2
    have b := bin_id ⟨w, by omega⟩ ⟨n, by omega⟩
    dsimp only at b
    have h1 : (w + 1) ^ n ≤ 31 ^ n := Nat.pow_le_pow_left (by omega) n
    have h2 : 31 ^ n ≤ 31 ^ 12 := Nat.pow_le_pow_right (by decide) hn
    have h3 : 31 ^ 12 ≤ 800000000000000000 := by decide +kernel
    omega
  refine CM.of (by decide +kernel) 5 (Nat.le_of_ble_eq_true rfl) ?_
  show ZZ X (0, 0) 0 mX2_waysToJoin G0 0 [vr 33, vi (n : Int), vd, vd, vd, vd, vd] [] mem _
  have loop : ∀ (d h : Nat), h + d = n → ZZ X (0, 0) 0 mX2_waysToJoin G0 8 [vr 33, vi (n : Int), vl (sg (fun h => chs n (h + 1) * N (n - (h + 1))) h : Int), vd, vl (chs n h : Int), vd, vi ((h : Int) + 1)] [] mem (pL G0 fun z m => z = (sg (fun h => chs n (h + 1) * N (n - (h + 1))) n : Int) ∧ m = mem) := by
    intro d
    induction d with
    | zero =>
      intro h hh
      have : h = n := by omega
      subst this
      refine z_iload dX2_waysToJoin_8 rfl ?_
      refine z_iload_n dX2_waysToJoin_10 rfl ?_
      refine z_icmp_gt 51 dX2_waysToJoin_11 (by decide) (fun h11 => ?_) (fun h11 => ?_)
      · refine z_lload_n dX2_waysToJoin_51 rfl ?_
        refine z_lret dX2_waysToJoin_52 rfl ?_
        exact ⟨rfl, _, rfl, rfl, rfl⟩
      · omega
    | succ d ih =>
      intro h hh
      have c := chs_le ⟨n, by omega⟩ ⟨h, by omega⟩
      dsimp only at c
      have ec : chs n (h + 1) = chs n h * (n - h) / (h + 1) := rfl
      have e1 : (chs n h : Int) * ((n : Int) - ((h : Int) + 1) + 1) = ((chs n h * (n - h) : Nat) : Int) := by
        rw [Int.natCast_mul, show (n : Int) - ((h : Int) + 1) + 1 = ((n - h : Nat) : Int) by omega]
      have e2 : ((chs n h * (n - h) : Nat) : Int) / ((h : Int) + 1) = (chs n (h + 1) : Int) := by
        rw [ec, Int.natCast_ediv]
        rfl
      have e3 : mem 67 ((n : Int) - ((h : Int) + 1)) = (N (n - (h + 1)) : Int) := by
        rw [show (n : Int) - ((h : Int) + 1) = ((n - (h + 1) : Nat) : Int) by omega]
        exact (hN _ (by omega)).1
      have e4 : (chs n (h + 1) : Int) * (N (n - (h + 1)) : Int) = ((chs n (h + 1) * N (n - (h + 1)) : Nat) : Int) := (Int.natCast_mul _ _).symm
      have b1 := hbt h (by omega)
      have b2 : sg (fun h => chs n (h + 1) * N (n - (h + 1))) h + chs n (h + 1) * N (n - (h + 1)) ≤ 800000000000000000 := hbt (h + 1) (by omega)
      have e5 : ((sg (fun h => chs n (h + 1) * N (n - (h + 1))) (h + 1) : Nat) : Int) = (sg (fun h => chs n (h + 1) * N (n - (h + 1))) h : Int) + ((chs n (h + 1) * N (n - (h + 1)) : Nat) : Int) := Int.natCast_add _ _
      have ih' := ih (h + 1) (by omega)
      rw [e5] at ih'
      generalize hp : chs n (h + 1) * N (n - (h + 1)) = P at *
      generalize hq : chs n h * (n - h) = Q at *
      generalize sg (fun h => chs n (h + 1) * N (n - (h + 1))) h = S at *
      refine z_iload dX2_waysToJoin_8 rfl ?_
      refine z_iload_n dX2_waysToJoin_10 rfl ?_
      refine z_icmp_gt 51 dX2_waysToJoin_11 (by decide) (fun h11 => ?_) (fun h11 => ?_)
      · omega
      · refine z_lload dX2_waysToJoin_14 rfl ?_
        refine z_iload_n dX2_waysToJoin_16 rfl ?_
        refine z_iload dX2_waysToJoin_17 rfl ?_
        refine z_isub dX2_waysToJoin_19 (by omega) ?_
        refine z_iconst dX2_waysToJoin_20 (by decide) ?_
        refine z_iadd dX2_waysToJoin_21 (by omega) ?_
        refine z_i2l dX2_waysToJoin_22 ?_
        refine z_lmul dX2_waysToJoin_23 (by rw [e1]; omega) ?_
        rw [e1]
        refine z_iload dX2_waysToJoin_24 rfl ?_
        refine z_i2l dX2_waysToJoin_26 ?_
        refine z_ldiv dX2_waysToJoin_27 (by omega) (by omega) ?_
        rw [e2]
        refine z_lstore dX2_waysToJoin_28 (by decide) rfl ?_
        dsimp only [List.set]
        refine z_lload_n dX2_waysToJoin_30 rfl ?_
        refine z_lload dX2_waysToJoin_31 rfl ?_
        refine z_aload_n dX2_waysToJoin_33 rfl ?_
        refine z_getR (ty := .int) dX2_waysToJoin_34 fl_X2_22 (by first | rfl | assumption) rfl rfl ?_
        refine z_iload_n dX2_waysToJoin_37 rfl ?_
        refine z_iload dX2_waysToJoin_38 rfl ?_
        refine z_isub dX2_waysToJoin_40 (by omega) ?_
        refine z_lald dX2_waysToJoin_41 (by first | rfl | assumption) (by omega) (by omega) ?_
        rw [e3]
        refine z_lmul dX2_waysToJoin_42 (by rw [e4]; omega) ?_
        rw [e4]
        refine z_ladd dX2_waysToJoin_43 (by omega) ?_
        refine z_lstore_n dX2_waysToJoin_44 (by decide) rfl ?_
        dsimp only [List.set]
        refine z_iinc dX2_waysToJoin_45 rfl (by omega) (by decide) rfl ?_
        dsimp only [List.set]
        refine z_goto 8 dX2_waysToJoin_48 (by decide) ?_
        exact ih'
  refine z_lconst (z := 0) dX2_waysToJoin_0 rfl (by decide) ?_
  refine z_lstore_n dX2_waysToJoin_1 (by decide) rfl ?_
  dsimp only [List.set]
  refine z_lconst (z := 1) dX2_waysToJoin_2 rfl (by decide) ?_
  refine z_lstore dX2_waysToJoin_3 (by decide) rfl ?_
  dsimp only [List.set]
  refine z_iconst dX2_waysToJoin_5 (by decide) ?_
  refine z_istore dX2_waysToJoin_6 (by decide) rfl ?_
  dsimp only [List.set]
  exact loop n 0 (by omega)
end Ways
