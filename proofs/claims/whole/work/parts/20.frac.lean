section FracA
variable {X : Nat × (Int → Int)} {G : List GC} {o F : Nat} {mem : Mem}
theorem cm_X11_commonMeasure {a b : Nat} (ha : (a : Int) < 9223372036854775808) (hb : b < 2 ^ 63) : CM X (0, 0) 0 mX11_commonMeasure G [vl (a : Int), vl (b : Int)] mem (pL G fun z m => z = ((Nat.gcd a b : Nat) : Int) ∧ m = mem) := by
  refine CM.of (by decide +kernel) 7 (Nat.le_of_ble_eq_true rfl) ?_
  show ZZ X (0, 0) 0 mX11_commonMeasure G 0 [vl (a : Int), vd, vl (b : Int), vd, vd, vd, vd, vd, vd, vd, vd] [] mem _
  have loop : ∀ (j : Nat) (i : Int) (x y : Nat), y < 2 ^ j → j ≤ 63 → 0 ≤ i → i + 2 * (j : Int) ≤ 200 → (x : Int) < 9223372036854775808 → Nat.gcd x y = Nat.gcd a b → ∀ w : VV, w = vd ∨ (∃ z : Int, w = vl z) →
      ZZ X (0, 0) 0 mX11_commonMeasure G 9 [vl (a : Int), vd, vl (b : Int), vd, vl (x : Int), vd, vl (y : Int), vd, vi i, w, vd] [] mem (pL G fun z m => z = ((Nat.gcd a b : Nat) : Int) ∧ m = mem) := by
    intro j
    induction j with
    | zero =>
      intro i x y hy hj hi0 hi hx hgcd w hw
      have hy0 : y = 0 := by simpa using hy
      subst hy0
      rw [Nat.gcd_zero_right] at hgcd
      refine z_iload dX11_commonMeasure_9 rfl ?_
      refine z_sipush dX11_commonMeasure_11 (by decide) ?_
      refine z_icmp_ge 45 dX11_commonMeasure_14 (by decide) (fun h14 => ?_) (fun h14 => ?_)
      · refine z_lload dX11_commonMeasure_45 rfl ?_
        refine z_lret dX11_commonMeasure_47 rfl ?_
        exact ⟨rfl, _, rfl, by rw [hgcd], rfl⟩
      · refine z_lload dX11_commonMeasure_17 rfl ?_
        refine z_lconst (z := 0) dX11_commonMeasure_19 rfl (by decide) ?_
        refine z_lcmp dX11_commonMeasure_20 ?_
        refine z_if_eq 45 dX11_commonMeasure_21 (by decide) (fun h21 => ?_) (fun h21 => ?_)
        · rw [lc_eq] at h21
          refine z_lload dX11_commonMeasure_45 rfl ?_
          refine z_lret dX11_commonMeasure_47 rfl ?_
          exact ⟨rfl, _, rfl, by rw [hgcd], rfl⟩
        · rw [lc_eq] at h21
          omega
    | succ j ih =>
      intro i x y hy hj hi0 hi hx hgcd w hw
      have hp : 2 ^ (j + 1) ≤ 2 ^ 63 := Nat.pow_le_pow_right (by decide) hj
      have hp2 : 2 ^ (j + 1) = 2 * 2 ^ j := by rw [Nat.pow_succ, Nat.mul_comm]
      refine z_kill 9 ?_
      dsimp only [List.set]
      refine z_iload dX11_commonMeasure_9 rfl ?_
      refine z_sipush dX11_commonMeasure_11 (by decide) ?_
      refine z_icmp_ge 45 dX11_commonMeasure_14 (by decide) (fun h14 => ?_) (fun h14 => ?_)
      · omega
      · refine z_lload dX11_commonMeasure_17 rfl ?_
        refine z_lconst (z := 0) dX11_commonMeasure_19 rfl (by decide) ?_
        refine z_lcmp dX11_commonMeasure_20 ?_
        refine z_if_eq 45 dX11_commonMeasure_21 (by decide) (fun h21 => ?_) (fun h21 => ?_)
        · rw [lc_eq] at h21
          have hy0 : y = 0 := by omega
          subst hy0
          rw [Nat.gcd_zero_right] at hgcd
          refine z_lload dX11_commonMeasure_45 rfl ?_
          refine z_lret dX11_commonMeasure_47 rfl ?_
          exact ⟨rfl, _, rfl, by rw [hgcd], rfl⟩
        · rw [lc_eq] at h21
          refine z_lload dX11_commonMeasure_24 rfl ?_
          refine z_lload dX11_commonMeasure_26 rfl ?_
          refine z_lremp dX11_commonMeasure_28 (by omega) (by omega) ?_
          rw [← Int.natCast_emod]
          have hr1 := Nat.mod_lt x (show 0 < y by omega)
          refine z_lstore dX11_commonMeasure_29 (by decide) rfl ?_
          dsimp only [List.set]
          refine z_lload dX11_commonMeasure_31 rfl ?_
          refine z_lstore dX11_commonMeasure_33 (by decide) rfl ?_
          dsimp only [List.set]
          refine z_lload dX11_commonMeasure_35 rfl ?_
          refine z_lstore dX11_commonMeasure_37 (by decide) rfl ?_
          dsimp only [List.set]
          refine z_iinc dX11_commonMeasure_39 rfl (by omega) (by decide) rfl ?_
          dsimp only [List.set]
          refine z_goto 9 dX11_commonMeasure_42 (by decide) ?_
          have hg2 : Nat.gcd y (x % y) = Nat.gcd a b := by rw [← hgcd, Nat.gcd_comm x y, Nat.gcd_rec y x, Nat.gcd_comm]
          refine z_kill 9 ?_
          dsimp only [List.set]
          by_cases hz : x % y = 0
          · rw [hz] at hg2 ⊢
            exact ih (i + 1) y 0 (Nat.two_pow_pos j) (by omega) (by omega) (by omega) (by omega) hg2 _ (Or.inl rfl)
          · refine z_iload dX11_commonMeasure_9 rfl ?_
            refine z_sipush dX11_commonMeasure_11 (by decide) ?_
            refine z_icmp_ge 45 dX11_commonMeasure_14 (by decide) (fun h14 => ?_) (fun h14 => ?_)
            · omega
            · refine z_lload dX11_commonMeasure_17 rfl ?_
              refine z_lconst (z := 0) dX11_commonMeasure_19 rfl (by decide) ?_
              refine z_lcmp dX11_commonMeasure_20 ?_
              refine z_if_eq 45 dX11_commonMeasure_21 (by decide) (fun h21 => ?_) (fun h21 => ?_)
              · rw [lc_eq] at h21
                omega
              · rw [lc_eq] at h21
                refine z_lload dX11_commonMeasure_24 rfl ?_
                refine z_lload dX11_commonMeasure_26 rfl ?_
                refine z_lremp dX11_commonMeasure_28 (by omega) (by omega) ?_
                rw [← Int.natCast_emod]
                have hr2 := Nat.mod_lt y (show 0 < x % y by omega)
                refine z_lstore dX11_commonMeasure_29 (by decide) rfl ?_
                dsimp only [List.set]
                refine z_lload dX11_commonMeasure_31 rfl ?_
                refine z_lstore dX11_commonMeasure_33 (by decide) rfl ?_
                dsimp only [List.set]
                refine z_lload dX11_commonMeasure_35 rfl ?_
                refine z_lstore dX11_commonMeasure_37 (by decide) rfl ?_
                dsimp only [List.set]
                refine z_iinc dX11_commonMeasure_39 rfl (by omega) (by decide) rfl ?_
                dsimp only [List.set]
                refine z_goto 9 dX11_commonMeasure_42 (by decide) ?_
                have hg3 : Nat.gcd (x % y) (y % (x % y)) = Nat.gcd a b := by rw [← hg2, Nat.gcd_comm y (x % y), Nat.gcd_rec (x % y) y, Nat.gcd_comm]
                have hsm : y % (x % y) < 2 ^ j := by
                  by_cases hh : 2 * (x % y) ≤ y
                  · omega
                  · have : y % (x % y) = y - x % y := by rw [Nat.mod_eq_sub_mod (by omega), Nat.mod_eq_of_lt (by omega)]
                    omega
                exact ih (i + 1 + 1) (x % y) (y % (x % y)) hsm (by omega) (by omega) (by omega) (by omega) hg3 _ (Or.inr ⟨_, rfl⟩)
  refine z_lload_n dX11_commonMeasure_0 rfl ?_
  refine z_lstore dX11_commonMeasure_1 (by decide) rfl ?_
  dsimp only [List.set]
  refine z_lload_n dX11_commonMeasure_3 rfl ?_
  refine z_lstore dX11_commonMeasure_4 (by decide) rfl ?_
  dsimp only [List.set]
  refine z_iconst dX11_commonMeasure_6 (by decide) ?_
  refine z_istore dX11_commonMeasure_7 (by decide) rfl ?_
  dsimp only [List.set]
  exact loop 63 0 a b hb (by omega) (by omega) (by omega) ha rfl _ (Or.inl rfl)
end FracA
