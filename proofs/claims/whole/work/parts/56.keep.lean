/-! ===== keeps: a register's low digits in a row ===== -/
section Keep
variable {X : Nat × (Int → Int)} {mem : Mem}
theorem cm_X12_keeps {c n r : Nat} (hc : G0[c]? = some (1, 5168, [])) (hc89 : c ≠ 89) (hn : n < 152) (hr : r < 6) : CM X (0, 0) 0 mX12_keeps G0 [vr 88, vr c, vi (n : Int), vi (r : Int)] mem (pV G0 fun m => (∀ k : Nat, k < 34 → m c (34 * (n : Int) + (k : Int)) = mem 89 (66 * (r : Int) + (k : Int))) ∧ (∀ j : Int, j < 34 * (n : Int) ∨ 34 * (n : Int) + 34 ≤ j → m c j = mem c j) ∧ ∀ x, x ≠ c → m x = mem x) := by
  refine CM.of (by decide +kernel) 1 (Nat.le_of_ble_eq_true rfl) ?_
  show ZZ X (0, 0) 0 mX12_keeps G0 0 [vr 88, vr c, vi (n : Int), vi (r : Int), vd] [] mem _
  have loop : ∀ (d i : Nat) (m : Mem), i + d = 34 → (∀ k : Nat, k < i → m c (34 * (n : Int) + (k : Int)) = mem 89 (66 * (r : Int) + (k : Int))) → (∀ j : Int, j < 34 * (n : Int) ∨ 34 * (n : Int) + 34 ≤ j → m c j = mem c j) → (∀ x, x ≠ c → m x = mem x) → ZZ X (0, 0) 0 mX12_keeps G0 3 [vr 88, vr c, vi (n : Int), vi (r : Int), vi (i : Int)] [] m (pV G0 fun m => (∀ k : Nat, k < 34 → m c (34 * (n : Int) + (k : Int)) = mem 89 (66 * (r : Int) + (k : Int))) ∧ (∀ j : Int, j < 34 * (n : Int) ∨ 34 * (n : Int) + 34 ≤ j → m c j = mem c j) ∧ ∀ x, x ≠ c → m x = mem x) := by
    intro d
    induction d with
    | zero =>
      intro i m hi h1 h2 h3
      have : i = 34 := by omega
      subst this
      refine z_iload dX12_keeps_3 rfl ?_
      refine z_bipush dX12_keeps_5 (by decide) ?_
      refine z_icmp_ge 37 dX12_keeps_7 (by decide) (fun h7 => ?_) (fun h7 => ?_)
      · refine z_vret dX12_keeps_37 rfl ?_
        exact ⟨rfl, rfl, h1, h2, h3⟩
      · omega
    | succ d ih =>
      intro i m hi h1 h2 h3
      have e89 := h3 89 (fun q => hc89 q.symm)
      refine z_iload dX12_keeps_3 rfl ?_
      refine z_bipush dX12_keeps_5 (by decide) ?_
      refine z_icmp_ge 37 dX12_keeps_7 (by decide) (fun h7 => ?_) (fun h7 => ?_)
      · omega
      · refine z_aload_n dX12_keeps_10 rfl ?_
        refine z_bipush dX12_keeps_11 (by decide) ?_
        refine z_iload_n dX12_keeps_13 rfl ?_
        refine z_imul dX12_keeps_14 (by omega) ?_
        refine z_iload dX12_keeps_15 rfl ?_
        refine z_iadd dX12_keeps_17 (by omega) ?_
        refine z_aload_n dX12_keeps_18 rfl ?_
        refine z_getR (ty := .int) dX12_keeps_19 fl_X12_7 (by first | rfl | assumption) rfl rfl ?_
        refine z_bipush dX12_keeps_22 (by decide) ?_
        refine z_iload_n dX12_keeps_24 rfl ?_
        refine z_imul dX12_keeps_25 (by omega) ?_
        refine z_iload dX12_keeps_26 rfl ?_
        refine z_iadd dX12_keeps_28 (by omega) ?_
        refine z_iald dX12_keeps_29 (by first | rfl | assumption) (by omega) (by omega) ?_
        rw [e89]
        refine z_iast dX12_keeps_30 (by first | rfl | assumption) (by omega) (by omega) ?_
        refine z_iinc dX12_keeps_31 rfl (by omega) (by decide) rfl ?_
        dsimp only [List.set]
        refine z_goto 3 dX12_keeps_34 (by decide) ?_
        refine ih (i + 1) _ (by omega) (fun k hk => ?_) (fun j hj => ?_) (fun x hx => (mset_ne _ hx _ _).trans (h3 x hx))
        · by_cases q : k = i
          · subst q; exact mset_eq _ _ _ _
          · rw [mset_nej _ _ (by omega)]; exact h1 k (by omega)
        · rw [mset_nej _ _ (by omega)]; exact h2 j hj
  refine z_iconst dX12_keeps_0 (by decide) ?_
  refine z_istore dX12_keeps_1 (by decide) rfl ?_
  dsimp only [List.set]
  exact loop 34 0 mem (by omega) (fun k hk => by omega) (fun _ _ => rfl) (fun _ _ => rfl)
end Keep
