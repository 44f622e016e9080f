/-! ===== gets: a kept number back in a register ===== -/
section Gets
variable {X : Nat × (Int → Int)} {mem : Mem}
def keptAt (mem : Mem) (c n v : Nat) : Prop := dig (fun j => mem c (34 * (n : Int) + j)) 34 ∧ nv (fun j => mem c (34 * (n : Int) + j)) 34 = (v : Int)
theorem cm_X12_gets {c n r v : Nat} (hc : G0[c]? = some (1, 5168, [])) (hc1 : c ≠ 89) (hc2 : c ≠ 90) (hn : n < 152) (hr : r < 6) (hv : keptAt mem c n v) : CM X (0, 0) 2 mX12_gets G0 [vr 88, vi (r : Int), vr c, vi (n : Int)] mem (pV G0 fun m => regAt m r v ∧ onR r mem m) := by
  refine CM.of (by decide +kernel) 1 (Nat.le_of_ble_eq_true rfl) ?_
  show ZZ X (0, 0) 2 mX12_gets G0 0 [vr 88, vi (r : Int), vr c, vi (n : Int), vd] [] mem _
  have loop : ∀ (d i : Nat) (m : Mem), i + d = 34 → (∀ k : Nat, k < i → m 89 (66 * (r : Int) + (k : Int)) = mem c (34 * (n : Int) + (k : Int))) → (∀ k : Nat, 34 ≤ k → k < 66 → m 89 (66 * (r : Int) + (k : Int)) = 0) → onR r mem m → ZZ X (0, 0) 2 mX12_gets G0 9 [vr 88, vi (r : Int), vr c, vi (n : Int), vi (i : Int)] [] m (pV G0 fun m => regAt m r v ∧ onR r mem m) := by
    intro d
    induction d with
    | zero =>
      intro i m hi h1 h2 hon
      have : i = 34 := by omega
      subst this
      refine z_iload dX12_gets_9 rfl ?_
      refine z_bipush dX12_gets_11 (by decide) ?_
      refine z_icmp_ge 43 dX12_gets_13 (by decide) (fun h13 => ?_) (fun h13 => ?_)
      · refine z_aload_n dX12_gets_43 rfl ?_
        refine z_getR (ty := .int) dX12_gets_44 fl_X12_13 (by first | rfl | assumption) rfl rfl ?_
        refine z_iload_n dX12_gets_47 rfl ?_
        refine z_bipush dX12_gets_48 (by decide) ?_
        refine z_iast dX12_gets_50 (by first | rfl | assumption) (by omega) (by omega) ?_
        refine z_aload_n dX12_gets_51 rfl ?_
        refine z_iload_n dX12_gets_52 rfl ?_
        refine z_V1v dX12_gets_53 ok_X12_trims lk_X12_68 (by first | rfl | assumption) rfl rfl (Nat.le_of_ble_eq_true rfl) (by decide) (cm_X12_trims (n := 34) hr (mset_eq _ _ _ _) (by decide)) (fun m2 hm2 => ?_)
        obtain ⟨k, hk, hz, ht, rfl⟩ := hm2
        refine z_vret dX12_gets_56 rfl ?_
        have er : ∀ j : Nat, j < 66 → rowM (mset (mset m 90 (r : Int) 34) 90 (r : Int) (k : Int)) r (j : Int) = m 89 (66 * (r : Int) + (j : Int)) := fun j _ => by unfold rowM; rw [mset_ne _ (by decide), mset_ne _ (by decide)]
        have er1 : ∀ j : Int, rowM (mset m 90 (r : Int) 34) r j = m 89 (66 * (r : Int) + j) := fun j => by unfold rowM; rw [mset_ne _ (by decide)]
        have er2 : ∀ j : Int, rowM (mset (mset m 90 (r : Int) 34) 90 (r : Int) (k : Int)) r j = m 89 (66 * (r : Int) + j) := fun j => by unfold rowM; rw [mset_ne _ (by decide), mset_ne _ (by decide)]
        refine ⟨rfl, rfl, ⟨fun j hj => ?_, ?_, k, by omega, mset_eq _ _ _ _, fun j h3 h4 => ?_, ?_⟩, hon.tr ⟨fun y a b => by rw [mset_ne _ b, mset_ne _ b], fun j _ => by rw [mset_ne _ (by decide), mset_ne _ (by decide)], fun j hj => by rw [mset_nej _ _ hj, mset_nej _ _ hj]⟩⟩
        · rw [er j hj]
          by_cases q : j < 34
          · rw [h1 j q]; exact hv.1 j q
          · rw [h2 j (by omega) hj]; decide
        · rw [nv_pad (k := 34) (by decide) (fun j a b => by rw [er j b]; exact h2 j a b), ← hv.2]
          exact nv_congr fun j hj => by rw [er j (by omega)]; exact h1 j hj
        · rw [er j h4]
          by_cases q : j < 34
          · have := hz j h3 q
            rw [er1] at this
            exact this
          · exact h2 j (by omega) h4
        · rcases ht with q | q
          · exact Or.inl q
          · refine Or.inr ?_
            rw [er2]
            rw [er1] at q
            exact q
      · omega
    | succ d ih =>
      intro i m hi h1 h2 hon
      have ec : m c = mem c := hon.1 c hc1 hc2
      refine z_iload dX12_gets_9 rfl ?_
      refine z_bipush dX12_gets_11 (by decide) ?_
      refine z_icmp_ge 43 dX12_gets_13 (by decide) (fun h13 => ?_) (fun h13 => ?_)
      · omega
      · refine z_aload_n dX12_gets_16 rfl ?_
        refine z_getR (ty := .int) dX12_gets_17 fl_X12_7 (by first | rfl | assumption) rfl rfl ?_
        refine z_bipush dX12_gets_20 (by decide) ?_
        refine z_iload_n dX12_gets_22 rfl ?_
        refine z_imul dX12_gets_23 (by omega) ?_
        refine z_iload dX12_gets_24 rfl ?_
        refine z_iadd dX12_gets_26 (by omega) ?_
        refine z_aload_n dX12_gets_27 rfl ?_
        refine z_bipush dX12_gets_28 (by decide) ?_
        refine z_iload_n dX12_gets_30 rfl ?_
        refine z_imul dX12_gets_31 (by omega) ?_
        refine z_iload dX12_gets_32 rfl ?_
        refine z_iadd dX12_gets_34 (by omega) ?_
        refine z_iald dX12_gets_35 (by first | rfl | assumption) (by omega) (by omega) ?_
        rw [ec]
        refine z_iast dX12_gets_36 (by first | rfl | assumption) (by omega) (by omega) ?_
        refine z_iinc dX12_gets_37 rfl (by omega) (by decide) rfl ?_
        dsimp only [List.set]
        refine z_goto 9 dX12_gets_40 (by decide) ?_
        refine ih (i + 1) _ (by omega) (fun k hk => ?_) (fun k h3 h4 => ?_) (hon.tr ⟨fun y a b => mset_ne _ a _ _, fun j hj => mset_nej _ _ (by omega) _, fun j hj => by rw [mset_ne _ (by decide)]⟩)
        · by_cases q : k = i
          · subst q; exact mset_eq _ _ _ _
          · rw [mset_nej _ _ (by omega)]; exact h1 k (by omega)
        · rw [mset_nej _ _ (by omega)]; exact h2 k h3 h4
  refine z_aload_n dX12_gets_0 rfl ?_
  refine z_iload_n dX12_gets_1 rfl ?_
  refine z_lconst (z := 0) dX12_gets_2 rfl (by decide) ?_
  refine z_V2v dX12_gets_3 ok_X12_sets lk_X12_63 (by first | rfl | assumption) rfl rfl (Nat.le_of_ble_eq_true rfl) (by decide) (cm_X12_sets (v := 0) hr (by decide)) (fun m2 hm2 => ?_)
  obtain ⟨n1, on1⟩ := hm2
  obtain ⟨n', hw, -, hsz⟩ := regAt_sz n1
  have hn0 : n' = 0 := (isSz0 hsz).mpr rfl
  obtain ⟨-, -, n2, -, hw2, hz2, -⟩ := n1
  refine z_iconst dX12_gets_6 (by decide) ?_
  refine z_istore dX12_gets_7 (by decide) rfl ?_
  dsimp only [List.set]
  refine loop 34 0 m2 (by omega) (fun k hk => by omega) (fun k h3 h4 => ?_) on1
  exact hz2 k (by omega) h4
end Gets
