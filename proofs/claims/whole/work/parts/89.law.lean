/-! ===== the law itself ===== -/
section Law
variable {X : Nat × (Int → Int)} {mem : Mem}
theorem lw_loop (hL : X.1 ≤ 3584) : ∀ (e i : Nat) (m : Mem), X.1 ≤ i + 7 * e + 6 → i ≤ X.1 + 7 → lwI m → ZZ X (0, 0) 12 mL_law G0 18 [vc 2, vr 0, vr 88, vi (i : Int)] [] m (fun _ v _ => v = vi 1) := by
  intro e
  induction e with
  | zero =>
    intro i m h1 h2 hI
    refine z_iload_n dL_law_18 rfl ?_
    refine z_sload_n dL_law_19 rfl ?_
    refine z_slen dL_law_20 rfl ?_
    refine z_bipush dL_law_21 (by decide) ?_
    refine z_isub dL_law_23 (by omega) ?_
    refine z_icmp_gt 1417 dL_law_24 (by decide) (fun h24 => ?_) (fun h24 => ?_)
    · refine z_iconst dL_law_1417 (by decide) ?_
      refine z_zret dL_law_1418 rfl (by first | exact Or.inl rfl | exact Or.inr rfl | assumption | (split <;> simp) | omega) ?_
      exact rfl
    · omega
  | succ e ih =>
    intro i m h1 h2 hI
    have again : i + 7 ≤ X.1 → ∀ m', lwI m' → ZZ X (0, 0) 12 mL_law G0 1411 [vc 2, vr 0, vr 88, vi (i : Int)] [] m' (fun _ v _ => v = vi 1) := by
      intro hi m' hI'
      refine z_iinc dL_law_1411 rfl (by omega) (by decide) rfl ?_
      dsimp only [List.set]
      refine z_goto 18 dL_law_1414 (by decide) ?_
      rw [show (i : Int) + 7 = ((i + 7 : Nat) : Int) by omega]
      exact ih (i + 7) m' (by omega) (by omega) hI'
    refine z_iload_n dL_law_18 rfl ?_
    refine z_sload_n dL_law_19 rfl ?_
    refine z_slen dL_law_20 rfl ?_
    refine z_bipush dL_law_21 (by decide) ?_
    refine z_isub dL_law_23 (by omega) ?_
    refine z_icmp_gt 1417 dL_law_24 (by decide) (fun h24 => ?_) (fun h24 => ?_)
    · refine z_iconst dL_law_1417 (by decide) ?_
      refine z_zret dL_law_1418 rfl (by first | exact Or.inl rfl | exact Or.inr rfl | assumption | (split <;> simp) | omega) ?_
      exact rfl
    · have hi : i + 7 ≤ X.1 := by omega
      refine z_sload_n dL_law_27 rfl ?_
      refine z_iload_n dL_law_28 rfl ?_
      refine z_sald dL_law_29 rfl (by omega) (by omega) ?_
      refine z_bipush dL_law_30 (by decide) ?_
      refine z_iand dL_law_32 ?_
      rw [iand31]
      have hk0 : 0 ≤ X.2 (i : Int) % 32 ∧ X.2 (i : Int) % 32 < 32 := by omega
      obtain ⟨k, hk⟩ : ∃ k : Nat, X.2 (i : Int) % 32 = (k : Int) := ⟨(X.2 (i : Int) % 32).toNat, by omega⟩
      rw [hk]
      have hk32 : k < 32 := by omega
      clear hk hk0
      match k, hk32 with
      | 0, _ => exact z_tableIn 176 dL_law_33 (by decide) (by decide) rfl (by decide) (lc_0 hi hL hI (again hi))
      | 1, _ => exact z_tableIn 239 dL_law_33 (by decide) (by decide) rfl (by decide) (lc_1 hi hL hI (again hi))
      | 2, _ => exact z_tableIn 288 dL_law_33 (by decide) (by decide) rfl (by decide) (lc_2 hi hL hI (again hi))
      | 3, _ => exact z_tableIn 321 dL_law_33 (by decide) (by decide) rfl (by decide) (lc_3 hi hL hI (again hi))
      | 4, _ => exact z_tableIn 364 dL_law_33 (by decide) (by decide) rfl (by decide) (lc_4 hi hL hI (again hi))
      | 5, _ => exact z_tableIn 387 dL_law_33 (by decide) (by decide) rfl (by decide) (lc_5 hi hL hI (again hi))
      | 6, _ => exact z_tableIn 440 dL_law_33 (by decide) (by decide) rfl (by decide) (lc_6 hi hL hI (again hi))
      | 7, _ => exact z_tableIn 493 dL_law_33 (by decide) (by decide) rfl (by decide) (lc_7 hi hL hI (again hi))
      | 8, _ => exact z_tableIn 568 dL_law_33 (by decide) (by decide) rfl (by decide) (lc_8 hi hL hI (again hi))
      | 9, _ => exact z_tableIn 621 dL_law_33 (by decide) (by decide) rfl (by decide) (lc_9 hi hL hI (again hi))
      | 10, _ => exact z_tableIn 664 dL_law_33 (by decide) (by decide) rfl (by decide) (lc_10 hi hL hI (again hi))
      | 11, _ => exact z_tableIn 697 dL_law_33 (by decide) (by decide) rfl (by decide) (lc_11 hi hL hI (again hi))
      | 12, _ => exact z_tableIn 730 dL_law_33 (by decide) (by decide) rfl (by decide) (lc_12 hi hL hI (again hi))
      | 13, _ => exact z_tableIn 793 dL_law_33 (by decide) (by decide) rfl (by decide) (lc_13 hi hL hI (again hi))
      | 14, _ => exact z_tableIn 846 dL_law_33 (by decide) (by decide) rfl (by decide) (lc_14 hi hL hI (again hi))
      | 15, _ => exact z_tableIn 859 dL_law_33 (by decide) (by decide) rfl (by decide) (lc_15 hi hL hI (again hi))
      | 16, _ => exact z_tableIn 872 dL_law_33 (by decide) (by decide) rfl (by decide) (lc_16 hi hL hI (again hi))
      | 17, _ => exact z_tableIn 895 dL_law_33 (by decide) (by decide) rfl (by decide) (lc_17 hi hL hI (again hi))
      | 18, _ => exact z_tableIn 938 dL_law_33 (by decide) (by decide) rfl (by decide) (lc_18 hi hL hI (again hi))
      | 19, _ => exact z_tableIn 971 dL_law_33 (by decide) (by decide) rfl (by decide) (lc_19 hi hL hI (again hi))
      | 20, _ => exact z_tableIn 1014 dL_law_33 (by decide) (by decide) rfl (by decide) (lc_20 hi hL hI (again hi))
      | 21, _ => exact z_tableIn 1047 dL_law_33 (by decide) (by decide) rfl (by decide) (lc_21 hi hL hI (again hi))
      | 22, _ => exact z_tableIn 1090 dL_law_33 (by decide) (by decide) rfl (by decide) (lc_22 hi hL hI (again hi))
      | 23, _ => exact z_tableIn 1123 dL_law_33 (by decide) (by decide) rfl (by decide) (lc_23 hi hL hI (again hi))
      | 24, _ => exact z_tableIn 1156 dL_law_33 (by decide) (by decide) rfl (by decide) (lc_24 hi hL hI (again hi))
      | 25, _ => exact z_tableIn 1199 dL_law_33 (by decide) (by decide) rfl (by decide) (lc_25 hi hL hI (again hi))
      | 26, _ => exact z_tableIn 1222 dL_law_33 (by decide) (by decide) rfl (by decide) (lc_26 hi hL hI (again hi))
      | 27, _ => exact z_tableIn 1275 dL_law_33 (by decide) (by decide) rfl (by decide) (lc_27 hi hL hI (again hi))
      | 28, _ => exact z_tableIn 1318 dL_law_33 (by decide) (by decide) rfl (by decide) (lc_28 hi hL hI (again hi))
      | 29, _ => exact z_tableIn 1341 dL_law_33 (by decide) (by decide) rfl (by decide) (lc_29 hi hL hI (again hi))
      | 30, _ => exact z_tableIn 1374 dL_law_33 (by decide) (by decide) rfl (by decide) (lc_30 hi hL hI (again hi))
      | 31, _ => exact z_tableIn 1397 dL_law_33 (by decide) (by decide) rfl (by decide) (lc_31 hi hL hI (again hi))
      | k + 32, h => exact absurd h (by omega)
theorem made_told {m1 m2 : Mem} (c1 : cToldR m1) (e : ∀ x, x < 88 → x ≠ 32 → m2 (pR x) = m1 (pR x)) : cTold (fun a => m2 (pR a)) := by
  obtain ⟨a1, a2, a3, a4, a5⟩ := c1
  refine ⟨by show m2 (pR 0) 10 = 150; rw [e 0 (by decide) (by decide)]; exact a1, fun x h1 h2 h3 h4 h5 h6 h7 h8 => ?_, fun j hj => ⟨?_, ?_⟩, fun j hj => ?_, ?_⟩
  · show m2 (pR x) = _
    rw [e x h2 h3]
    obtain ⟨t1, t2, t3, t4, t5, t6⟩ := pR_t h1 h2 h3 h4 h5 h6 h7 h8
    exact a2 _ t1 (pR_c h2 h3) t2 t3 t4 t5 t6
  · show m2 (pR 73) (j : Int) = 1
    rw [e 73 (by decide) (by decide)]
    exact (a3 j hj).1
  · show m2 (pR 74) (j : Int) = 1
    rw [e 74 (by decide) (by decide)]
    exact (a3 j hj).2
  · show m2 (pR 76) (j : Int) = -1
    rw [e 76 (by decide) (by decide)]
    exact a4 j hj
  · have h : natAt (fun a => m1 (pR a)) 82 1 := a5
    exact h.kept (e 82 (by decide) (by decide)) (e 83 (by decide) (by decide))
theorem law_ZZ (hL : X.1 ≤ 3584) : ZZ X (104, 14022) 12 mL_law [] 0 [vc 2, vd, vd, vd] [] mem (fun _ v _ => v = vi 1) := by
  refine z_new (103, 14011) dL_law_0 cl_11 nl_L_7 in_X11 ii_X11 df_X11 ⟨by decide, by decide⟩ ?_
  refine z_dup dL_law_3 (by intro z q; cases q) ?_
  refine z_callI (a := 0) (b1 := (86, 1792)) (b2 := (17, 12219)) (As := []) dL_law_4 ok_X11_init rfl lk_L_9 rfl (Nat.le_of_ble_eq_true rfl) (by decide) ⟨by decide, by decide⟩ cm_X11_init (fun G' v m1 hq _ => ?_)
  obtain ⟨rfl, rfl, c1⟩ := hq
  show ZZ X (17, 12219) 12 mL_law gT 7 [vc 2, vd, vd, vd] [vr 0] m1 _
  refine z_astore_n dL_law_7 (by decide) rfl ?_
  dsimp only [List.set]
  refine z_new (16, 12183) dL_law_8 cl_12 nl_L_10 in_X12 ii_X12 df_X12 ⟨by decide, by decide⟩ ?_
  refine z_dup dL_law_11 (by intro z q; cases q) ?_
  have zlt : ∀ x, x < 87 → zer m1 gT.length x = m1 x := fun x hx => zer_lt _ (by rw [gT_len]; exact hx)
  refine z_callI (a := gT.length) (b1 := (16, 12183)) (b2 := (0, 0)) (As := []) dL_law_12 ok_X12_init rfl lk_L_12 rfl (Nat.le_of_ble_eq_true rfl) (by decide) ⟨by decide, by decide⟩ (cm_X12_init (zer_ge _ (by rw [gT_len]; decide))) (fun G' v m2 hq _ => ?_)
  obtain ⟨rfl, rfl, c2, lo2⟩ := hq
  have hc : cTold (fun a => m2 (pR a)) := made_told c1 fun x hx hx2 => (lo2 x hx hx2).trans (zlt _ (pR_c hx hx2))
  rw [gT_len]
  show ZZ X (0, 0) 12 mL_law GR 15 [vc 2, vr 0, vd, vd] [vr 87] m2 _
  refine z_perm (N := 104) (G' := G0) (L' := [vc 2, vr 0, vd, vd]) (S' := [vr 88]) (Q' := fun _ v _ => v = vi 1) pR pQ pRQ pQR pRQ_far (Nat.le_of_eq GR_len.symm) pm_GR rfl rfl (fun G v m h => by subst h; rfl) ?_
  refine z_astore_n dL_law_15 (by decide) rfl ?_
  dsimp only [List.set]
  refine z_iconst dL_law_16 (by decide) ?_
  refine z_istore_n dL_law_17 (by decide) rfl ?_
  dsimp only [List.set]
  exact lw_loop hL X.1 0 _ (by omega) (by omega) (lw_start hc c2)
end Law
