/-! ===== the two constructors (laid by gen84.py) ===== -/
def gT : List GC := G0.take 88
section Ctor2
variable {X : Nat × (Int → Int)} {b : Nat × Nat} {d : Nat} {mi : MI} {G G' : List GC} {pc : Nat} {L S : List VV} {mem : Mem} {Q : zPost}
theorem ZZ.asG (h : G = G') (kk : ZZ X b d mi G' pc L S mem Q) : ZZ X b d mi G pc L S mem Q := by
  rw [h]
  exact kk
theorem zz_mem {P : Mem → Prop} (h : P mem) (kk : ∀ m', P m' → ZZ X b d mi G pc L S m' Q) : ZZ X b d mi G pc L S mem Q := kk mem h
/-- how a class is made: nothing but noughts, but for what is told -/
def cTold (m : Mem) : Prop := m 0 10 = 150 ∧ (∀ x, 1 ≤ x → x ≠ 73 → x ≠ 74 → x ≠ 76 → x ≠ 82 → x ≠ 83 → m x = fun _ => 0) ∧ (∀ j : Nat, j < 4 → m 73 (j : Int) = 1 ∧ m 74 (j : Int) = 1) ∧ (∀ j : Nat, j < 6 → m 76 (j : Int) = -1) ∧ natAt m 82 1
theorem cm_X11_init : CM X (87, 1752) 3 mX11_init (([] : List GC) ++ [(0, 11, List.replicate 11 none)]) [vr 0] mem (pC gT cTold) := by
  refine CM.of (by decide +kernel) 0 (Nat.le_of_ble_eq_true rfl) ?_
  show ZZ X (87, 1752) 3 mX11_init (([] : List GC) ++ [(0, 11, List.replicate 11 none)]) 0 [vr 0] [] mem _
  have z0 : ∀ x, 1 ≤ x → zer mem 1 x = fun _ => 0 := fun x hx => zer_ge mem hx
  refine z_aload_n dX11_init_0 rfl ?_
  refine z_objI dX11_init_1 oi_X11_1 oi_in oi_co (Nat.le_of_ble_eq_true rfl) (by decide) ?_
  refine z_aload_n dX11_init_4 rfl ?_
  refine z_nw (86, 1745) dX11_init_5 cl_3 nl_X11_7 in_X3 ii_X3 df_X3 ⟨by decide, by decide⟩ ?_
  refine z_dup dX11_init_8 (by intro z q; cases q) ?_
  refine z_callI (b1 := (6, 360)) (b2 := (80, 1385)) (As := []) dX11_init_9 ok_X3_init rfl lk_X11_9 rfl (Nat.le_of_ble_eq_true rfl) (by decide) ⟨by decide, by decide⟩ (cn_X3_init ([] : List GC) _) (fun G' v m1 hq _ => ?_)
  obtain ⟨rfl, rfl, f1⟩ := hq
  dsimp only [stk]
  have g1 : fresh 2 (zer mem 1) m1 := f1
  have z1 : ∀ x, 1 ≤ x → m1 x = fun _ => 0 := by
    intro x hx
    by_cases q : x < 2
    · rw [g1.1 x q]; exact zer_ge mem hx
    · exact g1.2 x (by omega)
  refine z_pR 0 dX11_init_12 ff_X11_10 rfl rfl (fun _ => ⟨rfl, rfl⟩) (fun _ _ _ => rfl) (fun _ => trivial) ?_
  refine z_aload_n dX11_init_15 rfl ?_
  refine z_nw (79, 1383) dX11_init_16 cl_6 nl_X11_16 in_X6 ii_X6 df_X6 ⟨by decide, by decide⟩ ?_
  refine z_dup dX11_init_19 (by intro z q; cases q) ?_
  refine z_callI (b1 := (1, 60)) (b2 := (78, 1323)) (As := []) dX11_init_20 ok_X6_init rfl lk_X11_18 rfl (Nat.le_of_ble_eq_true rfl) (by decide) ⟨by decide, by decide⟩ (cn_X6_init ([] : List GC) _) (fun G' v m2 hq _ => ?_)
  obtain ⟨rfl, rfl, f2⟩ := hq
  dsimp only [stk]
  have g2 : fresh 9 (zer m1 8) m2 := f2
  have z2 : ∀ x, 1 ≤ x → m2 x = fun _ => 0 := by
    intro x hx
    by_cases q : x < 9
    · rw [g2.1 x q]
      by_cases w : x < 8
      · rw [zer_lt _ w]; exact z1 x hx
      · exact zer_ge _ (by omega)
    · exact g2.2 x (by omega)
  refine z_pR 0 dX11_init_23 ff_X11_19 rfl rfl (fun _ => ⟨rfl, rfl⟩) (fun _ _ _ => rfl) (fun _ => trivial) ?_
  refine z_aload_n dX11_init_26 rfl ?_
  refine z_nw (77, 1317) dX11_init_27 cl_9 nl_X11_23 in_X9 ii_X9 df_X9 ⟨by decide, by decide⟩ ?_
  refine z_dup dX11_init_30 (by intro z q; cases q) ?_
  refine z_callI (b1 := (6, 198)) (b2 := (71, 1119)) (As := []) dX11_init_31 ok_X9_init rfl lk_X11_25 rfl (Nat.le_of_ble_eq_true rfl) (by decide) ⟨by decide, by decide⟩ (cn_X9_init ([] : List GC) _) (fun G' v m3 hq _ => ?_)
  obtain ⟨rfl, rfl, f3⟩ := hq
  dsimp only [stk]
  have g3 : fresh 11 (zer m2 10) m3 := f3
  have z3 : ∀ x, 1 ≤ x → m3 x = fun _ => 0 := by
    intro x hx
    by_cases q : x < 11
    · rw [g3.1 x q]
      by_cases w : x < 10
      · rw [zer_lt _ w]; exact z2 x hx
      · exact zer_ge _ (by omega)
    · exact g3.2 x (by omega)
  refine z_pR 0 dX11_init_34 ff_X11_26 rfl rfl (fun _ => ⟨rfl, rfl⟩) (fun _ _ _ => rfl) (fun _ => trivial) ?_
  refine z_aload_n dX11_init_37 rfl ?_
  refine z_nw (70, 1117) dX11_init_38 cl_7 nl_X11_30 in_X7 ii_X7 df_X7 ⟨by decide, by decide⟩ ?_
  refine z_dup dX11_init_41 (by intro z q; cases q) ?_
  refine z_callI (b1 := (4, 132)) (b2 := (66, 985)) (As := []) dX11_init_42 ok_X7_init rfl lk_X11_32 rfl (Nat.le_of_ble_eq_true rfl) (by decide) ⟨by decide, by decide⟩ (cn_X7_init ([] : List GC) _) (fun G' v m4 hq _ => ?_)
  obtain ⟨rfl, rfl, f4⟩ := hq
  dsimp only [stk]
  have g4 : fresh 18 (zer m3 17) m4 := f4
  have z4 : ∀ x, 1 ≤ x → m4 x = fun _ => 0 := by
    intro x hx
    by_cases q : x < 18
    · rw [g4.1 x q]
      by_cases w : x < 17
      · rw [zer_lt _ w]; exact z3 x hx
      · exact zer_ge _ (by omega)
    · exact g4.2 x (by omega)
  refine z_pR 0 dX11_init_45 ff_X11_33 rfl rfl (fun _ => ⟨rfl, rfl⟩) (fun _ _ _ => rfl) (fun _ => trivial) ?_
  refine z_aload_n dX11_init_48 rfl ?_
  refine z_nw (65, 971) dX11_init_49 cl_10 nl_X11_37 in_X10 ii_X10 df_X10 ⟨by decide, by decide⟩ ?_
  refine z_dup dX11_init_52 (by intro z q; cases q) ?_
  refine z_callI (b1 := (10, 90)) (b2 := (55, 881)) (As := []) dX11_init_53 ok_X10_init rfl lk_X11_39 rfl (Nat.le_of_ble_eq_true rfl) (by decide) ⟨by decide, by decide⟩ (cn_X10_init ([] : List GC) _) (fun G' v m5 hq _ => ?_)
  obtain ⟨rfl, rfl, f5⟩ := hq
  dsimp only [stk]
  have g5 : fresh 23 (zer m4 22) m5 := f5
  have z5 : ∀ x, 1 ≤ x → m5 x = fun _ => 0 := by
    intro x hx
    by_cases q : x < 23
    · rw [g5.1 x q]
      by_cases w : x < 22
      · rw [zer_lt _ w]; exact z4 x hx
      · exact zer_ge _ (by omega)
    · exact g5.2 x (by omega)
  refine z_pR 0 dX11_init_56 ff_X11_40 rfl rfl (fun _ => ⟨rfl, rfl⟩) (fun _ _ _ => rfl) (fun _ => trivial) ?_
  refine z_aload_n dX11_init_59 rfl ?_
  refine z_nw (54, 874) dX11_init_60 cl_2 nl_X11_44 in_X2 ii_X2 df_X2 ⟨by decide, by decide⟩ ?_
  refine z_dup dX11_init_63 (by intro z q; cases q) ?_
  refine z_callI (b1 := (34, 507)) (b2 := (20, 367)) (As := []) dX11_init_64 ok_X2_init rfl lk_X11_46 rfl (Nat.le_of_ble_eq_true rfl) (by decide) ⟨by decide, by decide⟩ (cn_X2_init ([] : List GC) _) (fun G' v m6 hq _ => ?_)
  obtain ⟨rfl, rfl, f6⟩ := hq
  dsimp only [stk]
  have g6 : fresh 34 (zer m5 33) m6 := f6
  have z6 : ∀ x, 1 ≤ x → m6 x = fun _ => 0 := by
    intro x hx
    by_cases q : x < 34
    · rw [g6.1 x q]
      by_cases w : x < 33
      · rw [zer_lt _ w]; exact z5 x hx
      · exact zer_ge _ (by omega)
    · exact g6.2 x (by omega)
  refine z_pR 0 dX11_init_67 ff_X11_47 rfl rfl (fun _ => ⟨rfl, rfl⟩) (fun _ _ _ => rfl) (fun _ => trivial) ?_
  refine z_aload_n dX11_init_70 rfl ?_
  refine z_nw (19, 359) dX11_init_71 cl_0 nl_X11_51 in_X0 ii_X0 df_X0 ⟨by decide, by decide⟩ ?_
  refine z_dup dX11_init_74 (by intro z q; cases q) ?_
  refine z_callI (b1 := (3, 60)) (b2 := (16, 299)) (As := []) dX11_init_75 ok_X0_init rfl lk_X11_53 rfl (Nat.le_of_ble_eq_true rfl) (by decide) ⟨by decide, by decide⟩ (cn_X0_init ([] : List GC) _) (fun G' v m7 hq _ => ?_)
  obtain ⟨rfl, rfl, f7⟩ := hq
  dsimp only [stk]
  have g7 : fresh 69 (zer m6 68) m7 := f7
  have z7 : ∀ x, 1 ≤ x → m7 x = fun _ => 0 := by
    intro x hx
    by_cases q : x < 69
    · rw [g7.1 x q]
      by_cases w : x < 68
      · rw [zer_lt _ w]; exact z6 x hx
      · exact zer_ge _ (by omega)
    · exact g7.2 x (by omega)
  refine z_pR 0 dX11_init_78 ff_X11_54 rfl rfl (fun _ => ⟨rfl, rfl⟩) (fun _ _ _ => rfl) (fun _ => trivial) ?_
  refine z_aload_n dX11_init_81 rfl ?_
  refine z_nw (15, 297) dX11_init_82 cl_5 nl_X11_58 in_X5 ii_X5 df_X5 ⟨by decide, by decide⟩ ?_
  refine z_dup dX11_init_85 (by intro z q; cases q) ?_
  refine z_callI (b1 := (2, 8)) (b2 := (13, 289)) (As := []) dX11_init_86 ok_X5_init rfl lk_X11_60 rfl (Nat.le_of_ble_eq_true rfl) (by decide) ⟨by decide, by decide⟩ (cn_X5_init ([] : List GC) _) (fun G' v m8 hq _ => ?_)
  obtain ⟨rfl, rfl, f8⟩ := hq
  dsimp only [stk]
  have g8 : ((∀ j : Nat, j < 4 → m8 73 (j : Int) = 1) ∧ ∀ j : Nat, j < 4 → m8 74 (j : Int) = 1) ∧ (∀ x, x < 73 → m8 x = zer m7 72 x) ∧ ∀ x, 74 < x → m8 x = fun _ => 0 := f8
  have z8 : ∀ x, 1 ≤ x → x ≠ 73 → x ≠ 74 → m8 x = fun _ => 0 := by
    intro x hx h1 h2
    by_cases q : x < 73
    · rw [g8.2.1 x q]
      by_cases w : x < 72
      · rw [zer_lt _ w]; exact z7 x hx
      · exact zer_ge _ (by omega)
    · exact g8.2.2 x (by omega)
  refine z_pR 0 dX11_init_89 ff_X11_61 rfl rfl (fun _ => ⟨rfl, rfl⟩) (fun _ _ _ => rfl) (fun _ => trivial) ?_
  refine z_aload_n dX11_init_92 rfl ?_
  refine z_nw (12, 286) dX11_init_93 cl_1 nl_X11_65 in_X1 ii_X1 df_X1 ⟨by decide, by decide⟩ ?_
  refine z_dup dX11_init_96 (by intro z q; cases q) ?_
  refine z_callI (b1 := (3, 18)) (b2 := (9, 268)) (As := []) dX11_init_97 ok_X1_init rfl lk_X11_67 rfl (Nat.le_of_ble_eq_true rfl) (by decide) ⟨by decide, by decide⟩ (cn_X1_init ([] : List GC) _) (fun G' v m9 hq _ => ?_)
  obtain ⟨rfl, rfl, f9⟩ := hq
  dsimp only [stk]
  have g9 : (∀ j : Nat, j < 6 → m9 76 (j : Int) = -1) ∧ (∀ x, x < 76 → m9 x = zer m8 75 x) ∧ ∀ x, 76 < x → m9 x = fun _ => 0 := f9
  have z9 : ∀ x, 1 ≤ x → x ≠ 73 → x ≠ 74 → x ≠ 76 → m9 x = fun _ => 0 := by
    intro x hx h1 h2 h3
    by_cases q : x < 76
    · rw [g9.2.1 x q]
      by_cases w : x < 75
      · rw [zer_lt _ w]; exact z8 x hx h1 h2
      · exact zer_ge _ (by omega)
    · exact g9.2.2 x (by omega)
  have y9 : ∀ x, x < 75 → m9 x = m8 x := fun x hx => by rw [g9.2.1 x (by omega), zer_lt _ hx]
  refine z_pR 0 dX11_init_100 ff_X11_68 rfl rfl (fun _ => ⟨rfl, rfl⟩) (fun _ _ _ => rfl) (fun _ => trivial) ?_
  refine z_aload_n dX11_init_103 rfl ?_
  refine z_nw (8, 264) dX11_init_104 cl_4 nl_X11_72 in_X4 ii_X4 df_X4 ⟨by decide, by decide⟩ ?_
  refine z_dup dX11_init_107 (by intro z q; cases q) ?_
  refine z_callI (b1 := (8, 264)) (b2 := (0, 0)) (As := []) dX11_init_108 ok_X4_init rfl lk_X11_74 rfl (Nat.le_of_ble_eq_true rfl) (by decide) ⟨by decide, by decide⟩ (cn_X4_init ([] : List GC) _) (fun G' v m10 hq _ => ?_)
  obtain ⟨rfl, rfl, f10⟩ := hq
  dsimp only [stk]
  have g10 : natAt m10 82 1 ∧ (∀ x, x < 80 → m10 x = zer m9 79 x) ∧ ∀ x, 80 ≤ x → x ≠ 82 → x ≠ 83 → m10 x = fun _ => 0 := f10
  have z10 : ∀ x, 1 ≤ x → x ≠ 73 → x ≠ 74 → x ≠ 76 → x ≠ 82 → x ≠ 83 → m10 x = fun _ => 0 := by
    intro x hx h1 h2 h3 h4 h5
    by_cases q : x < 80
    · rw [g10.2.1 x q]
      by_cases w : x < 79
      · rw [zer_lt _ w]; exact z9 x hx h1 h2 h3
      · exact zer_ge _ (by omega)
    · exact g10.2.2 x (by omega) h4 h5
  have y10 : ∀ x, x < 79 → m10 x = m9 x := fun x hx => by rw [g10.2.1 x (by omega), zer_lt _ hx]
  refine z_pR 0 dX11_init_111 ff_X11_75 rfl rfl (fun _ => ⟨rfl, rfl⟩) (fun _ _ _ => rfl) (fun _ => trivial) ?_
  refine z_aload_n dX11_init_114 rfl ?_
  refine z_sipush dX11_init_115 (by decide) ?_
  refine z_pI 10 dX11_init_118 fm_X11_79 (by first | rfl | assumption) rfl rfl ?_
  refine z_vret dX11_init_121 rfl ?_
  refine ⟨rfl, by decide +kernel, mset_eq _ _ _ _, fun x hx h1 h2 h3 h4 h5 => ?_, fun j hj => ⟨?_, ?_⟩, fun j hj => ?_, ?_⟩
  · rw [mset_ne _ (by omega)]; exact z10 x hx h1 h2 h3 h4 h5
  · rw [mset_ne _ (by decide), y10 73 (by decide), y9 73 (by decide)]; exact g8.1.1 j hj
  · rw [mset_ne _ (by decide), y10 74 (by decide), y9 74 (by decide)]; exact g8.1.2 j hj
  · rw [mset_ne _ (by decide), y10 76 (by decide)]; exact g9.1 j hj
  · exact g10.1.kept (mset_ne _ (by decide) _ _) (mset_ne _ (by decide) _ _)
theorem gT_len : gT.length = 88 := by decide +kernel
theorem reg_zero {r : Nat} (hr : r < 6) (h89 : mem 89 = fun _ => 0) (h90 : mem 90 = fun _ => 0) : regAt mem r 0 := by
  have hrow : ∀ j : Int, rowM mem r j = 0 := fun j => by unfold rowM; rw [h89]
  refine ⟨fun i _ => by rw [hrow]; decide, ?_, 0, by decide, by rw [h90]; rfl, fun j _ _ => hrow _, Or.inl rfl⟩
  rw [nv_pad (k := 0) (by decide) (fun i _ _ => hrow _)]
  rfl
/-- how a reference is made -/
def mTold (m : Mem) : Prop := (m 88 3 = 0 ∧ m 88 4 = 150 ∧ m 88 13 = 0 ∧ m 88 29 = 0) ∧ (∀ k f : Nat, k < 2 → f < 4 → m 103 (2 * (f : Int) + (k : Int)) = 1) ∧ (∀ i : Nat, i < 6 → m 104 (3 * (i : Int)) = -1 ∧ m 104 (3 * (i : Int) + 1) = 0 ∧ m 104 (3 * (i : Int) + 2) = 0) ∧ regAt m 0 0 ∧ regAt m 1 1
theorem cm_X12_init (h88 : mem 88 = fun _ => 0) : CM X (16, 12183) 2 mX12_init (gT ++ [(0, 12, List.replicate 36 none)]) [vr gT.length] mem (pC G0 fun m => mTold m ∧ ∀ x, x < 88 → m x = mem x) := by
  refine CM.of (by decide +kernel) 1 (Nat.le_of_ble_eq_true rfl) ?_
  show ZZ X (16, 12183) 2 mX12_init (gT ++ [(0, 12, List.replicate 36 none)]) 0 [vr gT.length, vd] [] mem _
  refine z_aload_n dX12_init_0 rfl ?_
  refine z_objI dX12_init_1 oi_X12_1 oi_in oi_co (Nat.le_of_ble_eq_true rfl) (by decide) ?_
  refine z_aload_n dX12_init_4 rfl ?_
  refine z_sipush dX12_init_5 (by decide) ?_
  refine z_nI 396 (15, 11787) dX12_init_8 (by decide) ⟨by decide, by decide⟩ ?_
  refine z_pR 0 dX12_init_10 ff_X12_7 rfl rfl (fun _ => ⟨rfl, rfl⟩) (fun _ _ _ => rfl) (fun _ => trivial) ?_
  refine z_aload_n dX12_init_13 rfl ?_
  refine z_bipush dX12_init_14 (by decide) ?_
  refine z_nI 6 (14, 11781) dX12_init_16 (by decide) ⟨by decide, by decide⟩ ?_
  refine z_pR 0 dX12_init_18 ff_X12_13 rfl rfl (fun _ => ⟨rfl, rfl⟩) (fun _ _ _ => rfl) (fun _ => trivial) ?_
  refine z_aload_n dX12_init_21 rfl ?_
  refine z_sipush dX12_init_22 (by decide) ?_
  refine z_nI 360 (13, 11421) dX12_init_25 (by decide) ⟨by decide, by decide⟩ ?_
  refine z_pR 0 dX12_init_27 ff_X12_16 rfl rfl (fun _ => ⟨rfl, rfl⟩) (fun _ _ _ => rfl) (fun _ => trivial) ?_
  refine z_aload_n dX12_init_30 rfl ?_
  refine z_bipush dX12_init_31 (by decide) ?_
  refine z_nI 60 (12, 11361) dX12_init_33 (by decide) ⟨by decide, by decide⟩ ?_
  refine z_pR 0 dX12_init_35 ff_X12_19 rfl rfl (fun _ => ⟨rfl, rfl⟩) (fun _ _ _ => rfl) (fun _ => trivial) ?_
  refine z_aload_n dX12_init_38 rfl ?_
  refine z_sipush dX12_init_39 (by decide) ?_
  refine z_nI 5168 (11, 6193) dX12_init_42 (by decide) ⟨by decide, by decide⟩ ?_
  refine z_pR 0 dX12_init_44 ff_X12_22 rfl rfl (fun _ => ⟨rfl, rfl⟩) (fun _ _ _ => rfl) (fun _ => trivial) ?_
  refine z_aload_n dX12_init_47 rfl ?_
  refine z_sipush dX12_init_48 (by decide) ?_
  refine z_nI 5168 (10, 1025) dX12_init_51 (by decide) ⟨by decide, by decide⟩ ?_
  refine z_pR 0 dX12_init_53 ff_X12_25 rfl rfl (fun _ => ⟨rfl, rfl⟩) (fun _ _ _ => rfl) (fun _ => trivial) ?_
  refine z_aload_n dX12_init_56 rfl ?_
  refine z_bipush dX12_init_57 (by decide) ?_
  refine z_nI 48 (9, 977) dX12_init_59 (by decide) ⟨by decide, by decide⟩ ?_
  refine z_pR 0 dX12_init_61 ff_X12_28 rfl rfl (fun _ => ⟨rfl, rfl⟩) (fun _ _ _ => rfl) (fun _ => trivial) ?_
  refine z_aload_n dX12_init_64 rfl ?_
  refine z_bipush dX12_init_65 (by decide) ?_
  refine z_nI 6 (8, 971) dX12_init_67 (by decide) ⟨by decide, by decide⟩ ?_
  refine z_pR 0 dX12_init_69 ff_X12_31 rfl rfl (fun _ => ⟨rfl, rfl⟩) (fun _ _ _ => rfl) (fun _ => trivial) ?_
  refine z_aload_n dX12_init_72 rfl ?_
  refine z_bipush dX12_init_73 (by decide) ?_
  refine z_nI 6 (7, 965) dX12_init_75 (by decide) ⟨by decide, by decide⟩ ?_
  refine z_pR 0 dX12_init_77 ff_X12_34 rfl rfl (fun _ => ⟨rfl, rfl⟩) (fun _ _ _ => rfl) (fun _ => trivial) ?_
  refine z_aload_n dX12_init_80 rfl ?_
  refine z_bipush dX12_init_81 (by decide) ?_
  refine z_nI 60 (6, 905) dX12_init_83 (by decide) ⟨by decide, by decide⟩ ?_
  refine z_pR 0 dX12_init_85 ff_X12_37 rfl rfl (fun _ => ⟨rfl, rfl⟩) (fun _ _ _ => rfl) (fun _ => trivial) ?_
  refine z_aload_n dX12_init_88 rfl ?_
  refine z_sipush dX12_init_89 (by decide) ?_
  refine z_nJ 403 (5, 502) dX12_init_92 (by decide) ⟨by decide, by decide⟩ ?_
  refine z_pR 0 dX12_init_94 ff_X12_40 rfl rfl (fun _ => ⟨rfl, rfl⟩) (fun _ _ _ => rfl) (fun _ => trivial) ?_
  refine z_aload_n dX12_init_97 rfl ?_
  refine z_sipush dX12_init_98 (by decide) ?_
  refine z_nJ 403 (4, 99) dX12_init_101 (by decide) ⟨by decide, by decide⟩ ?_
  refine z_pR 0 dX12_init_103 ff_X12_44 rfl rfl (fun _ => ⟨rfl, rfl⟩) (fun _ _ _ => rfl) (fun _ => trivial) ?_
  refine z_aload_n dX12_init_106 rfl ?_
  refine z_bipush dX12_init_107 (by decide) ?_
  refine z_nJ 13 (3, 86) dX12_init_109 (by decide) ⟨by decide, by decide⟩ ?_
  refine z_pR 0 dX12_init_111 ff_X12_47 rfl rfl (fun _ => ⟨rfl, rfl⟩) (fun _ _ _ => rfl) (fun _ => trivial) ?_
  refine z_aload_n dX12_init_114 rfl ?_
  refine z_bipush dX12_init_115 (by decide) ?_
  refine z_nI 60 (2, 26) dX12_init_117 (by decide) ⟨by decide, by decide⟩ ?_
  refine z_pR 0 dX12_init_119 ff_X12_50 rfl rfl (fun _ => ⟨rfl, rfl⟩) (fun _ _ _ => rfl) (fun _ => trivial) ?_
  refine z_aload_n dX12_init_122 rfl ?_
  refine z_bipush dX12_init_123 (by decide) ?_
  refine z_nI 8 (1, 18) dX12_init_125 (by decide) ⟨by decide, by decide⟩ ?_
  refine z_pR 0 dX12_init_127 ff_X12_53 rfl rfl (fun _ => ⟨rfl, rfl⟩) (fun _ _ _ => rfl) (fun _ => trivial) ?_
  refine z_aload_n dX12_init_130 rfl ?_
  refine z_bipush dX12_init_131 (by decide) ?_
  refine z_nI 18 (0, 0) dX12_init_133 (by decide) ⟨by decide, by decide⟩ ?_
  refine z_pR 0 dX12_init_135 ff_X12_56 rfl rfl (fun _ => ⟨rfl, rfl⟩) (fun _ _ _ => rfl) (fun _ => trivial) ?_
  refine ZZ.asG (G' := G0) (by decide +kernel) ?_
  refine zz_mem (P := fresh 89 mem) ((((((((((((((((fresh.base mem (gT.length + 1)).zr (Nat.add_le_add_left (Nat.le_of_ble_eq_true rfl) _)).zr (Nat.add_le_add_left (Nat.le_of_ble_eq_true rfl) _)).zr (Nat.add_le_add_left (Nat.le_of_ble_eq_true rfl) _)).zr (Nat.add_le_add_left (Nat.le_of_ble_eq_true rfl) _)).zr (Nat.add_le_add_left (Nat.le_of_ble_eq_true rfl) _)).zr (Nat.add_le_add_left (Nat.le_of_ble_eq_true rfl) _)).zr (Nat.add_le_add_left (Nat.le_of_ble_eq_true rfl) _)).zr (Nat.add_le_add_left (Nat.le_of_ble_eq_true rfl) _)).zr (Nat.add_le_add_left (Nat.le_of_ble_eq_true rfl) _)).zr (Nat.add_le_add_left (Nat.le_of_ble_eq_true rfl) _)).zr (Nat.add_le_add_left (Nat.le_of_ble_eq_true rfl) _)).zr (Nat.add_le_add_left (Nat.le_of_ble_eq_true rfl) _)).zr (Nat.add_le_add_left (Nat.le_of_ble_eq_true rfl) _)).zr (Nat.add_le_add_left (Nat.le_of_ble_eq_true rfl) _)).zr (Nat.add_le_add_left (Nat.le_of_ble_eq_true rfl) _)) (fun m1 f1 => ?_)
  show ZZ X (0, 0) 2 mX12_init G0 138 [vr 88, vd] [] m1 _
  have b0 : ∀ x, 89 ≤ x → m1 x = fun _ => 0 := f1.2
  have e88 : m1 88 = fun _ => 0 := (f1.1 88 (by decide)).trans h88
  have last : ∀ (m : Mem) (u1 : VV), (∀ x, x < 88 → m x = mem x) → m 88 = mset m1 88 4 150 88 → (∀ x, 89 ≤ x → x ≠ 103 → x ≠ 104 → m x = fun _ => 0) → (∀ k f : Nat, k < 2 → f < 4 → m 103 (2 * (f : Int) + (k : Int)) = 1) → (∀ i : Nat, i < 6 → m 104 (3 * (i : Int)) = -1 ∧ m 104 (3 * (i : Int) + 1) = 0 ∧ m 104 (3 * (i : Int) + 2) = 0) → ZZ X (0, 0) 2 mX12_init G0 201 [vr 88, u1] [] m (pC G0 fun m => mTold m ∧ ∀ x, x < 88 → m x = mem x) := by
    intro m u1 h1 h2 h3 h4 h5
    have z0 := reg_zero (mem := m) (r := 0) (by decide) (h3 89 (by decide) (by decide) (by decide)) (h3 90 (by decide) (by decide) (by decide))
    refine z_aload_n dX12_init_201 rfl ?_
    refine z_iconst dX12_init_202 (by decide) ?_
    refine z_lconst (z := 1) dX12_init_203 rfl (by decide) ?_
    refine z_V2v dX12_init_204 ok_X12_sets lk_X12_63 (by first | rfl | assumption) rfl rfl (Nat.le_of_ble_eq_true rfl) (by decide) (cm_X12_sets (r := 1) (v := 1) (by decide) (by decide)) (fun m9 hm9 => ?_)
    obtain ⟨r9, o9⟩ := hm9
    refine z_vret dX12_init_207 rfl ?_
    refine ⟨rfl, rfl, ⟨⟨?_, ?_, ?_, ?_⟩, fun k f hk hf => ?_, fun i hi => ?_, z0.off o9 (by decide), r9⟩, fun x hx => ?_⟩
    · rw [o9.1 88 (by decide) (by decide), h2, mset_nej _ _ (by decide), e88]
    · rw [o9.1 88 (by decide) (by decide), h2]; exact mset_eq _ _ _ _
    · rw [o9.1 88 (by decide) (by decide), h2, mset_nej _ _ (by decide), e88]
    · rw [o9.1 88 (by decide) (by decide), h2, mset_nej _ _ (by decide), e88]
    · rw [o9.1 103 (by decide) (by decide)]; exact h4 k f hk hf
    · rw [o9.1 104 (by decide) (by decide)]; exact h5 i hi
    · rw [o9.1 x (by omega) (by omega)]; exact h1 x hx
  have two : ∀ (e i : Nat) (m : Mem), i + e = 6 → (∀ x, x < 88 → m x = mem x) → m 88 = mset m1 88 4 150 88 → (∀ x, 89 ≤ x → x ≠ 103 → x ≠ 104 → m x = fun _ => 0) → (∀ k f : Nat, k < 2 → f < 4 → m 103 (2 * (f : Int) + (k : Int)) = 1) → (∀ j : Nat, j < 6 → (j < i → m 104 (3 * (j : Int)) = -1) ∧ m 104 (3 * (j : Int) + 1) = 0 ∧ m 104 (3 * (j : Int) + 2) = 0) → ZZ X (0, 0) 2 mX12_init G0 180 [vr 88, vi (i : Int)] [] m (pC G0 fun m => mTold m ∧ ∀ x, x < 88 → m x = mem x) := by
    intro e
    induction e with
    | zero =>
      intro i m hi h1 h2 h3 h4 h5
      have : i = 6 := by omega
      subst this
      refine z_iload_n dX12_init_180 rfl ?_
      refine z_bipush dX12_init_181 (by decide) ?_
      refine z_icmp_ge 201 dX12_init_183 (by decide) (fun h183 => ?_) (fun h183 => ?_)
      · exact last m _ h1 h2 h3 h4 (fun j hj => ⟨(h5 j hj).1 hj, (h5 j hj).2⟩)
      · omega
    | succ e ih =>
      intro i m hi h1 h2 h3 h4 h5
      refine z_iload_n dX12_init_180 rfl ?_
      refine z_bipush dX12_init_181 (by decide) ?_
      refine z_icmp_ge 201 dX12_init_183 (by decide) (fun h183 => ?_) (fun h183 => ?_)
      · omega
      · refine z_aload_n dX12_init_186 rfl ?_
        refine z_getR (ty := .int) dX12_init_187 fl_X12_56 (by first | rfl | assumption) rfl rfl ?_
        refine z_iconst dX12_init_190 (by decide) ?_
        refine z_iload_n dX12_init_191 rfl ?_
        refine z_imul dX12_init_192 (by omega) ?_
        refine z_iconst dX12_init_193 (by decide) ?_
        refine z_iast dX12_init_194 (by first | rfl | assumption) (by omega) (by omega) ?_
        refine z_iinc dX12_init_195 rfl (by omega) (by decide) rfl ?_
        dsimp only [List.set]
        refine z_goto 180 dX12_init_198 (by decide) ?_
        refine ih (i + 1) _ (by omega) (fun x hx => by rw [mset_ne _ (by omega)]; exact h1 x hx) (by rw [mset_ne _ (by decide)]; exact h2) (fun x a b c => by rw [mset_ne _ c]; exact h3 x a b c) (fun k f hk hf => by rw [mset_ne _ (by decide)]; exact h4 k f hk hf) (fun j hj => ⟨fun q => ?_, ?_, ?_⟩)
        · by_cases w : j = i
          · subst w; exact mset_eq _ _ _ _
          · rw [mset_nej _ _ (by omega)]; exact (h5 j hj).1 (by omega)
        · rw [mset_nej _ _ (by omega)]; exact (h5 j hj).2.1
        · rw [mset_nej _ _ (by omega)]; exact (h5 j hj).2.2
  have one : ∀ (e i : Nat) (m : Mem), i + e = 4 → (∀ x, x < 88 → m x = mem x) → m 88 = mset m1 88 4 150 88 → (∀ x, 89 ≤ x → x ≠ 103 → m x = fun _ => 0) → (∀ k f : Nat, k < 2 → f < i → m 103 (2 * (f : Int) + (k : Int)) = 1) → ZZ X (0, 0) 2 mX12_init G0 147 [vr 88, vi (i : Int)] [] m (pC G0 fun m => mTold m ∧ ∀ x, x < 88 → m x = mem x) := by
    intro e
    induction e with
    | zero =>
      intro i m hi h1 h2 h3 h4
      have : i = 4 := by omega
      subst this
      have e104 := h3 104 (by decide) (by decide)
      refine z_iload_n dX12_init_147 rfl ?_
      refine z_iconst dX12_init_148 (by decide) ?_
      refine z_icmp_ge 178 dX12_init_149 (by decide) (fun h149 => ?_) (fun h149 => ?_)
      · refine z_iconst dX12_init_178 (by decide) ?_
        refine z_istore_n dX12_init_179 (by decide) rfl ?_
        dsimp only [List.set]
        exact two 6 0 m (by omega) h1 h2 (fun x a b _ => h3 x a b) h4 (fun j hj => ⟨fun q => by omega, by rw [e104], by rw [e104]⟩)
      · omega
    | succ e ih =>
      intro i m hi h1 h2 h3 h4
      refine z_iload_n dX12_init_147 rfl ?_
      refine z_iconst dX12_init_148 (by decide) ?_
      refine z_icmp_ge 178 dX12_init_149 (by decide) (fun h149 => ?_) (fun h149 => ?_)
      · omega
      · refine z_aload_n dX12_init_152 rfl ?_
        refine z_getR (ty := .int) dX12_init_153 fl_X12_53 (by first | rfl | assumption) rfl rfl ?_
        refine z_iconst dX12_init_156 (by decide) ?_
        refine z_iload_n dX12_init_157 rfl ?_
        refine z_imul dX12_init_158 (by omega) ?_
        refine z_iconst dX12_init_159 (by decide) ?_
        refine z_iast dX12_init_160 (by first | rfl | assumption) (by omega) (by omega) ?_
        refine z_aload_n dX12_init_161 rfl ?_
        refine z_getR (ty := .int) dX12_init_162 fl_X12_53 (by first | rfl | assumption) rfl rfl ?_
        refine z_iconst dX12_init_165 (by decide) ?_
        refine z_iload_n dX12_init_166 rfl ?_
        refine z_imul dX12_init_167 (by omega) ?_
        refine z_iconst dX12_init_168 (by decide) ?_
        refine z_iadd dX12_init_169 (by omega) ?_
        refine z_iconst dX12_init_170 (by decide) ?_
        refine z_iast dX12_init_171 (by first | rfl | assumption) (by omega) (by omega) ?_
        refine z_iinc dX12_init_172 rfl (by omega) (by decide) rfl ?_
        dsimp only [List.set]
        refine z_goto 147 dX12_init_175 (by decide) ?_
        refine ih (i + 1) _ (by omega) (fun x hx => by rw [mset_ne _ (by omega), mset_ne _ (by omega)]; exact h1 x hx) (by rw [mset_ne _ (by decide), mset_ne _ (by decide)]; exact h2) (fun x a b => by rw [mset_ne _ b, mset_ne _ b]; exact h3 x a b) (fun k f hk hf => ?_)
        by_cases w : f = i
        · subst w
          obtain rfl | rfl : k = 0 ∨ k = 1 := by omega
          · rw [mset_nej _ _ (by omega), show 2 * (f : Int) + ((0 : Nat) : Int) = 2 * (f : Int) by omega]
            exact mset_eq _ _ _ _
          · exact mset_eq _ _ _ _
        · rw [mset_nej _ _ (by omega), mset_nej _ _ (by omega)]; exact h4 k f hk (by omega)
  refine z_aload_n dX12_init_138 rfl ?_
  refine z_sipush dX12_init_139 (by decide) ?_
  refine z_pI 4 dX12_init_142 fm_X12_59 (by first | rfl | assumption) rfl rfl ?_
  refine z_iconst dX12_init_145 (by decide) ?_
  refine z_istore_n dX12_init_146 (by decide) rfl ?_
  dsimp only [List.set]
  exact one 4 0 _ (by omega) (fun x hx => by rw [mset_ne _ (by omega)]; exact f1.1 x (by omega)) rfl (fun x a _ => by rw [mset_ne _ (by omega)]; exact b0 x a) (fun k f hk hf => by omega)
end Ctor2
