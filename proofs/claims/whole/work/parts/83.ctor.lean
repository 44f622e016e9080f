/-! ===== constructors (laid by gen83.py) ===== -/
theorem ac_int : Cond.arrayClass .int ∈ wsG := (inG (inT (inT1 61 (by decide +kernel))) (by decide +kernel))
theorem ac_boolean : Cond.arrayClass .boolean ∈ wsG := (inG (inT (inT1 62 (by decide +kernel))) (by decide +kernel))
theorem ac_long : Cond.arrayClass .long ∈ wsG := (inG (inT (inT1 209 (by decide +kernel))) (by decide +kernel))
theorem nl_L_7 : Cond.classLink RL 7 RX11 ∈ wsG := (inG (inT (inT1 18 (by decide +kernel))) (by decide +kernel))
theorem nl_X11_7 : Cond.classLink RX11 7 RX3 ∈ wsG := (inG (inT (inT1 26 (by decide +kernel))) (by decide +kernel))
theorem nl_X11_16 : Cond.classLink RX11 16 RX6 ∈ wsG := (inG (inT (inT1 63 (by decide +kernel))) (by decide +kernel))
theorem nl_X11_23 : Cond.classLink RX11 23 RX9 ∈ wsG := (inG (inT (inT1 77 (by decide +kernel))) (by decide +kernel))
theorem nl_X9_7 : Cond.classLink RX9 7 RX8 ∈ wsG := (inG (inT (inT1 83 (by decide +kernel))) (by decide +kernel))
theorem nl_X11_30 : Cond.classLink RX11 30 RX7 ∈ wsG := (inG (inT (inT1 121 (by decide +kernel))) (by decide +kernel))
theorem nl_X7_9 : Cond.classLink RX7 9 RX8 ∈ wsG := (inG (inT (inT1 127 (by decide +kernel))) (by decide +kernel))
theorem nl_X11_37 : Cond.classLink RX11 37 RX10 ∈ wsG := (inG (inT (inT1 136 (by decide +kernel))) (by decide +kernel))
theorem nl_X11_44 : Cond.classLink RX11 44 RX2 ∈ wsG := (inG (inT (inT1 177 (by decide +kernel))) (by decide +kernel))
theorem nl_X2_17 : Cond.classLink RX2 17 ("[" ++ (FieldType.array .long).toString) ∈ wsG := (inG (inT (inT1 183 (by decide +kernel))) (by decide +kernel))
theorem nl_X11_51 : Cond.classLink RX11 51 RX0 ∈ wsG := (inG (inT (inT1 210 (by decide +kernel))) (by decide +kernel))
theorem nl_X11_58 : Cond.classLink RX11 58 RX5 ∈ wsG := (inG (inT (inT2 6 (by decide +kernel))) (by decide +kernel))
theorem nl_X11_65 : Cond.classLink RX11 65 RX1 ∈ wsG := (inG (inT (inT2 24 (by decide +kernel))) (by decide +kernel))
theorem nl_X11_72 : Cond.classLink RX11 72 RX4 ∈ wsG := (inG (inT (inT2 44 (by decide +kernel))) (by decide +kernel))
theorem nl_X4_7 : Cond.classLink RX4 7 RX8 ∈ wsG := (inG (inT (inT2 50 (by decide +kernel))) (by decide +kernel))
theorem nl_L_10 : Cond.classLink RL 10 RX12 ∈ wsG := (inG (inT (inT4 166 (by decide +kernel))) (by decide +kernel))
theorem in_X11 : Cond.instantiable RX11 11 ∈ wsG := (inG (inT (inT1 19 (by decide +kernel))) (by decide +kernel))
theorem ii_X11 : Cond.initialized RX11 ∈ wsG := (inG (inT (inT1 1 (by decide +kernel))) (by decide +kernel))
theorem df_X11 : ∀ j, j < 11 → dfOK (tyC 11 j) = true := by decide +kernel
theorem in_X3 : Cond.instantiable RX3 7 ∈ wsG := (inG (inT (inT1 27 (by decide +kernel))) (by decide +kernel))
theorem ii_X3 : Cond.initialized RX3 ∈ wsG := (inG (inT (inT1 2 (by decide +kernel))) (by decide +kernel))
theorem df_X3 : ∀ j, j < 7 → dfOK (tyC 3 j) = true := by decide +kernel
theorem in_X6 : Cond.instantiable RX6 2 ∈ wsG := (inG (inT (inT1 64 (by decide +kernel))) (by decide +kernel))
theorem ii_X6 : Cond.initialized RX6 ∈ wsG := (inG (inT (inT1 3 (by decide +kernel))) (by decide +kernel))
theorem df_X6 : ∀ j, j < 2 → dfOK (tyC 6 j) = true := by decide +kernel
theorem in_X9 : Cond.instantiable RX9 7 ∈ wsG := (inG (inT (inT1 78 (by decide +kernel))) (by decide +kernel))
theorem ii_X9 : Cond.initialized RX9 ∈ wsG := (inG (inT (inT1 4 (by decide +kernel))) (by decide +kernel))
theorem df_X9 : ∀ j, j < 7 → dfOK (tyC 9 j) = true := by decide +kernel
theorem in_X8 : Cond.instantiable RX8 2 ∈ wsG := (inG (inT (inT1 84 (by decide +kernel))) (by decide +kernel))
theorem ii_X8 : Cond.initialized RX8 ∈ wsG := (inG (inT (inT1 5 (by decide +kernel))) (by decide +kernel))
theorem df_X8 : ∀ j, j < 2 → dfOK (tyC 8 j) = true := by decide +kernel
theorem in_X7 : Cond.instantiable RX7 2 ∈ wsG := (inG (inT (inT1 122 (by decide +kernel))) (by decide +kernel))
theorem ii_X7 : Cond.initialized RX7 ∈ wsG := (inG (inT (inT1 6 (by decide +kernel))) (by decide +kernel))
theorem df_X7 : ∀ j, j < 2 → dfOK (tyC 7 j) = true := by decide +kernel
theorem in_X10 : Cond.instantiable RX10 11 ∈ wsG := (inG (inT (inT1 137 (by decide +kernel))) (by decide +kernel))
theorem ii_X10 : Cond.initialized RX10 ∈ wsG := (inG (inT (inT1 7 (by decide +kernel))) (by decide +kernel))
theorem df_X10 : ∀ j, j < 11 → dfOK (tyC 10 j) = true := by decide +kernel
theorem in_X2 : Cond.instantiable RX2 7 ∈ wsG := (inG (inT (inT1 178 (by decide +kernel))) (by decide +kernel))
theorem ii_X2 : Cond.initialized RX2 ∈ wsG := (inG (inT (inT1 8 (by decide +kernel))) (by decide +kernel))
theorem df_X2 : ∀ j, j < 7 → dfOK (tyC 2 j) = true := by decide +kernel
theorem in_X0 : Cond.instantiable RX0 8 ∈ wsG := (inG (inT (inT1 211 (by decide +kernel))) (by decide +kernel))
theorem ii_X0 : Cond.initialized RX0 ∈ wsG := (inG (inT (inT1 9 (by decide +kernel))) (by decide +kernel))
theorem df_X0 : ∀ j, j < 8 → dfOK (tyC 0 j) = true := by decide +kernel
theorem in_X5 : Cond.instantiable RX5 2 ∈ wsG := (inG (inT (inT2 7 (by decide +kernel))) (by decide +kernel))
theorem ii_X5 : Cond.initialized RX5 ∈ wsG := (inG (inT (inT1 10 (by decide +kernel))) (by decide +kernel))
theorem df_X5 : ∀ j, j < 2 → dfOK (tyC 5 j) = true := by decide +kernel
theorem in_X1 : Cond.instantiable RX1 3 ∈ wsG := (inG (inT (inT2 25 (by decide +kernel))) (by decide +kernel))
theorem ii_X1 : Cond.initialized RX1 ∈ wsG := (inG (inT (inT1 12 (by decide +kernel))) (by decide +kernel))
theorem df_X1 : ∀ j, j < 3 → dfOK (tyC 1 j) = true := by decide +kernel
theorem in_X4 : Cond.instantiable RX4 4 ∈ wsG := (inG (inT (inT2 45 (by decide +kernel))) (by decide +kernel))
theorem ii_X4 : Cond.initialized RX4 ∈ wsG := (inG (inT (inT1 13 (by decide +kernel))) (by decide +kernel))
theorem df_X4 : ∀ j, j < 4 → dfOK (tyC 4 j) = true := by decide +kernel
theorem in_X12 : Cond.instantiable RX12 36 ∈ wsG := (inG (inT (inT4 167 (by decide +kernel))) (by decide +kernel))
theorem ii_X12 : Cond.initialized RX12 ∈ wsG := (inG (inT (inT1 14 (by decide +kernel))) (by decide +kernel))
theorem df_X12 : ∀ j, j < 36 → dfOK (tyC 12 j) = true := by decide +kernel
theorem oi_X11_1 : Cond.methodLink RX11 1 Lib.objectInit ∈ wsG := (inG (inT (inT1 23 (by decide +kernel))) (by decide +kernel))
theorem oi_X3_3 : Cond.methodLink RX3 3 Lib.objectInit ∈ wsG := (inG (inT (inT1 31 (by decide +kernel))) (by decide +kernel))
theorem oi_X6_3 : Cond.methodLink RX6 3 Lib.objectInit ∈ wsG := (inG (inT (inT1 68 (by decide +kernel))) (by decide +kernel))
theorem oi_X9_1 : Cond.methodLink RX9 1 Lib.objectInit ∈ wsG := (inG (inT (inT1 82 (by decide +kernel))) (by decide +kernel))
theorem oi_X8_3 : Cond.methodLink RX8 3 Lib.objectInit ∈ wsG := (inG (inT (inT1 88 (by decide +kernel))) (by decide +kernel))
theorem oi_X7_3 : Cond.methodLink RX7 3 Lib.objectInit ∈ wsG := (inG (inT (inT1 126 (by decide +kernel))) (by decide +kernel))
theorem oi_X10_5 : Cond.methodLink RX10 5 Lib.objectInit ∈ wsG := (inG (inT (inT1 141 (by decide +kernel))) (by decide +kernel))
theorem oi_X2_3 : Cond.methodLink RX2 3 Lib.objectInit ∈ wsG := (inG (inT (inT1 182 (by decide +kernel))) (by decide +kernel))
theorem oi_X0_3 : Cond.methodLink RX0 3 Lib.objectInit ∈ wsG := (inG (inT (inT1 215 (by decide +kernel))) (by decide +kernel))
theorem oi_X5_3 : Cond.methodLink RX5 3 Lib.objectInit ∈ wsG := (inG (inT (inT2 11 (by decide +kernel))) (by decide +kernel))
theorem oi_X1_3 : Cond.methodLink RX1 3 Lib.objectInit ∈ wsG := (inG (inT (inT2 29 (by decide +kernel))) (by decide +kernel))
theorem oi_X4_1 : Cond.methodLink RX4 1 Lib.objectInit ∈ wsG := (inG (inT (inT2 49 (by decide +kernel))) (by decide +kernel))
theorem oi_X12_1 : Cond.methodLink RX12 1 Lib.objectInit ∈ wsG := (inG (inT (inT4 171 (by decide +kernel))) (by decide +kernel))
theorem oi_in : Cond.instanceMethod Lib.objectInit ∈ wsG := (inG (inT (inT1 24 (by decide +kernel))) (by decide +kernel))
theorem oi_co : Cond.code Lib.objectInit ⟨#[0xb1]⟩ 1 none ∈ wsG := (inG (inT (inT1 25 (by decide +kernel))) (by decide +kernel))
theorem zer_zer (mem : Mem) {a b : Nat} (h : a ≤ b) : zer (zer mem a) b = zer mem a := by
  funext x
  unfold zer
  by_cases q : x < a
  · rw [if_pos (by omega), if_pos q]
  · rw [if_neg q]
    split <;> rfl
section Ctor
variable {X : Nat × (Int → Int)} {b : Nat × Nat} {d : Nat} {mi : MI} {P Lt : List GC} {pc : Nat} {L S : List VV} {mem : Mem} {Q : zPost}
theorem z_nI (N : Nat) (b2 : Nat × Nat) (hd : decode mi.2.1 pc = .ok (.newarray .int, 2)) (hN : N < 100000) (hb : 1 + b2.1 ≤ b.1 ∧ N + b2.2 ≤ b.2) (kk : ZZ X b2 d mi (P ++ (Lt ++ [(1, N, [])])) (pc + 2) L (vr (P.length + Lt.length) :: S) (zer mem (P.length + Lt.length)) Q) : ZZ X b d mi (P ++ Lt) pc L (vi (N : Int) :: S) mem Q := z_newI b2 hd ac_int hN hb (by rw [List.append_assoc, List.length_append]; exact kk)
theorem z_nZ (N : Nat) (b2 : Nat × Nat) (hd : decode mi.2.1 pc = .ok (.newarray .boolean, 2)) (hN : N < 100000) (hb : 1 + b2.1 ≤ b.1 ∧ N + b2.2 ≤ b.2) (kk : ZZ X b2 d mi (P ++ (Lt ++ [(2, N, [])])) (pc + 2) L (vr (P.length + Lt.length) :: S) (zer mem (P.length + Lt.length)) Q) : ZZ X b d mi (P ++ Lt) pc L (vi (N : Int) :: S) mem Q := z_newZ b2 hd ac_boolean hN hb (by rw [List.append_assoc, List.length_append]; exact kk)
theorem z_nJ (N : Nat) (b2 : Nat × Nat) (hd : decode mi.2.1 pc = .ok (.newarray .long, 2)) (hN : N < 100000) (hb : 1 + b2.1 ≤ b.1 ∧ N + b2.2 ≤ b.2) (kk : ZZ X b2 d mi (P ++ (Lt ++ [(3, N, [])])) (pc + 2) L (vr (P.length + Lt.length) :: S) (zer mem (P.length + Lt.length)) Q) : ZZ X b d mi (P ++ Lt) pc L (vi (N : Int) :: S) mem Q := z_newJ b2 hd ac_long hN hb (by rw [List.append_assoc, List.length_append]; exact kk)
theorem z_nM (b2 : Nat × Nat) {idx : Nat} (hd : decode mi.2.1 pc = .ok (.multianewarray idx 2, 4)) (hlk : Cond.classLink mi.1.cls idx ("[" ++ (FieldType.array .long).toString) ∈ wsG) (hb : 32 + b2.1 ≤ b.1 ∧ 434 + b2.2 ≤ b.2) (kk : ZZ X b2 d mi (P ++ (Lt ++ ((4, 31, (List.range 31).map (fun i => some (P.length + Lt.length + 1 + i))) :: List.replicate 31 (3, 13, [])))) (pc + 4) L (vr (P.length + Lt.length) :: S) (zer mem (P.length + Lt.length)) Q) : ZZ X b d mi (P ++ Lt) pc L (vi 13 :: vi 31 :: S) mem Q := z_mna b2 hd hlk ac_long hb (by rw [List.append_assoc, List.length_append]; exact kk)
theorem z_nw {idx ci : Nat} {C : String} {T : u_T} {N : Nat} (b2 : Nat × Nat) (hd : decode mi.2.1 pc = .ok (.new idx, 3)) (hcl : clOK ci C T N) (hlk : Cond.classLink mi.1.cls idx C ∈ wsG) (hins : Cond.instantiable C N ∈ wsG) (hini : Cond.initialized C ∈ wsG) (hdf : ∀ j, j < N → dfOK (tyC ci j) = true) (hb : 1 + b2.1 ≤ b.1 ∧ N + b2.2 ≤ b.2) (kk : ZZ X b2 d mi (P ++ (Lt ++ [(0, ci, List.replicate N none)])) (pc + 3) L (vr (P.length + Lt.length) :: S) (zer mem (P.length + Lt.length)) Q) : ZZ X b d mi (P ++ Lt) pc L S mem Q := z_new b2 hd hcl hlk hins hini hdf hb (by rw [List.append_assoc, List.length_append]; exact kk)
theorem app_at {k : Nat} {g : GC} (h : Lt[k]? = some g) : (P ++ Lt)[P.length + k]? = some g := by
  rw [List.getElem?_append_right (by omega), show P.length + k - P.length = k by omega]
  exact h
theorem z_pR (k0 : Nat) {idx ci k r : Nat} {rs : List (Option Nat)} (hd : decode mi.2.1 pc = .ok (.putfield idx, 3)) (hf : fdF mi.1.cls idx ci k) (hini : mi.1.name = "<init>") (hg : Lt[k0]? = some (0, ci, rs)) (hna : ∀ x : Nat, narrow (tyC ci k) (.ref x) = .ref x ∧ fits (tyC ci k) (.ref x) = true) (hfv : ∀ (σ : Nat → Nat) (o : Option Nat) (z : Int), fval σ (tyC ci k) o z = va_rf (o.map σ)) (hir : ∀ z, inr (tyC ci k) z) (kk : ZZ X b d mi (P ++ Lt.set k0 (0, ci, rs.set k (some r))) (pc + 3) L S mem Q) : ZZ X b d mi (P ++ Lt) pc L (vr r :: vr (P.length + k0) :: S) mem Q := by
  refine z_putR hd hf hini (app_at hg) hna hfv hir ?_
  rw [List.set_append_right _ _ (by omega), show P.length + k0 - P.length = k0 by omega]
  exact kk
theorem ZZ.asG {G G' : List GC} (h : G = G') (kk : ZZ X b d mi G' pc L S mem Q) : ZZ X b d mi G pc L S mem Q := by
  rw [h]
  exact kk
theorem zz_mem {G : List GC} {Pm : Mem → Prop} (h : Pm mem) (kk : ∀ m', Pm m' → ZZ X b d mi G pc L S m' Q) : ZZ X b d mi G pc L S mem Q := kk mem h
/-- what a constructor leaves: the shape, the memory -/
def pC (Gn : List GC) (P : Mem → Prop) : zPost := fun G' v m => v = vd ∧ G' = Gn ∧ P m
def fresh (n : Nat) (mem m : Mem) : Prop := (∀ x, x < n → m x = mem x) ∧ ∀ x, n ≤ x → m x = fun _ => 0
theorem fresh.base (mem : Mem) (n : Nat) : fresh n mem (zer mem n) := ⟨fun x h => zer_lt mem h, fun x h => zer_ge mem h⟩
theorem fresh.zr {n k : Nat} {m : Mem} (h : fresh n mem m) (hk : n ≤ k) : fresh n mem (zer m k) := by
  refine ⟨fun x hx => ?_, fun x hx => ?_⟩
  · rw [zer_lt m (by omega)]; exact h.1 x hx
  · by_cases q : x < k
    · rw [zer_lt m q]; exact h.2 x hx
    · rw [zer_ge m (by omega)]
theorem fresh.tr {n k : Nat} {m1 m2 : Mem} (h : fresh n mem m1) (h2 : fresh k m1 m2) (hk : n ≤ k) : fresh n mem m2 := by
  refine ⟨fun x hx => ?_, fun x hx => ?_⟩
  · rw [h2.1 x (by omega)]; exact h.1 x hx
  · by_cases q : x < k
    · rw [h2.1 x q]; exact h.2 x hx
    · exact h2.2 x (by omega)
theorem cm_X8_init (P : List GC) : CM X (1, 64) 1 mX8_init (P ++ [(0, 8, List.replicate 2 none)]) [vr P.length] mem (pC (P ++ [(0, 8, [some (P.length + 1), none]), (1, 64, [])]) (fresh (P.length + 1) mem)) := by
  refine CM.of (by decide +kernel) 0 (Nat.le_of_ble_eq_true rfl) ?_
  show ZZ X (1, 64) 1 mX8_init (P ++ [(0, 8, List.replicate 2 none)]) 0 [vr P.length] [] mem _
  refine z_aload_n dX8_init_0 rfl ?_
  refine z_objI dX8_init_1 oi_X8_3 oi_in oi_co (Nat.le_of_ble_eq_true rfl) (by decide) ?_
  refine z_aload_n dX8_init_4 rfl ?_
  refine z_bipush dX8_init_5 (by decide) ?_
  refine z_nI 64 (0, 0) dX8_init_7 (by decide) ⟨by decide, by decide⟩ ?_
  refine zz_mem (Pm := fresh (P.length + 1) mem) (fresh.base mem (P.length + 1)) (fun m1 f1 => ?_)
  show ZZ X (0, 0) 1 mX8_init (P ++ [(0, 8, [none, none]), (1, 64, [])]) 9 [vr P.length] [vr (P.length + 1), vr P.length] m1 _
  refine z_pR 0 dX8_init_9 ff_X8_9 rfl rfl (fun _ => ⟨rfl, rfl⟩) (fun _ _ _ => rfl) (fun _ => trivial) ?_
  show ZZ X (0, 0) 1 mX8_init (P ++ [(0, 8, [some (P.length + 1), none]), (1, 64, [])]) 12 [vr P.length] [] m1 _
  refine z_vret dX8_init_12 rfl ?_
  exact ⟨rfl, rfl, f1⟩
theorem cn_X8_init (P Lt : List GC) : CM X (1, 64) 1 mX8_init (P ++ (Lt ++ [(0, 8, List.replicate 2 none)])) [vr (P.length + Lt.length)] mem (pC (P ++ (Lt ++ [(0, 8, [some (P.length + Lt.length + 1), none]), (1, 64, [])])) (fresh (P.length + Lt.length + 1) mem)) := by
  have h := cm_X8_init (X := X) (mem := mem) (P ++ Lt)
  rw [List.append_assoc, List.append_assoc, List.length_append] at h
  exact h
theorem cm_X6_init (P : List GC) : CM X (1, 60) 1 mX6_init (P ++ [(0, 6, List.replicate 2 none)]) [vr P.length] mem (pC (P ++ [(0, 6, [some (P.length + 1), none]), (1, 60, [])]) (fresh (P.length + 1) mem)) := by
  refine CM.of (by decide +kernel) 0 (Nat.le_of_ble_eq_true rfl) ?_
  show ZZ X (1, 60) 1 mX6_init (P ++ [(0, 6, List.replicate 2 none)]) 0 [vr P.length] [] mem _
  refine z_aload_n dX6_init_0 rfl ?_
  refine z_objI dX6_init_1 oi_X6_3 oi_in oi_co (Nat.le_of_ble_eq_true rfl) (by decide) ?_
  refine z_aload_n dX6_init_4 rfl ?_
  refine z_bipush dX6_init_5 (by decide) ?_
  refine z_nI 60 (0, 0) dX6_init_7 (by decide) ⟨by decide, by decide⟩ ?_
  refine zz_mem (Pm := fresh (P.length + 1) mem) (fresh.base mem (P.length + 1)) (fun m1 f1 => ?_)
  show ZZ X (0, 0) 1 mX6_init (P ++ [(0, 6, [none, none]), (1, 60, [])]) 9 [vr P.length] [vr (P.length + 1), vr P.length] m1 _
  refine z_pR 0 dX6_init_9 ff_X6_11 rfl rfl (fun _ => ⟨rfl, rfl⟩) (fun _ _ _ => rfl) (fun _ => trivial) ?_
  show ZZ X (0, 0) 1 mX6_init (P ++ [(0, 6, [some (P.length + 1), none]), (1, 60, [])]) 12 [vr P.length] [] m1 _
  refine z_vret dX6_init_12 rfl ?_
  exact ⟨rfl, rfl, f1⟩
theorem cn_X6_init (P Lt : List GC) : CM X (1, 60) 1 mX6_init (P ++ (Lt ++ [(0, 6, List.replicate 2 none)])) [vr (P.length + Lt.length)] mem (pC (P ++ (Lt ++ [(0, 6, [some (P.length + Lt.length + 1), none]), (1, 60, [])])) (fresh (P.length + Lt.length + 1) mem)) := by
  have h := cm_X6_init (X := X) (mem := mem) (P ++ Lt)
  rw [List.append_assoc, List.append_assoc, List.length_append] at h
  exact h
theorem cm_X3_init (P : List GC) : CM X (6, 360) 1 mX3_init (P ++ [(0, 3, List.replicate 7 none)]) [vr P.length] mem (pC (P ++ [(0, 3, [some (P.length + 1), some (P.length + 2), some (P.length + 3), some (P.length + 4), some (P.length + 5), some (P.length + 6), none]), (1, 60, []), (1, 60, []), (1, 60, []), (1, 60, []), (1, 60, []), (2, 60, [])]) (fresh (P.length + 1) mem)) := by
  refine CM.of (by decide +kernel) 0 (Nat.le_of_ble_eq_true rfl) ?_
  show ZZ X (6, 360) 1 mX3_init (P ++ [(0, 3, List.replicate 7 none)]) 0 [vr P.length] [] mem _
  refine z_aload_n dX3_init_0 rfl ?_
  refine z_objI dX3_init_1 oi_X3_3 oi_in oi_co (Nat.le_of_ble_eq_true rfl) (by decide) ?_
  refine z_aload_n dX3_init_4 rfl ?_
  refine z_bipush dX3_init_5 (by decide) ?_
  refine z_nI 60 (5, 300) dX3_init_7 (by decide) ⟨by decide, by decide⟩ ?_
  refine zz_mem (Pm := fresh (P.length + 1) mem) (fresh.base mem (P.length + 1)) (fun m1 f1 => ?_)
  show ZZ X (5, 300) 1 mX3_init (P ++ [(0, 3, [none, none, none, none, none, none, none]), (1, 60, [])]) 9 [vr P.length] [vr (P.length + 1), vr P.length] m1 _
  refine z_pR 0 dX3_init_9 ff_X3_11 rfl rfl (fun _ => ⟨rfl, rfl⟩) (fun _ _ _ => rfl) (fun _ => trivial) ?_
  show ZZ X (5, 300) 1 mX3_init (P ++ [(0, 3, [some (P.length + 1), none, none, none, none, none, none]), (1, 60, [])]) 12 [vr P.length] [] m1 _
  refine z_aload_n dX3_init_12 rfl ?_
  refine z_bipush dX3_init_13 (by decide) ?_
  refine z_nI 60 (4, 240) dX3_init_15 (by decide) ⟨by decide, by decide⟩ ?_
  refine zz_mem (Pm := fresh (P.length + 1) mem) (f1.zr (show P.length + 1 ≤ P.length + 2 by omega)) (fun m2 f2 => ?_)
  show ZZ X (4, 240) 1 mX3_init (P ++ [(0, 3, [some (P.length + 1), none, none, none, none, none, none]), (1, 60, []), (1, 60, [])]) 17 [vr P.length] [vr (P.length + 2), vr P.length] m2 _
  refine z_pR 0 dX3_init_17 ff_X3_15 rfl rfl (fun _ => ⟨rfl, rfl⟩) (fun _ _ _ => rfl) (fun _ => trivial) ?_
  show ZZ X (4, 240) 1 mX3_init (P ++ [(0, 3, [some (P.length + 1), some (P.length + 2), none, none, none, none, none]), (1, 60, []), (1, 60, [])]) 20 [vr P.length] [] m2 _
  refine z_aload_n dX3_init_20 rfl ?_
  refine z_bipush dX3_init_21 (by decide) ?_
  refine z_nI 60 (3, 180) dX3_init_23 (by decide) ⟨by decide, by decide⟩ ?_
  refine zz_mem (Pm := fresh (P.length + 1) mem) (f2.zr (show P.length + 1 ≤ P.length + 3 by omega)) (fun m3 f3 => ?_)
  show ZZ X (3, 180) 1 mX3_init (P ++ [(0, 3, [some (P.length + 1), some (P.length + 2), none, none, none, none, none]), (1, 60, []), (1, 60, []), (1, 60, [])]) 25 [vr P.length] [vr (P.length + 3), vr P.length] m3 _
  refine z_pR 0 dX3_init_25 ff_X3_18 rfl rfl (fun _ => ⟨rfl, rfl⟩) (fun _ _ _ => rfl) (fun _ => trivial) ?_
  show ZZ X (3, 180) 1 mX3_init (P ++ [(0, 3, [some (P.length + 1), some (P.length + 2), some (P.length + 3), none, none, none, none]), (1, 60, []), (1, 60, []), (1, 60, [])]) 28 [vr P.length] [] m3 _
  refine z_aload_n dX3_init_28 rfl ?_
  refine z_bipush dX3_init_29 (by decide) ?_
  refine z_nI 60 (2, 120) dX3_init_31 (by decide) ⟨by decide, by decide⟩ ?_
  refine zz_mem (Pm := fresh (P.length + 1) mem) (f3.zr (show P.length + 1 ≤ P.length + 4 by omega)) (fun m4 f4 => ?_)
  show ZZ X (2, 120) 1 mX3_init (P ++ [(0, 3, [some (P.length + 1), some (P.length + 2), some (P.length + 3), none, none, none, none]), (1, 60, []), (1, 60, []), (1, 60, []), (1, 60, [])]) 33 [vr P.length] [vr (P.length + 4), vr P.length] m4 _
  refine z_pR 0 dX3_init_33 ff_X3_21 rfl rfl (fun _ => ⟨rfl, rfl⟩) (fun _ _ _ => rfl) (fun _ => trivial) ?_
  show ZZ X (2, 120) 1 mX3_init (P ++ [(0, 3, [some (P.length + 1), some (P.length + 2), some (P.length + 3), some (P.length + 4), none, none, none]), (1, 60, []), (1, 60, []), (1, 60, []), (1, 60, [])]) 36 [vr P.length] [] m4 _
  refine z_aload_n dX3_init_36 rfl ?_
  refine z_bipush dX3_init_37 (by decide) ?_
  refine z_nI 60 (1, 60) dX3_init_39 (by decide) ⟨by decide, by decide⟩ ?_
  refine zz_mem (Pm := fresh (P.length + 1) mem) (f4.zr (show P.length + 1 ≤ P.length + 5 by omega)) (fun m5 f5 => ?_)
  show ZZ X (1, 60) 1 mX3_init (P ++ [(0, 3, [some (P.length + 1), some (P.length + 2), some (P.length + 3), some (P.length + 4), none, none, none]), (1, 60, []), (1, 60, []), (1, 60, []), (1, 60, []), (1, 60, [])]) 41 [vr P.length] [vr (P.length + 5), vr P.length] m5 _
  refine z_pR 0 dX3_init_41 ff_X3_24 rfl rfl (fun _ => ⟨rfl, rfl⟩) (fun _ _ _ => rfl) (fun _ => trivial) ?_
  show ZZ X (1, 60) 1 mX3_init (P ++ [(0, 3, [some (P.length + 1), some (P.length + 2), some (P.length + 3), some (P.length + 4), some (P.length + 5), none, none]), (1, 60, []), (1, 60, []), (1, 60, []), (1, 60, []), (1, 60, [])]) 44 [vr P.length] [] m5 _
  refine z_aload_n dX3_init_44 rfl ?_
  refine z_bipush dX3_init_45 (by decide) ?_
  refine z_nZ 60 (0, 0) dX3_init_47 (by decide) ⟨by decide, by decide⟩ ?_
  refine zz_mem (Pm := fresh (P.length + 1) mem) (f5.zr (show P.length + 1 ≤ P.length + 6 by omega)) (fun m6 f6 => ?_)
  show ZZ X (0, 0) 1 mX3_init (P ++ [(0, 3, [some (P.length + 1), some (P.length + 2), some (P.length + 3), some (P.length + 4), some (P.length + 5), none, none]), (1, 60, []), (1, 60, []), (1, 60, []), (1, 60, []), (1, 60, []), (2, 60, [])]) 49 [vr P.length] [vr (P.length + 6), vr P.length] m6 _
  refine z_pR 0 dX3_init_49 ff_X3_27 rfl rfl (fun _ => ⟨rfl, rfl⟩) (fun _ _ _ => rfl) (fun _ => trivial) ?_
  show ZZ X (0, 0) 1 mX3_init (P ++ [(0, 3, [some (P.length + 1), some (P.length + 2), some (P.length + 3), some (P.length + 4), some (P.length + 5), some (P.length + 6), none]), (1, 60, []), (1, 60, []), (1, 60, []), (1, 60, []), (1, 60, []), (2, 60, [])]) 52 [vr P.length] [] m6 _
  refine z_vret dX3_init_52 rfl ?_
  exact ⟨rfl, rfl, f6⟩
theorem cn_X3_init (P Lt : List GC) : CM X (6, 360) 1 mX3_init (P ++ (Lt ++ [(0, 3, List.replicate 7 none)])) [vr (P.length + Lt.length)] mem (pC (P ++ (Lt ++ [(0, 3, [some (P.length + Lt.length + 1), some (P.length + Lt.length + 2), some (P.length + Lt.length + 3), some (P.length + Lt.length + 4), some (P.length + Lt.length + 5), some (P.length + Lt.length + 6), none]), (1, 60, []), (1, 60, []), (1, 60, []), (1, 60, []), (1, 60, []), (2, 60, [])])) (fresh (P.length + Lt.length + 1) mem)) := by
  have h := cm_X3_init (X := X) (mem := mem) (P ++ Lt)
  rw [List.append_assoc, List.append_assoc, List.length_append] at h
  exact h
theorem cm_X0_init (P : List GC) : CM X (3, 60) 1 mX0_init (P ++ [(0, 0, List.replicate 8 none)]) [vr P.length] mem (pC (P ++ [(0, 0, [some (P.length + 1), some (P.length + 2), some (P.length + 3), none, none, none, none, none]), (1, 20, []), (1, 20, []), (1, 20, [])]) (fresh (P.length + 1) mem)) := by
  refine CM.of (by decide +kernel) 0 (Nat.le_of_ble_eq_true rfl) ?_
  show ZZ X (3, 60) 1 mX0_init (P ++ [(0, 0, List.replicate 8 none)]) 0 [vr P.length] [] mem _
  refine z_aload_n dX0_init_0 rfl ?_
  refine z_objI dX0_init_1 oi_X0_3 oi_in oi_co (Nat.le_of_ble_eq_true rfl) (by decide) ?_
  refine z_aload_n dX0_init_4 rfl ?_
  refine z_bipush dX0_init_5 (by decide) ?_
  refine z_nI 20 (2, 40) dX0_init_7 (by decide) ⟨by decide, by decide⟩ ?_
  refine zz_mem (Pm := fresh (P.length + 1) mem) (fresh.base mem (P.length + 1)) (fun m1 f1 => ?_)
  show ZZ X (2, 40) 1 mX0_init (P ++ [(0, 0, [none, none, none, none, none, none, none, none]), (1, 20, [])]) 9 [vr P.length] [vr (P.length + 1), vr P.length] m1 _
  refine z_pR 0 dX0_init_9 ff_X0_11 rfl rfl (fun _ => ⟨rfl, rfl⟩) (fun _ _ _ => rfl) (fun _ => trivial) ?_
  show ZZ X (2, 40) 1 mX0_init (P ++ [(0, 0, [some (P.length + 1), none, none, none, none, none, none, none]), (1, 20, [])]) 12 [vr P.length] [] m1 _
  refine z_aload_n dX0_init_12 rfl ?_
  refine z_bipush dX0_init_13 (by decide) ?_
  refine z_nI 20 (1, 20) dX0_init_15 (by decide) ⟨by decide, by decide⟩ ?_
  refine zz_mem (Pm := fresh (P.length + 1) mem) (f1.zr (show P.length + 1 ≤ P.length + 2 by omega)) (fun m2 f2 => ?_)
  show ZZ X (1, 20) 1 mX0_init (P ++ [(0, 0, [some (P.length + 1), none, none, none, none, none, none, none]), (1, 20, []), (1, 20, [])]) 17 [vr P.length] [vr (P.length + 2), vr P.length] m2 _
  refine z_pR 0 dX0_init_17 ff_X0_15 rfl rfl (fun _ => ⟨rfl, rfl⟩) (fun _ _ _ => rfl) (fun _ => trivial) ?_
  show ZZ X (1, 20) 1 mX0_init (P ++ [(0, 0, [some (P.length + 1), some (P.length + 2), none, none, none, none, none, none]), (1, 20, []), (1, 20, [])]) 20 [vr P.length] [] m2 _
  refine z_aload_n dX0_init_20 rfl ?_
  refine z_bipush dX0_init_21 (by decide) ?_
  refine z_nI 20 (0, 0) dX0_init_23 (by decide) ⟨by decide, by decide⟩ ?_
  refine zz_mem (Pm := fresh (P.length + 1) mem) (f2.zr (show P.length + 1 ≤ P.length + 3 by omega)) (fun m3 f3 => ?_)
  show ZZ X (0, 0) 1 mX0_init (P ++ [(0, 0, [some (P.length + 1), some (P.length + 2), none, none, none, none, none, none]), (1, 20, []), (1, 20, []), (1, 20, [])]) 25 [vr P.length] [vr (P.length + 3), vr P.length] m3 _
  refine z_pR 0 dX0_init_25 ff_X0_18 rfl rfl (fun _ => ⟨rfl, rfl⟩) (fun _ _ _ => rfl) (fun _ => trivial) ?_
  show ZZ X (0, 0) 1 mX0_init (P ++ [(0, 0, [some (P.length + 1), some (P.length + 2), some (P.length + 3), none, none, none, none, none]), (1, 20, []), (1, 20, []), (1, 20, [])]) 28 [vr P.length] [] m3 _
  refine z_vret dX0_init_28 rfl ?_
  exact ⟨rfl, rfl, f3⟩
theorem cn_X0_init (P Lt : List GC) : CM X (3, 60) 1 mX0_init (P ++ (Lt ++ [(0, 0, List.replicate 8 none)])) [vr (P.length + Lt.length)] mem (pC (P ++ (Lt ++ [(0, 0, [some (P.length + Lt.length + 1), some (P.length + Lt.length + 2), some (P.length + Lt.length + 3), none, none, none, none, none]), (1, 20, []), (1, 20, []), (1, 20, [])])) (fresh (P.length + Lt.length + 1) mem)) := by
  have h := cm_X0_init (X := X) (mem := mem) (P ++ Lt)
  rw [List.append_assoc, List.append_assoc, List.length_append] at h
  exact h
theorem cm_X10_init (P : List GC) : CM X (7, 66) 1 mX10_init (P ++ [(0, 10, List.replicate 11 none)]) [vr P.length] mem (pC (P ++ [(0, 10, [some (P.length + 1), some (P.length + 2), some (P.length + 3), some (P.length + 4), none, none, none, some (P.length + 5), some (P.length + 6), some (P.length + 7), none]), (1, 12, []), (1, 12, []), (1, 12, []), (1, 12, []), (1, 6, []), (1, 6, []), (1, 6, [])]) (fresh (P.length + 1) mem)) := by
  refine CM.of (by decide +kernel) 0 (Nat.le_of_ble_eq_true rfl) ?_
  show ZZ X (7, 66) 1 mX10_init (P ++ [(0, 10, List.replicate 11 none)]) 0 [vr P.length] [] mem _
  refine z_aload_n dX10_init_0 rfl ?_
  refine z_objI dX10_init_1 oi_X10_5 oi_in oi_co (Nat.le_of_ble_eq_true rfl) (by decide) ?_
  refine z_aload_n dX10_init_4 rfl ?_
  refine z_bipush dX10_init_5 (by decide) ?_
  refine z_nI 12 (6, 54) dX10_init_7 (by decide) ⟨by decide, by decide⟩ ?_
  refine zz_mem (Pm := fresh (P.length + 1) mem) (fresh.base mem (P.length + 1)) (fun m1 f1 => ?_)
  show ZZ X (6, 54) 1 mX10_init (P ++ [(0, 10, [none, none, none, none, none, none, none, none, none, none, none]), (1, 12, [])]) 9 [vr P.length] [vr (P.length + 1), vr P.length] m1 _
  refine z_pR 0 dX10_init_9 ff_X10_11 rfl rfl (fun _ => ⟨rfl, rfl⟩) (fun _ _ _ => rfl) (fun _ => trivial) ?_
  show ZZ X (6, 54) 1 mX10_init (P ++ [(0, 10, [some (P.length + 1), none, none, none, none, none, none, none, none, none, none]), (1, 12, [])]) 12 [vr P.length] [] m1 _
  refine z_aload_n dX10_init_12 rfl ?_
  refine z_bipush dX10_init_13 (by decide) ?_
  refine z_nI 12 (5, 42) dX10_init_15 (by decide) ⟨by decide, by decide⟩ ?_
  refine zz_mem (Pm := fresh (P.length + 1) mem) (f1.zr (show P.length + 1 ≤ P.length + 2 by omega)) (fun m2 f2 => ?_)
  show ZZ X (5, 42) 1 mX10_init (P ++ [(0, 10, [some (P.length + 1), none, none, none, none, none, none, none, none, none, none]), (1, 12, []), (1, 12, [])]) 17 [vr P.length] [vr (P.length + 2), vr P.length] m2 _
  refine z_pR 0 dX10_init_17 ff_X10_15 rfl rfl (fun _ => ⟨rfl, rfl⟩) (fun _ _ _ => rfl) (fun _ => trivial) ?_
  show ZZ X (5, 42) 1 mX10_init (P ++ [(0, 10, [some (P.length + 1), some (P.length + 2), none, none, none, none, none, none, none, none, none]), (1, 12, []), (1, 12, [])]) 20 [vr P.length] [] m2 _
  refine z_aload_n dX10_init_20 rfl ?_
  refine z_bipush dX10_init_21 (by decide) ?_
  refine z_nI 12 (4, 30) dX10_init_23 (by decide) ⟨by decide, by decide⟩ ?_
  refine zz_mem (Pm := fresh (P.length + 1) mem) (f2.zr (show P.length + 1 ≤ P.length + 3 by omega)) (fun m3 f3 => ?_)
  show ZZ X (4, 30) 1 mX10_init (P ++ [(0, 10, [some (P.length + 1), some (P.length + 2), none, none, none, none, none, none, none, none, none]), (1, 12, []), (1, 12, []), (1, 12, [])]) 25 [vr P.length] [vr (P.length + 3), vr P.length] m3 _
  refine z_pR 0 dX10_init_25 ff_X10_18 rfl rfl (fun _ => ⟨rfl, rfl⟩) (fun _ _ _ => rfl) (fun _ => trivial) ?_
  show ZZ X (4, 30) 1 mX10_init (P ++ [(0, 10, [some (P.length + 1), some (P.length + 2), some (P.length + 3), none, none, none, none, none, none, none, none]), (1, 12, []), (1, 12, []), (1, 12, [])]) 28 [vr P.length] [] m3 _
  refine z_aload_n dX10_init_28 rfl ?_
  refine z_bipush dX10_init_29 (by decide) ?_
  refine z_nI 12 (3, 18) dX10_init_31 (by decide) ⟨by decide, by decide⟩ ?_
  refine zz_mem (Pm := fresh (P.length + 1) mem) (f3.zr (show P.length + 1 ≤ P.length + 4 by omega)) (fun m4 f4 => ?_)
  show ZZ X (3, 18) 1 mX10_init (P ++ [(0, 10, [some (P.length + 1), some (P.length + 2), some (P.length + 3), none, none, none, none, none, none, none, none]), (1, 12, []), (1, 12, []), (1, 12, []), (1, 12, [])]) 33 [vr P.length] [vr (P.length + 4), vr P.length] m4 _
  refine z_pR 0 dX10_init_33 ff_X10_21 rfl rfl (fun _ => ⟨rfl, rfl⟩) (fun _ _ _ => rfl) (fun _ => trivial) ?_
  show ZZ X (3, 18) 1 mX10_init (P ++ [(0, 10, [some (P.length + 1), some (P.length + 2), some (P.length + 3), some (P.length + 4), none, none, none, none, none, none, none]), (1, 12, []), (1, 12, []), (1, 12, []), (1, 12, [])]) 36 [vr P.length] [] m4 _
  refine z_aload_n dX10_init_36 rfl ?_
  refine z_bipush dX10_init_37 (by decide) ?_
  refine z_nI 6 (2, 12) dX10_init_39 (by decide) ⟨by decide, by decide⟩ ?_
  refine zz_mem (Pm := fresh (P.length + 1) mem) (f4.zr (show P.length + 1 ≤ P.length + 5 by omega)) (fun m5 f5 => ?_)
  show ZZ X (2, 12) 1 mX10_init (P ++ [(0, 10, [some (P.length + 1), some (P.length + 2), some (P.length + 3), some (P.length + 4), none, none, none, none, none, none, none]), (1, 12, []), (1, 12, []), (1, 12, []), (1, 12, []), (1, 6, [])]) 41 [vr P.length] [vr (P.length + 5), vr P.length] m5 _
  refine z_pR 0 dX10_init_41 ff_X10_24 rfl rfl (fun _ => ⟨rfl, rfl⟩) (fun _ _ _ => rfl) (fun _ => trivial) ?_
  show ZZ X (2, 12) 1 mX10_init (P ++ [(0, 10, [some (P.length + 1), some (P.length + 2), some (P.length + 3), some (P.length + 4), none, none, none, some (P.length + 5), none, none, none]), (1, 12, []), (1, 12, []), (1, 12, []), (1, 12, []), (1, 6, [])]) 44 [vr P.length] [] m5 _
  refine z_aload_n dX10_init_44 rfl ?_
  refine z_bipush dX10_init_45 (by decide) ?_
  refine z_nI 6 (1, 6) dX10_init_47 (by decide) ⟨by decide, by decide⟩ ?_
  refine zz_mem (Pm := fresh (P.length + 1) mem) (f5.zr (show P.length + 1 ≤ P.length + 6 by omega)) (fun m6 f6 => ?_)
  show ZZ X (1, 6) 1 mX10_init (P ++ [(0, 10, [some (P.length + 1), some (P.length + 2), some (P.length + 3), some (P.length + 4), none, none, none, some (P.length + 5), none, none, none]), (1, 12, []), (1, 12, []), (1, 12, []), (1, 12, []), (1, 6, []), (1, 6, [])]) 49 [vr P.length] [vr (P.length + 6), vr P.length] m6 _
  refine z_pR 0 dX10_init_49 ff_X10_27 rfl rfl (fun _ => ⟨rfl, rfl⟩) (fun _ _ _ => rfl) (fun _ => trivial) ?_
  show ZZ X (1, 6) 1 mX10_init (P ++ [(0, 10, [some (P.length + 1), some (P.length + 2), some (P.length + 3), some (P.length + 4), none, none, none, some (P.length + 5), some (P.length + 6), none, none]), (1, 12, []), (1, 12, []), (1, 12, []), (1, 12, []), (1, 6, []), (1, 6, [])]) 52 [vr P.length] [] m6 _
  refine z_aload_n dX10_init_52 rfl ?_
  refine z_bipush dX10_init_53 (by decide) ?_
  refine z_nI 6 (0, 0) dX10_init_55 (by decide) ⟨by decide, by decide⟩ ?_
  refine zz_mem (Pm := fresh (P.length + 1) mem) (f6.zr (show P.length + 1 ≤ P.length + 7 by omega)) (fun m7 f7 => ?_)
  show ZZ X (0, 0) 1 mX10_init (P ++ [(0, 10, [some (P.length + 1), some (P.length + 2), some (P.length + 3), some (P.length + 4), none, none, none, some (P.length + 5), some (P.length + 6), none, none]), (1, 12, []), (1, 12, []), (1, 12, []), (1, 12, []), (1, 6, []), (1, 6, []), (1, 6, [])]) 57 [vr P.length] [vr (P.length + 7), vr P.length] m7 _
  refine z_pR 0 dX10_init_57 ff_X10_30 rfl rfl (fun _ => ⟨rfl, rfl⟩) (fun _ _ _ => rfl) (fun _ => trivial) ?_
  show ZZ X (0, 0) 1 mX10_init (P ++ [(0, 10, [some (P.length + 1), some (P.length + 2), some (P.length + 3), some (P.length + 4), none, none, none, some (P.length + 5), some (P.length + 6), some (P.length + 7), none]), (1, 12, []), (1, 12, []), (1, 12, []), (1, 12, []), (1, 6, []), (1, 6, []), (1, 6, [])]) 60 [vr P.length] [] m7 _
  refine z_vret dX10_init_60 rfl ?_
  exact ⟨rfl, rfl, f7⟩
theorem cn_X10_init (P Lt : List GC) : CM X (7, 66) 1 mX10_init (P ++ (Lt ++ [(0, 10, List.replicate 11 none)])) [vr (P.length + Lt.length)] mem (pC (P ++ (Lt ++ [(0, 10, [some (P.length + Lt.length + 1), some (P.length + Lt.length + 2), some (P.length + Lt.length + 3), some (P.length + Lt.length + 4), none, none, none, some (P.length + Lt.length + 5), some (P.length + Lt.length + 6), some (P.length + Lt.length + 7), none]), (1, 12, []), (1, 12, []), (1, 12, []), (1, 12, []), (1, 6, []), (1, 6, []), (1, 6, [])])) (fresh (P.length + Lt.length + 1) mem)) := by
  have h := cm_X10_init (X := X) (mem := mem) (P ++ Lt)
  rw [List.append_assoc, List.append_assoc, List.length_append] at h
  exact h
theorem cm_X2_init (P : List GC) : CM X (34, 507) 1 mX2_init (P ++ [(0, 2, List.replicate 7 none)]) [vr P.length] mem (pC (P ++ [(0, 2, [some (P.length + 1), none, none, none, none, some (P.length + 2), some (P.length + 34)]), (1, 60, []), (4, 31, (List.range 31).map (fun i => some (P.length + 3 + i))), (3, 13, []), (3, 13, []), (3, 13, []), (3, 13, []), (3, 13, []), (3, 13, []), (3, 13, []), (3, 13, []), (3, 13, []), (3, 13, []), (3, 13, []), (3, 13, []), (3, 13, []), (3, 13, []), (3, 13, []), (3, 13, []), (3, 13, []), (3, 13, []), (3, 13, []), (3, 13, []), (3, 13, []), (3, 13, []), (3, 13, []), (3, 13, []), (3, 13, []), (3, 13, []), (3, 13, []), (3, 13, []), (3, 13, []), (3, 13, []), (3, 13, []), (3, 13, [])]) (fresh (P.length + 1) mem)) := by
  refine CM.of (by decide +kernel) 0 (Nat.le_of_ble_eq_true rfl) ?_
  show ZZ X (34, 507) 1 mX2_init (P ++ [(0, 2, List.replicate 7 none)]) 0 [vr P.length] [] mem _
  refine z_aload_n dX2_init_0 rfl ?_
  refine z_objI dX2_init_1 oi_X2_3 oi_in oi_co (Nat.le_of_ble_eq_true rfl) (by decide) ?_
  refine z_aload_n dX2_init_4 rfl ?_
  refine z_bipush dX2_init_5 (by decide) ?_
  refine z_nI 60 (33, 447) dX2_init_7 (by decide) ⟨by decide, by decide⟩ ?_
  refine zz_mem (Pm := fresh (P.length + 1) mem) (fresh.base mem (P.length + 1)) (fun m1 f1 => ?_)
  show ZZ X (33, 447) 1 mX2_init (P ++ [(0, 2, [none, none, none, none, none, none, none]), (1, 60, [])]) 9 [vr P.length] [vr (P.length + 1), vr P.length] m1 _
  refine z_pR 0 dX2_init_9 ff_X2_11 rfl rfl (fun _ => ⟨rfl, rfl⟩) (fun _ _ _ => rfl) (fun _ => trivial) ?_
  show ZZ X (33, 447) 1 mX2_init (P ++ [(0, 2, [some (P.length + 1), none, none, none, none, none, none]), (1, 60, [])]) 12 [vr P.length] [] m1 _
  refine z_aload_n dX2_init_12 rfl ?_
  refine z_bipush dX2_init_13 (by decide) ?_
  refine z_bipush dX2_init_15 (by decide) ?_
  refine z_nM (1, 13) dX2_init_17 nl_X2_17 ⟨by decide, by decide⟩ ?_
  refine zz_mem (Pm := fresh (P.length + 1) mem) (f1.zr (show P.length + 1 ≤ P.length + 2 by omega)) (fun m2 f2 => ?_)
  show ZZ X (1, 13) 1 mX2_init (P ++ [(0, 2, [some (P.length + 1), none, none, none, none, none, none]), (1, 60, []), (4, 31, (List.range 31).map (fun i => some (P.length + 3 + i))), (3, 13, []), (3, 13, []), (3, 13, []), (3, 13, []), (3, 13, []), (3, 13, []), (3, 13, []), (3, 13, []), (3, 13, []), (3, 13, []), (3, 13, []), (3, 13, []), (3, 13, []), (3, 13, []), (3, 13, []), (3, 13, []), (3, 13, []), (3, 13, []), (3, 13, []), (3, 13, []), (3, 13, []), (3, 13, []), (3, 13, []), (3, 13, []), (3, 13, []), (3, 13, []), (3, 13, []), (3, 13, []), (3, 13, []), (3, 13, []), (3, 13, [])]) 21 [vr P.length] [vr (P.length + 2), vr P.length] m2 _
  refine z_pR 0 dX2_init_21 ff_X2_19 rfl rfl (fun _ => ⟨rfl, rfl⟩) (fun _ _ _ => rfl) (fun _ => trivial) ?_
  show ZZ X (1, 13) 1 mX2_init (P ++ [(0, 2, [some (P.length + 1), none, none, none, none, some (P.length + 2), none]), (1, 60, []), (4, 31, (List.range 31).map (fun i => some (P.length + 3 + i))), (3, 13, []), (3, 13, []), (3, 13, []), (3, 13, []), (3, 13, []), (3, 13, []), (3, 13, []), (3, 13, []), (3, 13, []), (3, 13, []), (3, 13, []), (3, 13, []), (3, 13, []), (3, 13, []), (3, 13, []), (3, 13, []), (3, 13, []), (3, 13, []), (3, 13, []), (3, 13, []), (3, 13, []), (3, 13, []), (3, 13, []), (3, 13, []), (3, 13, []), (3, 13, []), (3, 13, []), (3, 13, []), (3, 13, []), (3, 13, []), (3, 13, [])]) 24 [vr P.length] [] m2 _
  refine z_aload_n dX2_init_24 rfl ?_
  refine z_bipush dX2_init_25 (by decide) ?_
  refine z_nJ 13 (0, 0) dX2_init_27 (by decide) ⟨by decide, by decide⟩ ?_
  refine zz_mem (Pm := fresh (P.length + 1) mem) (f2.zr (show P.length + 1 ≤ P.length + 34 by omega)) (fun m3 f3 => ?_)
  show ZZ X (0, 0) 1 mX2_init (P ++ [(0, 2, [some (P.length + 1), none, none, none, none, some (P.length + 2), none]), (1, 60, []), (4, 31, (List.range 31).map (fun i => some (P.length + 3 + i))), (3, 13, []), (3, 13, []), (3, 13, []), (3, 13, []), (3, 13, []), (3, 13, []), (3, 13, []), (3, 13, []), (3, 13, []), (3, 13, []), (3, 13, []), (3, 13, []), (3, 13, []), (3, 13, []), (3, 13, []), (3, 13, []), (3, 13, []), (3, 13, []), (3, 13, []), (3, 13, []), (3, 13, []), (3, 13, []), (3, 13, []), (3, 13, []), (3, 13, []), (3, 13, []), (3, 13, []), (3, 13, []), (3, 13, []), (3, 13, []), (3, 13, []), (3, 13, [])]) 29 [vr P.length] [vr (P.length + 34), vr P.length] m3 _
  refine z_pR 0 dX2_init_29 ff_X2_22 rfl rfl (fun _ => ⟨rfl, rfl⟩) (fun _ _ _ => rfl) (fun _ => trivial) ?_
  show ZZ X (0, 0) 1 mX2_init (P ++ [(0, 2, [some (P.length + 1), none, none, none, none, some (P.length + 2), some (P.length + 34)]), (1, 60, []), (4, 31, (List.range 31).map (fun i => some (P.length + 3 + i))), (3, 13, []), (3, 13, []), (3, 13, []), (3, 13, []), (3, 13, []), (3, 13, []), (3, 13, []), (3, 13, []), (3, 13, []), (3, 13, []), (3, 13, []), (3, 13, []), (3, 13, []), (3, 13, []), (3, 13, []), (3, 13, []), (3, 13, []), (3, 13, []), (3, 13, []), (3, 13, []), (3, 13, []), (3, 13, []), (3, 13, []), (3, 13, []), (3, 13, []), (3, 13, []), (3, 13, []), (3, 13, []), (3, 13, []), (3, 13, []), (3, 13, []), (3, 13, [])]) 32 [vr P.length] [] m3 _
  refine z_vret dX2_init_32 rfl ?_
  exact ⟨rfl, rfl, f3⟩
theorem cn_X2_init (P Lt : List GC) : CM X (34, 507) 1 mX2_init (P ++ (Lt ++ [(0, 2, List.replicate 7 none)])) [vr (P.length + Lt.length)] mem (pC (P ++ (Lt ++ [(0, 2, [some (P.length + Lt.length + 1), none, none, none, none, some (P.length + Lt.length + 2), some (P.length + Lt.length + 34)]), (1, 60, []), (4, 31, (List.range 31).map (fun i => some (P.length + Lt.length + 3 + i))), (3, 13, []), (3, 13, []), (3, 13, []), (3, 13, []), (3, 13, []), (3, 13, []), (3, 13, []), (3, 13, []), (3, 13, []), (3, 13, []), (3, 13, []), (3, 13, []), (3, 13, []), (3, 13, []), (3, 13, []), (3, 13, []), (3, 13, []), (3, 13, []), (3, 13, []), (3, 13, []), (3, 13, []), (3, 13, []), (3, 13, []), (3, 13, []), (3, 13, []), (3, 13, []), (3, 13, []), (3, 13, []), (3, 13, []), (3, 13, []), (3, 13, []), (3, 13, [])])) (fresh (P.length + Lt.length + 1) mem)) := by
  have h := cm_X2_init (X := X) (mem := mem) (P ++ Lt)
  rw [List.append_assoc, List.append_assoc, List.length_append] at h
  exact h
theorem cm_X9_init (P : List GC) : CM X (8, 264) 2 mX9_init (P ++ [(0, 9, List.replicate 7 none)]) [vr P.length] mem (pC (P ++ [(0, 9, [some (P.length + 1), some (P.length + 3), some (P.length + 5), some (P.length + 7), none, none, none]), (0, 8, [some (P.length + 2), none]), (1, 64, []), (0, 8, [some (P.length + 4), none]), (1, 64, []), (0, 8, [some (P.length + 6), none]), (1, 64, []), (0, 8, [some (P.length + 8), none]), (1, 64, [])]) (fresh (P.length + 1) mem)) := by
  refine CM.of (by decide +kernel) 0 (Nat.le_of_ble_eq_true rfl) ?_
  show ZZ X (8, 264) 2 mX9_init (P ++ [(0, 9, List.replicate 7 none)]) 0 [vr P.length] [] mem _
  refine z_aload_n dX9_init_0 rfl ?_
  refine z_objI dX9_init_1 oi_X9_1 oi_in oi_co (Nat.le_of_ble_eq_true rfl) (by decide) ?_
  refine z_aload_n dX9_init_4 rfl ?_
  refine z_nw (7, 262) dX9_init_5 cl_8 nl_X9_7 in_X8 ii_X8 df_X8 ⟨by decide, by decide⟩ ?_
  refine zz_mem (Pm := fresh (P.length + 1) mem) (fresh.base mem (P.length + 1)) (fun m1 f1 => ?_)
  show ZZ X (7, 262) 2 mX9_init (P ++ ([(0, 9, [none, none, none, none, none, none, none])] ++ [(0, 8, List.replicate 2 none)])) 8 [vr P.length] [vr (P.length + 1), vr P.length] m1 _
  refine z_dup dX9_init_8 (by intro z q; cases q) ?_
  refine z_callI (a := P.length + 1) (b1 := (1, 64)) (b2 := (6, 198)) (As := []) dX9_init_9 ok_X8_init rfl lk_X9_9 rfl (Nat.le_of_ble_eq_true rfl) (by decide) ⟨by decide, by decide⟩ (cn_X8_init P [(0, 9, [none, none, none, none, none, none, none])]) (fun G' v m2 hq _ => ?_)
  obtain ⟨rfl, rfl, c2⟩ := hq
  have f2 := f1.tr c2 (show P.length + 1 ≤ P.length + 1 + 1 by omega)
  show ZZ X (6, 198) 2 mX9_init (P ++ [(0, 9, [none, none, none, none, none, none, none]), (0, 8, [some (P.length + 2), none]), (1, 64, [])]) 12 [vr P.length] [vr (P.length + 1), vr P.length] m2 _
  refine z_pR 0 dX9_init_12 ff_X9_10 rfl rfl (fun _ => ⟨rfl, rfl⟩) (fun _ _ _ => rfl) (fun _ => trivial) ?_
  show ZZ X (6, 198) 2 mX9_init (P ++ [(0, 9, [some (P.length + 1), none, none, none, none, none, none]), (0, 8, [some (P.length + 2), none]), (1, 64, [])]) 15 [vr P.length] [] m2 _
  refine z_aload_n dX9_init_15 rfl ?_
  refine z_nw (5, 196) dX9_init_16 cl_8 nl_X9_7 in_X8 ii_X8 df_X8 ⟨by decide, by decide⟩ ?_
  refine zz_mem (Pm := fresh (P.length + 1) mem) (f2.zr (show P.length + 1 ≤ P.length + 3 by omega)) (fun m3 f3 => ?_)
  show ZZ X (5, 196) 2 mX9_init (P ++ ([(0, 9, [some (P.length + 1), none, none, none, none, none, none]), (0, 8, [some (P.length + 2), none]), (1, 64, [])] ++ [(0, 8, List.replicate 2 none)])) 19 [vr P.length] [vr (P.length + 3), vr P.length] m3 _
  refine z_dup dX9_init_19 (by intro z q; cases q) ?_
  refine z_callI (a := P.length + 3) (b1 := (1, 64)) (b2 := (4, 132)) (As := []) dX9_init_20 ok_X8_init rfl lk_X9_9 rfl (Nat.le_of_ble_eq_true rfl) (by decide) ⟨by decide, by decide⟩ (cn_X8_init P [(0, 9, [some (P.length + 1), none, none, none, none, none, none]), (0, 8, [some (P.length + 2), none]), (1, 64, [])]) (fun G' v m4 hq _ => ?_)
  obtain ⟨rfl, rfl, c4⟩ := hq
  have f4 := f3.tr c4 (show P.length + 1 ≤ P.length + 3 + 1 by omega)
  show ZZ X (4, 132) 2 mX9_init (P ++ [(0, 9, [some (P.length + 1), none, none, none, none, none, none]), (0, 8, [some (P.length + 2), none]), (1, 64, []), (0, 8, [some (P.length + 4), none]), (1, 64, [])]) 23 [vr P.length] [vr (P.length + 3), vr P.length] m4 _
  refine z_pR 0 dX9_init_23 ff_X9_16 rfl rfl (fun _ => ⟨rfl, rfl⟩) (fun _ _ _ => rfl) (fun _ => trivial) ?_
  show ZZ X (4, 132) 2 mX9_init (P ++ [(0, 9, [some (P.length + 1), some (P.length + 3), none, none, none, none, none]), (0, 8, [some (P.length + 2), none]), (1, 64, []), (0, 8, [some (P.length + 4), none]), (1, 64, [])]) 26 [vr P.length] [] m4 _
  refine z_aload_n dX9_init_26 rfl ?_
  refine z_nw (3, 130) dX9_init_27 cl_8 nl_X9_7 in_X8 ii_X8 df_X8 ⟨by decide, by decide⟩ ?_
  refine zz_mem (Pm := fresh (P.length + 1) mem) (f4.zr (show P.length + 1 ≤ P.length + 5 by omega)) (fun m5 f5 => ?_)
  show ZZ X (3, 130) 2 mX9_init (P ++ ([(0, 9, [some (P.length + 1), some (P.length + 3), none, none, none, none, none]), (0, 8, [some (P.length + 2), none]), (1, 64, []), (0, 8, [some (P.length + 4), none]), (1, 64, [])] ++ [(0, 8, List.replicate 2 none)])) 30 [vr P.length] [vr (P.length + 5), vr P.length] m5 _
  refine z_dup dX9_init_30 (by intro z q; cases q) ?_
  refine z_callI (a := P.length + 5) (b1 := (1, 64)) (b2 := (2, 66)) (As := []) dX9_init_31 ok_X8_init rfl lk_X9_9 rfl (Nat.le_of_ble_eq_true rfl) (by decide) ⟨by decide, by decide⟩ (cn_X8_init P [(0, 9, [some (P.length + 1), some (P.length + 3), none, none, none, none, none]), (0, 8, [some (P.length + 2), none]), (1, 64, []), (0, 8, [some (P.length + 4), none]), (1, 64, [])]) (fun G' v m6 hq _ => ?_)
  obtain ⟨rfl, rfl, c6⟩ := hq
  have f6 := f5.tr c6 (show P.length + 1 ≤ P.length + 5 + 1 by omega)
  show ZZ X (2, 66) 2 mX9_init (P ++ [(0, 9, [some (P.length + 1), some (P.length + 3), none, none, none, none, none]), (0, 8, [some (P.length + 2), none]), (1, 64, []), (0, 8, [some (P.length + 4), none]), (1, 64, []), (0, 8, [some (P.length + 6), none]), (1, 64, [])]) 34 [vr P.length] [vr (P.length + 5), vr P.length] m6 _
  refine z_pR 0 dX9_init_34 ff_X9_19 rfl rfl (fun _ => ⟨rfl, rfl⟩) (fun _ _ _ => rfl) (fun _ => trivial) ?_
  show ZZ X (2, 66) 2 mX9_init (P ++ [(0, 9, [some (P.length + 1), some (P.length + 3), some (P.length + 5), none, none, none, none]), (0, 8, [some (P.length + 2), none]), (1, 64, []), (0, 8, [some (P.length + 4), none]), (1, 64, []), (0, 8, [some (P.length + 6), none]), (1, 64, [])]) 37 [vr P.length] [] m6 _
  refine z_aload_n dX9_init_37 rfl ?_
  refine z_nw (1, 64) dX9_init_38 cl_8 nl_X9_7 in_X8 ii_X8 df_X8 ⟨by decide, by decide⟩ ?_
  refine zz_mem (Pm := fresh (P.length + 1) mem) (f6.zr (show P.length + 1 ≤ P.length + 7 by omega)) (fun m7 f7 => ?_)
  show ZZ X (1, 64) 2 mX9_init (P ++ ([(0, 9, [some (P.length + 1), some (P.length + 3), some (P.length + 5), none, none, none, none]), (0, 8, [some (P.length + 2), none]), (1, 64, []), (0, 8, [some (P.length + 4), none]), (1, 64, []), (0, 8, [some (P.length + 6), none]), (1, 64, [])] ++ [(0, 8, List.replicate 2 none)])) 41 [vr P.length] [vr (P.length + 7), vr P.length] m7 _
  refine z_dup dX9_init_41 (by intro z q; cases q) ?_
  refine z_callI (a := P.length + 7) (b1 := (1, 64)) (b2 := (0, 0)) (As := []) dX9_init_42 ok_X8_init rfl lk_X9_9 rfl (Nat.le_of_ble_eq_true rfl) (by decide) ⟨by decide, by decide⟩ (cn_X8_init P [(0, 9, [some (P.length + 1), some (P.length + 3), some (P.length + 5), none, none, none, none]), (0, 8, [some (P.length + 2), none]), (1, 64, []), (0, 8, [some (P.length + 4), none]), (1, 64, []), (0, 8, [some (P.length + 6), none]), (1, 64, [])]) (fun G' v m8 hq _ => ?_)
  obtain ⟨rfl, rfl, c8⟩ := hq
  have f8 := f7.tr c8 (show P.length + 1 ≤ P.length + 7 + 1 by omega)
  show ZZ X (0, 0) 2 mX9_init (P ++ [(0, 9, [some (P.length + 1), some (P.length + 3), some (P.length + 5), none, none, none, none]), (0, 8, [some (P.length + 2), none]), (1, 64, []), (0, 8, [some (P.length + 4), none]), (1, 64, []), (0, 8, [some (P.length + 6), none]), (1, 64, []), (0, 8, [some (P.length + 8), none]), (1, 64, [])]) 45 [vr P.length] [vr (P.length + 7), vr P.length] m8 _
  refine z_pR 0 dX9_init_45 ff_X9_22 rfl rfl (fun _ => ⟨rfl, rfl⟩) (fun _ _ _ => rfl) (fun _ => trivial) ?_
  show ZZ X (0, 0) 2 mX9_init (P ++ [(0, 9, [some (P.length + 1), some (P.length + 3), some (P.length + 5), some (P.length + 7), none, none, none]), (0, 8, [some (P.length + 2), none]), (1, 64, []), (0, 8, [some (P.length + 4), none]), (1, 64, []), (0, 8, [some (P.length + 6), none]), (1, 64, []), (0, 8, [some (P.length + 8), none]), (1, 64, [])]) 48 [vr P.length] [] m8 _
  refine z_vret dX9_init_48 rfl ?_
  exact ⟨rfl, rfl, f8⟩
theorem cn_X9_init (P Lt : List GC) : CM X (8, 264) 2 mX9_init (P ++ (Lt ++ [(0, 9, List.replicate 7 none)])) [vr (P.length + Lt.length)] mem (pC (P ++ (Lt ++ [(0, 9, [some (P.length + Lt.length + 1), some (P.length + Lt.length + 3), some (P.length + Lt.length + 5), some (P.length + Lt.length + 7), none, none, none]), (0, 8, [some (P.length + Lt.length + 2), none]), (1, 64, []), (0, 8, [some (P.length + Lt.length + 4), none]), (1, 64, []), (0, 8, [some (P.length + Lt.length + 6), none]), (1, 64, []), (0, 8, [some (P.length + Lt.length + 8), none]), (1, 64, [])])) (fresh (P.length + Lt.length + 1) mem)) := by
  have h := cm_X9_init (X := X) (mem := mem) (P ++ Lt)
  rw [List.append_assoc, List.append_assoc, List.length_append] at h
  exact h
theorem cm_X7_init (P : List GC) : CM X (4, 132) 2 mX7_init (P ++ [(0, 7, List.replicate 2 none)]) [vr P.length] mem (pC (P ++ [(0, 7, [some (P.length + 1), some (P.length + 3)]), (0, 8, [some (P.length + 2), none]), (1, 64, []), (0, 8, [some (P.length + 4), none]), (1, 64, [])]) (fresh (P.length + 1) mem)) := by
  refine CM.of (by decide +kernel) 0 (Nat.le_of_ble_eq_true rfl) ?_
  show ZZ X (4, 132) 2 mX7_init (P ++ [(0, 7, List.replicate 2 none)]) 0 [vr P.length] [] mem _
  refine z_aload_n dX7_init_0 rfl ?_
  refine z_objI dX7_init_1 oi_X7_3 oi_in oi_co (Nat.le_of_ble_eq_true rfl) (by decide) ?_
  refine z_aload_n dX7_init_4 rfl ?_
  refine z_nw (3, 130) dX7_init_5 cl_8 nl_X7_9 in_X8 ii_X8 df_X8 ⟨by decide, by decide⟩ ?_
  refine zz_mem (Pm := fresh (P.length + 1) mem) (fresh.base mem (P.length + 1)) (fun m1 f1 => ?_)
  show ZZ X (3, 130) 2 mX7_init (P ++ ([(0, 7, [none, none])] ++ [(0, 8, List.replicate 2 none)])) 8 [vr P.length] [vr (P.length + 1), vr P.length] m1 _
  refine z_dup dX7_init_8 (by intro z q; cases q) ?_
  refine z_callI (a := P.length + 1) (b1 := (1, 64)) (b2 := (2, 66)) (As := []) dX7_init_9 ok_X8_init rfl lk_X7_11 rfl (Nat.le_of_ble_eq_true rfl) (by decide) ⟨by decide, by decide⟩ (cn_X8_init P [(0, 7, [none, none])]) (fun G' v m2 hq _ => ?_)
  obtain ⟨rfl, rfl, c2⟩ := hq
  have f2 := f1.tr c2 (show P.length + 1 ≤ P.length + 1 + 1 by omega)
  show ZZ X (2, 66) 2 mX7_init (P ++ [(0, 7, [none, none]), (0, 8, [some (P.length + 2), none]), (1, 64, [])]) 12 [vr P.length] [vr (P.length + 1), vr P.length] m2 _
  refine z_pR 0 dX7_init_12 ff_X7_12 rfl rfl (fun _ => ⟨rfl, rfl⟩) (fun _ _ _ => rfl) (fun _ => trivial) ?_
  show ZZ X (2, 66) 2 mX7_init (P ++ [(0, 7, [some (P.length + 1), none]), (0, 8, [some (P.length + 2), none]), (1, 64, [])]) 15 [vr P.length] [] m2 _
  refine z_aload_n dX7_init_15 rfl ?_
  refine z_nw (1, 64) dX7_init_16 cl_8 nl_X7_9 in_X8 ii_X8 df_X8 ⟨by decide, by decide⟩ ?_
  refine zz_mem (Pm := fresh (P.length + 1) mem) (f2.zr (show P.length + 1 ≤ P.length + 3 by omega)) (fun m3 f3 => ?_)
  show ZZ X (1, 64) 2 mX7_init (P ++ ([(0, 7, [some (P.length + 1), none]), (0, 8, [some (P.length + 2), none]), (1, 64, [])] ++ [(0, 8, List.replicate 2 none)])) 19 [vr P.length] [vr (P.length + 3), vr P.length] m3 _
  refine z_dup dX7_init_19 (by intro z q; cases q) ?_
  refine z_callI (a := P.length + 3) (b1 := (1, 64)) (b2 := (0, 0)) (As := []) dX7_init_20 ok_X8_init rfl lk_X7_11 rfl (Nat.le_of_ble_eq_true rfl) (by decide) ⟨by decide, by decide⟩ (cn_X8_init P [(0, 7, [some (P.length + 1), none]), (0, 8, [some (P.length + 2), none]), (1, 64, [])]) (fun G' v m4 hq _ => ?_)
  obtain ⟨rfl, rfl, c4⟩ := hq
  have f4 := f3.tr c4 (show P.length + 1 ≤ P.length + 3 + 1 by omega)
  show ZZ X (0, 0) 2 mX7_init (P ++ [(0, 7, [some (P.length + 1), none]), (0, 8, [some (P.length + 2), none]), (1, 64, []), (0, 8, [some (P.length + 4), none]), (1, 64, [])]) 23 [vr P.length] [vr (P.length + 3), vr P.length] m4 _
  refine z_pR 0 dX7_init_23 ff_X7_18 rfl rfl (fun _ => ⟨rfl, rfl⟩) (fun _ _ _ => rfl) (fun _ => trivial) ?_
  show ZZ X (0, 0) 2 mX7_init (P ++ [(0, 7, [some (P.length + 1), some (P.length + 3)]), (0, 8, [some (P.length + 2), none]), (1, 64, []), (0, 8, [some (P.length + 4), none]), (1, 64, [])]) 26 [vr P.length] [] m4 _
  refine z_vret dX7_init_26 rfl ?_
  exact ⟨rfl, rfl, f4⟩
theorem cn_X7_init (P Lt : List GC) : CM X (4, 132) 2 mX7_init (P ++ (Lt ++ [(0, 7, List.replicate 2 none)])) [vr (P.length + Lt.length)] mem (pC (P ++ (Lt ++ [(0, 7, [some (P.length + Lt.length + 1), some (P.length + Lt.length + 3)]), (0, 8, [some (P.length + Lt.length + 2), none]), (1, 64, []), (0, 8, [some (P.length + Lt.length + 4), none]), (1, 64, [])])) (fresh (P.length + Lt.length + 1) mem)) := by
  have h := cm_X7_init (X := X) (mem := mem) (P ++ Lt)
  rw [List.append_assoc, List.append_assoc, List.length_append] at h
  exact h
theorem cm_X5_init (P : List GC) : CM X (2, 8) 1 mX5_init (P ++ [(0, 5, List.replicate 2 none)]) [vr P.length] mem (pC (P ++ [(0, 5, [some (P.length + 1), some (P.length + 2)]), (1, 4, []), (1, 4, [])]) (fun m => ((∀ j : Nat, j < 4 → m (P.length + 1) (j : Int) = 1) ∧ ∀ j : Nat, j < 4 → m (P.length + 2) (j : Int) = 1) ∧ (∀ x, x < P.length + 1 → m x = mem x) ∧ ∀ x, P.length + 2 < x → m x = fun _ => 0)) := by
  refine CM.of (by decide +kernel) 0 (Nat.le_of_ble_eq_true rfl) ?_
  show ZZ X (2, 8) 1 mX5_init (P ++ [(0, 5, List.replicate 2 none)]) 0 [vr P.length] [] mem _
  refine z_aload_n dX5_init_0 rfl ?_
  refine z_objI dX5_init_1 oi_X5_3 oi_in oi_co (Nat.le_of_ble_eq_true rfl) (by decide) ?_
  refine z_aload_n dX5_init_4 rfl ?_
  refine z_iconst dX5_init_5 (by decide) ?_
  refine z_nI 4 (1, 4) dX5_init_6 (by decide) ⟨by decide, by decide⟩ ?_
  refine zz_mem (Pm := fresh (P.length + 1) mem) (fresh.base mem (P.length + 1)) (fun m1 f1 => ?_)
  show ZZ X (1, 4) 1 mX5_init (P ++ [(0, 5, [none, none]), (1, 4, [])]) 8 [vr P.length] [vr (P.length + 1), vr P.length] m1 _
  refine z_pR 0 dX5_init_8 ff_X5_9 rfl rfl (fun _ => ⟨rfl, rfl⟩) (fun _ _ _ => rfl) (fun _ => trivial) ?_
  show ZZ X (1, 4) 1 mX5_init (P ++ [(0, 5, [some (P.length + 1), none]), (1, 4, [])]) 11 [vr P.length] [] m1 _
  refine z_aload_n dX5_init_11 rfl ?_
  refine z_iconst dX5_init_12 (by decide) ?_
  refine z_nI 4 (0, 0) dX5_init_13 (by decide) ⟨by decide, by decide⟩ ?_
  refine zz_mem (Pm := fresh (P.length + 1) mem) (f1.zr (show P.length + 1 ≤ P.length + 2 by omega)) (fun m2 f2 => ?_)
  show ZZ X (0, 0) 1 mX5_init (P ++ [(0, 5, [some (P.length + 1), none]), (1, 4, []), (1, 4, [])]) 15 [vr P.length] [vr (P.length + 2), vr P.length] m2 _
  refine z_pR 0 dX5_init_15 ff_X5_15 rfl rfl (fun _ => ⟨rfl, rfl⟩) (fun _ _ _ => rfl) (fun _ => trivial) ?_
  show ZZ X (0, 0) 1 mX5_init (P ++ [(0, 5, [some (P.length + 1), some (P.length + 2)]), (1, 4, []), (1, 4, [])]) 18 [vr P.length] [] m2 _
  have fr := f2
  refine z_aload_n dX5_init_18 rfl ?_
  refine z_getR (ty := .int) dX5_init_19 fl_X5_9 (app_at (P := P) (k := 0) rfl) rfl rfl ?_
  refine z_iconst dX5_init_22 (by decide) ?_
  refine z_S2v dX5_init_23 ok_J7_fill_53178 lk_X5_18 (Nat.le_of_ble_eq_true rfl) (by decide) (cm_J7_fillI (a := P.length + 1) (n := 4) (rs := []) (app_at (P := P) (k := 1) rfl) (by decide)) (fun m1 hq => ?_)
  obtain ⟨a1, o1⟩ := hq
  refine z_aload_n dX5_init_26 rfl ?_
  refine z_getR (ty := .int) dX5_init_27 fl_X5_15 (app_at (P := P) (k := 0) rfl) rfl rfl ?_
  refine z_iconst dX5_init_30 (by decide) ?_
  refine z_S2v dX5_init_31 ok_J7_fill_53178 lk_X5_18 (Nat.le_of_ble_eq_true rfl) (by decide) (cm_J7_fillI (a := P.length + 2) (n := 4) (rs := []) (app_at (P := P) (k := 2) rfl) (by decide)) (fun m2 hq => ?_)
  obtain ⟨a2, o2⟩ := hq
  refine z_vret dX5_init_34 rfl ?_
  refine ⟨rfl, rfl, ⟨fun j hj => ?_, a2⟩, fun x hx => ?_, fun x hx => ?_⟩
  · rw [o2 _ (by omega)]; exact a1 j hj
  · rw [o2 x (by omega), o1 x (by omega)]; exact fr.1 x hx
  · rw [o2 x (by omega), o1 x (by omega)]; exact fr.2 x (by omega)
theorem cn_X5_init (P Lt : List GC) : CM X (2, 8) 1 mX5_init (P ++ (Lt ++ [(0, 5, List.replicate 2 none)])) [vr (P.length + Lt.length)] mem (pC (P ++ (Lt ++ [(0, 5, [some (P.length + Lt.length + 1), some (P.length + Lt.length + 2)]), (1, 4, []), (1, 4, [])])) (fun m => ((∀ j : Nat, j < 4 → m (P.length + Lt.length + 1) (j : Int) = 1) ∧ ∀ j : Nat, j < 4 → m (P.length + Lt.length + 2) (j : Int) = 1) ∧ (∀ x, x < P.length + Lt.length + 1 → m x = mem x) ∧ ∀ x, P.length + Lt.length + 2 < x → m x = fun _ => 0)) := by
  have h := cm_X5_init (X := X) (mem := mem) (P ++ Lt)
  rw [List.append_assoc, List.append_assoc, List.length_append] at h
  exact h
theorem cm_X1_init (P : List GC) : CM X (3, 18) 1 mX1_init (P ++ [(0, 1, List.replicate 3 none)]) [vr P.length] mem (pC (P ++ [(0, 1, [some (P.length + 1), some (P.length + 2), some (P.length + 3)]), (1, 6, []), (1, 6, []), (1, 6, [])]) (fun m => (∀ j : Nat, j < 6 → m (P.length + 1) (j : Int) = -1) ∧ (∀ x, x < P.length + 1 → m x = mem x) ∧ ∀ x, P.length + 1 < x → m x = fun _ => 0)) := by
  refine CM.of (by decide +kernel) 0 (Nat.le_of_ble_eq_true rfl) ?_
  show ZZ X (3, 18) 1 mX1_init (P ++ [(0, 1, List.replicate 3 none)]) 0 [vr P.length] [] mem _
  refine z_aload_n dX1_init_0 rfl ?_
  refine z_objI dX1_init_1 oi_X1_3 oi_in oi_co (Nat.le_of_ble_eq_true rfl) (by decide) ?_
  refine z_aload_n dX1_init_4 rfl ?_
  refine z_bipush dX1_init_5 (by decide) ?_
  refine z_nI 6 (2, 12) dX1_init_7 (by decide) ⟨by decide, by decide⟩ ?_
  refine zz_mem (Pm := fresh (P.length + 1) mem) (fresh.base mem (P.length + 1)) (fun m1 f1 => ?_)
  show ZZ X (2, 12) 1 mX1_init (P ++ [(0, 1, [none, none, none]), (1, 6, [])]) 9 [vr P.length] [vr (P.length + 1), vr P.length] m1 _
  refine z_pR 0 dX1_init_9 ff_X1_9 rfl rfl (fun _ => ⟨rfl, rfl⟩) (fun _ _ _ => rfl) (fun _ => trivial) ?_
  show ZZ X (2, 12) 1 mX1_init (P ++ [(0, 1, [some (P.length + 1), none, none]), (1, 6, [])]) 12 [vr P.length] [] m1 _
  refine z_aload_n dX1_init_12 rfl ?_
  refine z_bipush dX1_init_13 (by decide) ?_
  refine z_nI 6 (1, 6) dX1_init_15 (by decide) ⟨by decide, by decide⟩ ?_
  refine zz_mem (Pm := fresh (P.length + 1) mem) (f1.zr (show P.length + 1 ≤ P.length + 2 by omega)) (fun m2 f2 => ?_)
  show ZZ X (1, 6) 1 mX1_init (P ++ [(0, 1, [some (P.length + 1), none, none]), (1, 6, []), (1, 6, [])]) 17 [vr P.length] [vr (P.length + 2), vr P.length] m2 _
  refine z_pR 0 dX1_init_17 ff_X1_15 rfl rfl (fun _ => ⟨rfl, rfl⟩) (fun _ _ _ => rfl) (fun _ => trivial) ?_
  show ZZ X (1, 6) 1 mX1_init (P ++ [(0, 1, [some (P.length + 1), some (P.length + 2), none]), (1, 6, []), (1, 6, [])]) 20 [vr P.length] [] m2 _
  refine z_aload_n dX1_init_20 rfl ?_
  refine z_bipush dX1_init_21 (by decide) ?_
  refine z_nI 6 (0, 0) dX1_init_23 (by decide) ⟨by decide, by decide⟩ ?_
  refine zz_mem (Pm := fresh (P.length + 1) mem) (f2.zr (show P.length + 1 ≤ P.length + 3 by omega)) (fun m3 f3 => ?_)
  show ZZ X (0, 0) 1 mX1_init (P ++ [(0, 1, [some (P.length + 1), some (P.length + 2), none]), (1, 6, []), (1, 6, []), (1, 6, [])]) 25 [vr P.length] [vr (P.length + 3), vr P.length] m3 _
  refine z_pR 0 dX1_init_25 ff_X1_18 rfl rfl (fun _ => ⟨rfl, rfl⟩) (fun _ _ _ => rfl) (fun _ => trivial) ?_
  show ZZ X (0, 0) 1 mX1_init (P ++ [(0, 1, [some (P.length + 1), some (P.length + 2), some (P.length + 3)]), (1, 6, []), (1, 6, []), (1, 6, [])]) 28 [vr P.length] [] m3 _
  have fr := f3
  refine z_aload_n dX1_init_28 rfl ?_
  refine z_getR (ty := .int) dX1_init_29 fl_X1_9 (app_at (P := P) (k := 0) rfl) rfl rfl ?_
  refine z_iconst dX1_init_32 (by decide) ?_
  refine z_S2v dX1_init_33 ok_J7_fill_53178 lk_X1_21 (Nat.le_of_ble_eq_true rfl) (by decide) (cm_J7_fillI (a := P.length + 1) (n := 6) (rs := []) (app_at (P := P) (k := 1) rfl) (by decide)) (fun m1 hq => ?_)
  obtain ⟨a1, o1⟩ := hq
  refine z_vret dX1_init_36 rfl ?_
  refine ⟨rfl, rfl, a1, fun x hx => ?_, fun x hx => ?_⟩
  · rw [o1 x (by omega)]; exact fr.1 x hx
  · rw [o1 x (by omega)]; exact fr.2 x (by omega)
theorem cn_X1_init (P Lt : List GC) : CM X (3, 18) 1 mX1_init (P ++ (Lt ++ [(0, 1, List.replicate 3 none)])) [vr (P.length + Lt.length)] mem (pC (P ++ (Lt ++ [(0, 1, [some (P.length + Lt.length + 1), some (P.length + Lt.length + 2), some (P.length + Lt.length + 3)]), (1, 6, []), (1, 6, []), (1, 6, [])])) (fun m => (∀ j : Nat, j < 6 → m (P.length + Lt.length + 1) (j : Int) = -1) ∧ (∀ x, x < P.length + Lt.length + 1 → m x = mem x) ∧ ∀ x, P.length + Lt.length + 1 < x → m x = fun _ => 0)) := by
  have h := cm_X1_init (X := X) (mem := mem) (P ++ Lt)
  rw [List.append_assoc, List.append_assoc, List.length_append] at h
  exact h
theorem cm_X4_init (P : List GC) : CM X (8, 264) 2 mX4_init (P ++ [(0, 4, List.replicate 4 none)]) [vr P.length] mem (pC (P ++ [(0, 4, [some (P.length + 1), some (P.length + 3), some (P.length + 5), some (P.length + 7)]), (0, 8, [some (P.length + 2), none]), (1, 64, []), (0, 8, [some (P.length + 4), none]), (1, 64, []), (0, 8, [some (P.length + 6), none]), (1, 64, []), (0, 8, [some (P.length + 8), none]), (1, 64, [])]) (fun m => natAt m (P.length + 3) 1 ∧ (∀ x, x < P.length + 1 → m x = mem x) ∧ ∀ x, P.length + 1 ≤ x → x ≠ P.length + 3 → x ≠ P.length + 4 → m x = fun _ => 0)) := by
  refine CM.of (by decide +kernel) 0 (Nat.le_of_ble_eq_true rfl) ?_
  show ZZ X (8, 264) 2 mX4_init (P ++ [(0, 4, List.replicate 4 none)]) 0 [vr P.length] [] mem _
  refine z_aload_n dX4_init_0 rfl ?_
  refine z_objI dX4_init_1 oi_X4_1 oi_in oi_co (Nat.le_of_ble_eq_true rfl) (by decide) ?_
  refine z_aload_n dX4_init_4 rfl ?_
  refine z_nw (7, 262) dX4_init_5 cl_8 nl_X4_7 in_X8 ii_X8 df_X8 ⟨by decide, by decide⟩ ?_
  refine zz_mem (Pm := fresh (P.length + 1) mem) (fresh.base mem (P.length + 1)) (fun m1 f1 => ?_)
  show ZZ X (7, 262) 2 mX4_init (P ++ ([(0, 4, [none, none, none, none])] ++ [(0, 8, List.replicate 2 none)])) 8 [vr P.length] [vr (P.length + 1), vr P.length] m1 _
  refine z_dup dX4_init_8 (by intro z q; cases q) ?_
  refine z_callI (a := P.length + 1) (b1 := (1, 64)) (b2 := (6, 198)) (As := []) dX4_init_9 ok_X8_init rfl lk_X4_9 rfl (Nat.le_of_ble_eq_true rfl) (by decide) ⟨by decide, by decide⟩ (cn_X8_init P [(0, 4, [none, none, none, none])]) (fun G' v m2 hq _ => ?_)
  obtain ⟨rfl, rfl, c2⟩ := hq
  have f2 := f1.tr c2 (show P.length + 1 ≤ P.length + 1 + 1 by omega)
  show ZZ X (6, 198) 2 mX4_init (P ++ [(0, 4, [none, none, none, none]), (0, 8, [some (P.length + 2), none]), (1, 64, [])]) 12 [vr P.length] [vr (P.length + 1), vr P.length] m2 _
  refine z_pR 0 dX4_init_12 ff_X4_10 rfl rfl (fun _ => ⟨rfl, rfl⟩) (fun _ _ _ => rfl) (fun _ => trivial) ?_
  show ZZ X (6, 198) 2 mX4_init (P ++ [(0, 4, [some (P.length + 1), none, none, none]), (0, 8, [some (P.length + 2), none]), (1, 64, [])]) 15 [vr P.length] [] m2 _
  refine z_aload_n dX4_init_15 rfl ?_
  refine z_nw (5, 196) dX4_init_16 cl_8 nl_X4_7 in_X8 ii_X8 df_X8 ⟨by decide, by decide⟩ ?_
  refine zz_mem (Pm := fresh (P.length + 1) mem) (f2.zr (show P.length + 1 ≤ P.length + 3 by omega)) (fun m3 f3 => ?_)
  show ZZ X (5, 196) 2 mX4_init (P ++ ([(0, 4, [some (P.length + 1), none, none, none]), (0, 8, [some (P.length + 2), none]), (1, 64, [])] ++ [(0, 8, List.replicate 2 none)])) 19 [vr P.length] [vr (P.length + 3), vr P.length] m3 _
  refine z_dup dX4_init_19 (by intro z q; cases q) ?_
  refine z_callI (a := P.length + 3) (b1 := (1, 64)) (b2 := (4, 132)) (As := []) dX4_init_20 ok_X8_init rfl lk_X4_9 rfl (Nat.le_of_ble_eq_true rfl) (by decide) ⟨by decide, by decide⟩ (cn_X8_init P [(0, 4, [some (P.length + 1), none, none, none]), (0, 8, [some (P.length + 2), none]), (1, 64, [])]) (fun G' v m4 hq _ => ?_)
  obtain ⟨rfl, rfl, c4⟩ := hq
  have f4 := f3.tr c4 (show P.length + 1 ≤ P.length + 3 + 1 by omega)
  show ZZ X (4, 132) 2 mX4_init (P ++ [(0, 4, [some (P.length + 1), none, none, none]), (0, 8, [some (P.length + 2), none]), (1, 64, []), (0, 8, [some (P.length + 4), none]), (1, 64, [])]) 23 [vr P.length] [vr (P.length + 3), vr P.length] m4 _
  refine z_pR 0 dX4_init_23 ff_X4_16 rfl rfl (fun _ => ⟨rfl, rfl⟩) (fun _ _ _ => rfl) (fun _ => trivial) ?_
  show ZZ X (4, 132) 2 mX4_init (P ++ [(0, 4, [some (P.length + 1), some (P.length + 3), none, none]), (0, 8, [some (P.length + 2), none]), (1, 64, []), (0, 8, [some (P.length + 4), none]), (1, 64, [])]) 26 [vr P.length] [] m4 _
  refine z_aload_n dX4_init_26 rfl ?_
  refine z_nw (3, 130) dX4_init_27 cl_8 nl_X4_7 in_X8 ii_X8 df_X8 ⟨by decide, by decide⟩ ?_
  refine zz_mem (Pm := fresh (P.length + 1) mem) (f4.zr (show P.length + 1 ≤ P.length + 5 by omega)) (fun m5 f5 => ?_)
  show ZZ X (3, 130) 2 mX4_init (P ++ ([(0, 4, [some (P.length + 1), some (P.length + 3), none, none]), (0, 8, [some (P.length + 2), none]), (1, 64, []), (0, 8, [some (P.length + 4), none]), (1, 64, [])] ++ [(0, 8, List.replicate 2 none)])) 30 [vr P.length] [vr (P.length + 5), vr P.length] m5 _
  refine z_dup dX4_init_30 (by intro z q; cases q) ?_
  refine z_callI (a := P.length + 5) (b1 := (1, 64)) (b2 := (2, 66)) (As := []) dX4_init_31 ok_X8_init rfl lk_X4_9 rfl (Nat.le_of_ble_eq_true rfl) (by decide) ⟨by decide, by decide⟩ (cn_X8_init P [(0, 4, [some (P.length + 1), some (P.length + 3), none, none]), (0, 8, [some (P.length + 2), none]), (1, 64, []), (0, 8, [some (P.length + 4), none]), (1, 64, [])]) (fun G' v m6 hq _ => ?_)
  obtain ⟨rfl, rfl, c6⟩ := hq
  have f6 := f5.tr c6 (show P.length + 1 ≤ P.length + 5 + 1 by omega)
  show ZZ X (2, 66) 2 mX4_init (P ++ [(0, 4, [some (P.length + 1), some (P.length + 3), none, none]), (0, 8, [some (P.length + 2), none]), (1, 64, []), (0, 8, [some (P.length + 4), none]), (1, 64, []), (0, 8, [some (P.length + 6), none]), (1, 64, [])]) 34 [vr P.length] [vr (P.length + 5), vr P.length] m6 _
  refine z_pR 0 dX4_init_34 ff_X4_19 rfl rfl (fun _ => ⟨rfl, rfl⟩) (fun _ _ _ => rfl) (fun _ => trivial) ?_
  show ZZ X (2, 66) 2 mX4_init (P ++ [(0, 4, [some (P.length + 1), some (P.length + 3), some (P.length + 5), none]), (0, 8, [some (P.length + 2), none]), (1, 64, []), (0, 8, [some (P.length + 4), none]), (1, 64, []), (0, 8, [some (P.length + 6), none]), (1, 64, [])]) 37 [vr P.length] [] m6 _
  refine z_aload_n dX4_init_37 rfl ?_
  refine z_nw (1, 64) dX4_init_38 cl_8 nl_X4_7 in_X8 ii_X8 df_X8 ⟨by decide, by decide⟩ ?_
  refine zz_mem (Pm := fresh (P.length + 1) mem) (f6.zr (show P.length + 1 ≤ P.length + 7 by omega)) (fun m7 f7 => ?_)
  show ZZ X (1, 64) 2 mX4_init (P ++ ([(0, 4, [some (P.length + 1), some (P.length + 3), some (P.length + 5), none]), (0, 8, [some (P.length + 2), none]), (1, 64, []), (0, 8, [some (P.length + 4), none]), (1, 64, []), (0, 8, [some (P.length + 6), none]), (1, 64, [])] ++ [(0, 8, List.replicate 2 none)])) 41 [vr P.length] [vr (P.length + 7), vr P.length] m7 _
  refine z_dup dX4_init_41 (by intro z q; cases q) ?_
  refine z_callI (a := P.length + 7) (b1 := (1, 64)) (b2 := (0, 0)) (As := []) dX4_init_42 ok_X8_init rfl lk_X4_9 rfl (Nat.le_of_ble_eq_true rfl) (by decide) ⟨by decide, by decide⟩ (cn_X8_init P [(0, 4, [some (P.length + 1), some (P.length + 3), some (P.length + 5), none]), (0, 8, [some (P.length + 2), none]), (1, 64, []), (0, 8, [some (P.length + 4), none]), (1, 64, []), (0, 8, [some (P.length + 6), none]), (1, 64, [])]) (fun G' v m8 hq _ => ?_)
  obtain ⟨rfl, rfl, c8⟩ := hq
  have f8 := f7.tr c8 (show P.length + 1 ≤ P.length + 7 + 1 by omega)
  show ZZ X (0, 0) 2 mX4_init (P ++ [(0, 4, [some (P.length + 1), some (P.length + 3), some (P.length + 5), none]), (0, 8, [some (P.length + 2), none]), (1, 64, []), (0, 8, [some (P.length + 4), none]), (1, 64, []), (0, 8, [some (P.length + 6), none]), (1, 64, []), (0, 8, [some (P.length + 8), none]), (1, 64, [])]) 45 [vr P.length] [vr (P.length + 7), vr P.length] m8 _
  refine z_pR 0 dX4_init_45 ff_X4_22 rfl rfl (fun _ => ⟨rfl, rfl⟩) (fun _ _ _ => rfl) (fun _ => trivial) ?_
  show ZZ X (0, 0) 2 mX4_init (P ++ [(0, 4, [some (P.length + 1), some (P.length + 3), some (P.length + 5), some (P.length + 7)]), (0, 8, [some (P.length + 2), none]), (1, 64, []), (0, 8, [some (P.length + 4), none]), (1, 64, []), (0, 8, [some (P.length + 6), none]), (1, 64, []), (0, 8, [some (P.length + 8), none]), (1, 64, [])]) 48 [vr P.length] [] m8 _
  have fr := f8
  refine z_aload_n dX4_init_48 rfl ?_
  refine z_getR (ty := .int) dX4_init_49 fl_X4_16 (app_at (P := P) (k := 0) rfl) rfl rfl ?_
  refine z_lconst (z := 1) dX4_init_52 rfl (by decide) ?_
  refine z_V1v dX4_init_53 ok_X8_become lk_X4_25 (app_at (P := P) (k := 3) rfl) rfl rfl (Nat.le_of_ble_eq_true rfl) (by decide) (cm_X8_become (o := P.length + 3) ⟨app_at (P := P) (k := 3) rfl, app_at (P := P) (k := 4) rfl⟩ (by decide) (by decide)) (fun m9 hq => ?_)
  obtain ⟨a1, o1⟩ := hq
  refine z_vret dX4_init_56 rfl ?_
  refine ⟨rfl, rfl, a1, fun x hx => ?_, fun x hx h3 h4 => ?_⟩
  · rw [o1 x (by omega) (by omega)]; exact fr.1 x hx
  · rw [o1 x (by omega) (by omega)]; exact fr.2 x hx
theorem cn_X4_init (P Lt : List GC) : CM X (8, 264) 2 mX4_init (P ++ (Lt ++ [(0, 4, List.replicate 4 none)])) [vr (P.length + Lt.length)] mem (pC (P ++ (Lt ++ [(0, 4, [some (P.length + Lt.length + 1), some (P.length + Lt.length + 3), some (P.length + Lt.length + 5), some (P.length + Lt.length + 7)]), (0, 8, [some (P.length + Lt.length + 2), none]), (1, 64, []), (0, 8, [some (P.length + Lt.length + 4), none]), (1, 64, []), (0, 8, [some (P.length + Lt.length + 6), none]), (1, 64, []), (0, 8, [some (P.length + Lt.length + 8), none]), (1, 64, [])])) (fun m => natAt m (P.length + Lt.length + 3) 1 ∧ (∀ x, x < P.length + Lt.length + 1 → m x = mem x) ∧ ∀ x, P.length + Lt.length + 1 ≤ x → x ≠ P.length + Lt.length + 3 → x ≠ P.length + Lt.length + 4 → m x = fun _ => 0)) := by
  have h := cm_X4_init (X := X) (mem := mem) (P ++ Lt)
  rw [List.append_assoc, List.append_assoc, List.length_append] at h
  exact h
end Ctor
