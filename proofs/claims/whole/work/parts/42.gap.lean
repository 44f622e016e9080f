/-! ===== bits of weeks; gaps: both sides ===== -/
theorem shl1' {w : Nat} (hw : w < 31) : ishlV 1 (w : Int) = ((2 ^ w : Nat) : Int) := by
  have : ∀ k : Fin 31, ishlV 1 ((k.val : Nat) : Int) = ((2 ^ k.val : Nat) : Int) := by decide +kernel
  exact this ⟨w, hw⟩
theorem ior_nat {a b : Nat} (ha : a < 2147483648) (hb : b < 2147483648) : iorV (a : Int) (b : Int) = ((a ||| b : Nat) : Int) := by
  have h1 : (Int32.ofInt (a : Int) ||| Int32.ofInt (b : Int)).toBitVec.toNat = a ||| b := by
    rw [Int32.toBitVec_or, BitVec.toNat_or, tn32, tn32, show ((a : Int) % 4294967296).toNat = a by omega, show ((b : Int) % 4294967296).toNat = b by omega]
  unfold iorV
  have := Nat.or_lt_two_pow (n := 31) ha hb
  exact ti_of32 _ h1 this
theorem shr_c {w : Nat} (hw : w < 31) : Int32.ofInt (w : Int) &&& 31 = Int32.ofInt (w : Int) := by
  have : ∀ k : Fin 31, Int32.ofInt ((k.val : Nat) : Int) &&& 31 = Int32.ofInt ((k.val : Nat) : Int) := by decide +kernel
  exact this ⟨w, hw⟩
theorem shr_d {w : Nat} (hw : w < 31) : ((Int32.ofInt (w : Int)).toBitVec.smod 32).toNat = w := by
  have : ∀ k : Fin 31, ((Int32.ofInt ((k.val : Nat) : Int)).toBitVec.smod 32).toNat = k.val := by decide +kernel
  exact this ⟨w, hw⟩
theorem ishr_nat {n w : Nat} (hn : n < 2147483648) (hw : w < 31) : ishrV (n : Int) (w : Int) = ((n / 2 ^ w : Nat) : Int) := by
  unfold ishrV
  rw [shr_c hw, ← Int32.toInt_toBitVec, Int32.toBitVec_shiftRight, BitVec.sshiftRight_eq', BitVec.toInt_sshiftRight, Int32.toInt_toBitVec, shr_d hw]
  rw [Int32.toInt_ofInt_of_le (by omega) (by omega), Int.shiftRight_eq_div_pow]
  rfl
theorem bit_at {n w : Nat} (hn : n < 2147483648) (hw : w < 31) : iandV (ishrV (n : Int) (w : Int)) 1 = ((n / 2 ^ w % 2 : Nat) : Int) := by
  rw [ishr_nat hn hw, iand1]
  omega
/-- free weeks up to here, the greatest gap, its start -/
def gpF (n : Nat) : Nat → Int
  | 0 => 0
  | w + 1 => if n / 2 ^ w % 2 = 1 then 0 else gpF n w + 1
def gpL (n : Nat) : Nat → Int
  | 0 => 0
  | w + 1 => if gpL n w < gpF n (w + 1) then gpF n (w + 1) else gpL n w
def gpT (n : Nat) : Nat → Int
  | 0 => -1
  | w + 1 => if gpL n w < gpF n (w + 1) then (w : Int) - gpF n (w + 1) + 1 else gpT n w
theorem gpF_bd (n w : Nat) : 0 ≤ gpF n w ∧ gpF n w ≤ (w : Int) := by
  induction w with
  | zero => exact ⟨Int.le_refl _, Int.le_refl _⟩
  | succ w ih =>
    show 0 ≤ (if n / 2 ^ w % 2 = 1 then 0 else gpF n w + 1) ∧ (if n / 2 ^ w % 2 = 1 then 0 else gpF n w + 1) ≤ _
    split <;> omega
theorem gpL_bd (n w : Nat) : 0 ≤ gpL n w ∧ gpL n w ≤ (w : Int) := by
  induction w with
  | zero => exact ⟨Int.le_refl _, Int.le_refl _⟩
  | succ w ih =>
    have := gpF_bd n (w + 1)
    show 0 ≤ (if gpL n w < gpF n (w + 1) then gpF n (w + 1) else gpL n w) ∧ (if gpL n w < gpF n (w + 1) then gpF n (w + 1) else gpL n w) ≤ _
    split <;> omega
def wkB (fd : Nat → Nat → Int) (y : Int) : Nat := 2 ^ (fd 2 y.toNat).toNat
def orF (fd : Nat → Nat → Int) : List Int → Nat
  | [] => 0
  | y :: l => wkB fd y ||| orF fd l
theorem orF_app (fd : Nat → Nat → Int) (B : List Int) : ∀ A : List Int, orF fd (A ++ B) = orF fd A ||| orF fd B
  | [] => (Nat.zero_or _).symm
  | y :: l => by
    show wkB fd y ||| orF fd (l ++ B) = wkB fd y ||| orF fd l ||| orF fd B
    rw [orF_app fd B l, Nat.or_assoc]
theorem orF_ins (fd : Nat → Nat → Int) (L : List Int) (x : Int) (p : Nat) : orF fd (L.take p ++ x :: L.drop p) = orF fd L ||| wkB fd x := by
  have e : orF fd L = orF fd (L.take p) ||| orF fd (L.drop p) := by rw [← orF_app, List.take_append_drop]
  rw [orF_app, e]
  show orF fd (L.take p) ||| (wkB fd x ||| orF fd (L.drop p)) = _
  rw [Nat.or_assoc, Nat.or_comm (wkB fd x)]
theorem orF_tk (fd : Nat → Nat → Int) (L : List Int) (k : Nat) (hk : k < L.length) : orF fd (L.take (k + 1)) = orF fd (L.take k) ||| wkB fd (L.getD k 0) := by
  have e1 : L.take (k + 1) = L.take k ++ [L.getD k 0] := by
    rw [List.take_add_one, List.getElem?_eq_getElem hk, List.getD_eq_getElem?_getD, List.getElem?_eq_getElem hk]
    rfl
  rw [e1, orF_app]
  show orF fd (L.take k) ||| (wkB fd (L.getD k 0) ||| 0) = _
  rw [Nat.or_zero]
theorem orF_lt {fd : Nat → Nat → Int} : ∀ {L : List Int}, (∀ y ∈ L, 0 ≤ fd 2 y.toNat ∧ fd 2 y.toNat ≤ 29) → orF fd L < 2 ^ 30
  | [], _ => Nat.two_pow_pos 30
  | y :: l, h => by
    have h1 := h y (List.mem_cons_self ..)
    refine Nat.or_lt_two_pow ?_ (orF_lt fun z hz => h z (List.mem_cons_of_mem _ hz))
    exact Nat.pow_lt_pow_right (by decide) (by omega)
section GapA
variable {X : Nat × (Int → Int)} {mem : Mem} {nf : Nat} {fd : Nat → Nat → Int}
theorem datL_wk {mk lim : Int} {n : Nat} (hl : lim ≤ 30) : ∀ y ∈ datL fd mk lim n, 0 ≤ fd 2 y.toNat ∧ fd 2 y.toNat ≤ 29 := by
  intro y hy
  obtain ⟨i, -, e, h1, h2⟩ := datL_mem hy
  rw [e, Int.toNat_natCast]
  omega
theorem cm_X2_measureGap {n wk : Nat} (hm : mem 33 2 = (n : Int)) (hn : n < 2 ^ 30) (hw : wk ≤ 30) : CM X (0, 0) 0 mX2_measureGap G0 [vr 33, vi (wk : Int)] mem (pV G0 fun m => m 33 3 = gpL n wk ∧ m 33 4 = gpT n wk ∧ onS 33 3 4 mem m) := by
  refine CM.of (by decide +kernel) 2 (Nat.le_of_ble_eq_true rfl) ?_
  show ZZ X (0, 0) 0 mX2_measureGap G0 0 [vr 33, vi (wk : Int), vd, vd] [] mem _
  have loop : ∀ (d w : Nat) (m : Mem), w + d = wk → m 33 3 = gpL n w → m 33 4 = gpT n w → onS 33 3 4 mem m → ZZ X (0, 0) 0 mX2_measureGap G0 14 [vr 33, vi (wk : Int), vi (gpF n w), vi (w : Int)] [] m (pV G0 fun m => m 33 3 = gpL n wk ∧ m 33 4 = gpT n wk ∧ onS 33 3 4 mem m) := by
    intro d
    induction d with
    | zero =>
      intro w m hi h3 h4 hon
      have : w = wk := by omega
      subst this
      refine z_iload_n dX2_measureGap_14 rfl ?_
      refine z_iload_n dX2_measureGap_15 rfl ?_
      refine z_icmp_ge 67 dX2_measureGap_16 (by decide) (fun h16 => ?_) (fun h16 => ?_)
      · refine z_vret dX2_measureGap_67 rfl ?_
        exact ⟨rfl, rfl, h3, h4, hon⟩
      · omega
    | succ d ih =>
      intro w m hi h3 h4 hon
      have e2 : m 33 2 = (n : Int) := (hon.2 2 (by decide)).trans hm
      have b1 := gpF_bd n w
      have b2 := gpL_bd n w
      have eF : gpF n (w + 1) = (if n / 2 ^ w % 2 = 1 then 0 else gpF n w + 1) := rfl
      have eL : gpL n (w + 1) = (if gpL n w < gpF n (w + 1) then gpF n (w + 1) else gpL n w) := rfl
      have eT : gpT n (w + 1) = (if gpL n w < gpF n (w + 1) then (w : Int) - gpF n (w + 1) + 1 else gpT n w) := rfl
      have ih' := fun m => ih (w + 1) m (by omega)
      refine z_iload_n dX2_measureGap_14 rfl ?_
      refine z_iload_n dX2_measureGap_15 rfl ?_
      refine z_icmp_ge 67 dX2_measureGap_16 (by decide) (fun h16 => ?_) (fun h16 => ?_)
      · omega
      · refine z_aload_n dX2_measureGap_19 rfl ?_
        refine z_gI 2 dX2_measureGap_20 fl_X2_51 (by first | rfl | assumption) rfl rfl ?_
        rw [e2]
        refine z_iload_n dX2_measureGap_23 rfl ?_
        refine z_ishr dX2_measureGap_24 ?_
        refine z_iconst dX2_measureGap_25 (by decide) ?_
        refine z_iand dX2_measureGap_26 ?_
        rw [bit_at (by omega) (by omega)]
        refine z_iconst dX2_measureGap_27 (by decide) ?_
        refine z_icmp_ne 35 dX2_measureGap_28 (by decide) (fun h28 => ?_) (fun h28 => ?_)
        · rw [if_neg (by omega)] at eF
          refine z_iload_n dX2_measureGap_35 rfl ?_
          refine z_iconst dX2_measureGap_36 (by decide) ?_
          refine z_iadd dX2_measureGap_37 (by omega) ?_
          refine z_istore_n dX2_measureGap_38 (by decide) rfl ?_
          dsimp only [List.set]
          refine z_iload_n dX2_measureGap_39 rfl ?_
          refine z_aload_n dX2_measureGap_40 rfl ?_
          refine z_gI 3 dX2_measureGap_41 fl_X2_61 (by first | rfl | assumption) rfl rfl ?_
          rw [h3]
          refine z_icmp_le 61 dX2_measureGap_44 (by decide) (fun h44 => ?_) (fun h44 => ?_)
          · rw [eF, if_neg (by omega)] at eL eT
            refine z_iinc dX2_measureGap_61 rfl (by omega) (by decide) rfl ?_
            dsimp only [List.set]
            refine z_goto 14 dX2_measureGap_64 (by decide) ?_
            rw [eF] at ih'
            first | exact ih' _ (by rw [eL]; exact h3) (by rw [eT]; exact h4) hon | exact ih' _ (by rw [eL, mset_nej _ _ (by decide), mset_eq]) (by rw [eT, mset_eq]) ((hon.set (by decide) (by decide)).set (by decide) (by decide))
          · rw [eF, if_pos (by omega)] at eL eT
            refine z_aload_n dX2_measureGap_47 rfl ?_
            refine z_iload_n dX2_measureGap_48 rfl ?_
            refine z_pI 3 dX2_measureGap_49 fm_X2_61 (by first | rfl | assumption) rfl rfl ?_
            refine z_aload_n dX2_measureGap_52 rfl ?_
            refine z_iload_n dX2_measureGap_53 rfl ?_
            refine z_iload_n dX2_measureGap_54 rfl ?_
            refine z_isub dX2_measureGap_55 (by omega) ?_
            refine z_iconst dX2_measureGap_56 (by decide) ?_
            refine z_iadd dX2_measureGap_57 (by omega) ?_
            refine z_pI 4 dX2_measureGap_58 fm_X2_64 (by first | rfl | assumption) rfl rfl ?_
            refine z_iinc dX2_measureGap_61 rfl (by omega) (by decide) rfl ?_
            dsimp only [List.set]
            refine z_goto 14 dX2_measureGap_64 (by decide) ?_
            rw [eF] at ih'
            first | exact ih' _ (by rw [eL]; exact h3) (by rw [eT]; exact h4) hon | exact ih' _ (by rw [eL, mset_nej _ _ (by decide), mset_eq]) (by rw [eT, mset_eq]) ((hon.set (by decide) (by decide)).set (by decide) (by decide))
        · rw [if_pos (by omega)] at eF
          refine z_iconst dX2_measureGap_31 (by decide) ?_
          refine z_goto 38 dX2_measureGap_32 (by decide) ?_
          refine z_istore_n dX2_measureGap_38 (by decide) rfl ?_
          dsimp only [List.set]
          refine z_iload_n dX2_measureGap_39 rfl ?_
          refine z_aload_n dX2_measureGap_40 rfl ?_
          refine z_gI 3 dX2_measureGap_41 fl_X2_61 (by first | rfl | assumption) rfl rfl ?_
          rw [h3]
          refine z_icmp_le 61 dX2_measureGap_44 (by decide) (fun h44 => ?_) (fun h44 => ?_)
          · rw [eF, if_neg (by omega)] at eL eT
            refine z_iinc dX2_measureGap_61 rfl (by omega) (by decide) rfl ?_
            dsimp only [List.set]
            refine z_goto 14 dX2_measureGap_64 (by decide) ?_
            rw [eF] at ih'
            first | exact ih' _ (by rw [eL]; exact h3) (by rw [eT]; exact h4) hon | exact ih' _ (by rw [eL, mset_nej _ _ (by decide), mset_eq]) (by rw [eT, mset_eq]) ((hon.set (by decide) (by decide)).set (by decide) (by decide))
          · rw [eF, if_pos (by omega)] at eL eT
            refine z_aload_n dX2_measureGap_47 rfl ?_
            refine z_iload_n dX2_measureGap_48 rfl ?_
            refine z_pI 3 dX2_measureGap_49 fm_X2_61 (by first | rfl | assumption) rfl rfl ?_
            refine z_aload_n dX2_measureGap_52 rfl ?_
            refine z_iload_n dX2_measureGap_53 rfl ?_
            refine z_iload_n dX2_measureGap_54 rfl ?_
            refine z_isub dX2_measureGap_55 (by omega) ?_
            refine z_iconst dX2_measureGap_56 (by decide) ?_
            refine z_iadd dX2_measureGap_57 (by omega) ?_
            refine z_pI 4 dX2_measureGap_58 fm_X2_64 (by first | rfl | assumption) rfl rfl ?_
            refine z_iinc dX2_measureGap_61 rfl (by omega) (by decide) rfl ?_
            dsimp only [List.set]
            refine z_goto 14 dX2_measureGap_64 (by decide) ?_
            rw [eF] at ih'
            first | exact ih' _ (by rw [eL]; exact h3) (by rw [eT]; exact h4) hon | exact ih' _ (by rw [eL, mset_nej _ _ (by decide), mset_eq]) (by rw [eT, mset_eq]) ((hon.set (by decide) (by decide)).set (by decide) (by decide))
  refine z_aload_n dX2_measureGap_0 rfl ?_
  refine z_iconst dX2_measureGap_1 (by decide) ?_
  refine z_pI 3 dX2_measureGap_2 fm_X2_61 (by first | rfl | assumption) rfl rfl ?_
  refine z_aload_n dX2_measureGap_5 rfl ?_
  refine z_iconst dX2_measureGap_6 (by decide) ?_
  refine z_pI 4 dX2_measureGap_7 fm_X2_64 (by first | rfl | assumption) rfl rfl ?_
  refine z_iconst dX2_measureGap_10 (by decide) ?_
  refine z_istore_n dX2_measureGap_11 (by decide) rfl ?_
  dsimp only [List.set]
  refine z_iconst dX2_measureGap_12 (by decide) ?_
  refine z_istore_n dX2_measureGap_13 (by decide) rfl ?_
  dsimp only [List.set]
  exact loop wk 0 _ (by omega) (by rw [mset_nej _ _ (by decide), mset_eq]; rfl) (mset_eq _ _ _ _) ((onS.rf.set (by decide) (by decide)).set (by decide) (by decide))
theorem cm_X2_mark {mk : Int} {wk : Nat} (hf : finC mem nf fd) (hr : finR nf fd) (hw : wk ≤ 30) : CM X (0, 0) 1 mX2_mark G0 [vr 33, vr 1, vi mk, vi (wk : Int)] mem (pI G0 fun z m => z = ((datL fd mk (wk : Int) nf).length : Int) ∧ m 33 3 = gpL (orF fd (datL fd mk (wk : Int) nf)) wk ∧ m 33 4 = gpT (orF fd (datL fd mk (wk : Int) nf)) wk ∧ onS 33 2 4 mem m) := by
  refine CM.of (by decide +kernel) 2 (Nat.le_of_ble_eq_true rfl) ?_
  show ZZ X (0, 0) 1 mX2_mark G0 0 [vr 33, vr 1, vi mk, vi (wk : Int), vd, vd] [] mem _
  have hn := hf.1
  have loop : ∀ (d i : Nat) (m : Mem), i + d = nf → m 33 2 = (orF fd (datL fd mk (wk : Int) i) : Int) → onS 33 2 4 mem m → ZZ X (0, 0) 1 mX2_mark G0 11 [vr 33, vr 1, vi mk, vi (wk : Int), vi ((datL fd mk (wk : Int) i).length : Int), vi (i : Int)] [] m (pI G0 fun z m => z = ((datL fd mk (wk : Int) nf).length : Int) ∧ m 33 3 = gpL (orF fd (datL fd mk (wk : Int) nf)) wk ∧ m 33 4 = gpT (orF fd (datL fd mk (wk : Int) nf)) wk ∧ onS 33 2 4 mem m) := by
    intro d
    induction d with
    | zero =>
      intro i m hi hL hon
      have hfm : finC m nf fd := hf.off (fun a h1 h2 => hon.1 a (by omega))
      have hs := hfm.2.1
      have : i = nf := by omega
      subst this
      refine z_iload dX2_mark_11 rfl ?_
      refine z_aload_n dX2_mark_13 rfl ?_
      refine z_gI 6 dX2_mark_14 fl_X2_30 (by first | rfl | assumption) rfl rfl ?_
      rw [hs]
      refine z_icmp_ge 74 dX2_mark_17 (by decide) (fun h17 => ?_) (fun h17 => ?_)
      · refine z_aload_n dX2_mark_74 rfl ?_
        refine z_iload_n dX2_mark_75 rfl ?_
        refine z_V1v dX2_mark_76 ok_X2_measureGap lk_X2_58 (by first | rfl | assumption) rfl rfl (Nat.le_of_ble_eq_true rfl) (by decide) (cm_X2_measureGap hL (orF_lt (datL_wk (by omega))) hw) (fun m2 hm2 => ?_)
        refine z_iload dX2_mark_79 rfl ?_
        refine z_iret dX2_mark_81 rfl ?_
        exact ⟨rfl, _, rfl, rfl, hm2.1, hm2.2.1, fun x hx => (hm2.2.2.1 x hx).trans (hon.1 x hx), fun j hj => (hm2.2.2.2 j (by omega)).trans (hon.2 j hj)⟩
      · omega
    | succ d ih =>
      intro i m hi hL hon
      have hfm : finC m nf fd := hf.off (fun a h1 h2 => hon.1 a (by omega))
      have hs := hfm.2.1
      have r2 : m 4 (i : Int) = fd 2 i := hfm.2.2.1 2 i (by decide) (by omega)
      have b := hr i (by omega)
      have hle := datL_len fd mk (wk : Int) i
      have hlt := orF_lt (fd := fd) (L := datL fd mk (wk : Int) i) (datL_wk (by omega))
      have skip : ¬ ((fd 0 i = mk ∧ fd 5 i = 0) ∧ 0 ≤ fd 2 i ∧ fd 2 i ≤ (wk : Int) - 1) → datL fd mk (wk : Int) (i + 1) = datL fd mk (wk : Int) i := fun q => if_neg q
      have take : ((fd 0 i = mk ∧ fd 5 i = 0) ∧ 0 ≤ fd 2 i ∧ fd 2 i ≤ (wk : Int) - 1) → datL fd mk (wk : Int) (i + 1) = insB (kI fd) (i : Int) (datL fd mk (wk : Int) i) := fun q => if_pos q
      have tl : (insB (kI fd) (i : Int) (datL fd mk (wk : Int) i)).length = (datL fd mk (wk : Int) i).length + 1 := len_ins (bpl_le _ _ _)
      have to : orF fd (insB (kI fd) (i : Int) (datL fd mk (wk : Int) i)) = orF fd (datL fd mk (wk : Int) i) ||| 2 ^ (fd 2 i).toNat := orF_ins _ _ _ _
      have ih' := fun m => ih (i + 1) m (by omega)
      refine z_iload dX2_mark_11 rfl ?_
      refine z_aload_n dX2_mark_13 rfl ?_
      refine z_gI 6 dX2_mark_14 fl_X2_30 (by first | rfl | assumption) rfl rfl ?_
      rw [hs]
      refine z_icmp_ge 74 dX2_mark_17 (by decide) (fun h17 => ?_) (fun h17 => ?_)
      · omega
      · refine z_aload_n dX2_mark_20 rfl ?_
        refine z_iload dX2_mark_21 rfl ?_
        refine z_iload_n dX2_mark_23 rfl ?_
        refine z_V2i dX2_mark_24 ok_X3_countsFor lk_X2_33 (by first | rfl | assumption) rfl rfl (Nat.le_of_ble_eq_true rfl) (by decide) (cm_X3_countsFor hfm (show i < nf by omega)) (fun z1 m1 hm1 => ?_)
        obtain ⟨hz1, rfl⟩ := hm1
        refine z_if_eq 68 dX2_mark_27 (by decide) (fun h27 => ?_) (fun h27 => ?_)
        · rw [skip (by omega)] at ih'
          refine z_iinc dX2_mark_68 rfl (by omega) (by decide) rfl ?_
          dsimp only [List.set]
          refine z_goto 11 dX2_mark_71 (by decide) ?_
          first | exact ih' _ hL hon | exact ih' _ (mset_eq _ _ _ _) (hon.set (by decide) (by decide))
        · refine z_aload_n dX2_mark_30 rfl ?_
          refine z_getR (ty := .int) dX2_mark_31 fl_X2_37 (by first | rfl | assumption) rfl rfl ?_
          refine z_iload dX2_mark_34 rfl ?_
          refine z_iald dX2_mark_36 (by first | rfl | assumption) (by omega) (by omega) ?_
          rw [r2]
          refine z_iconst dX2_mark_37 (by decide) ?_
          refine z_iload_n dX2_mark_38 rfl ?_
          refine z_iconst dX2_mark_39 (by decide) ?_
          refine z_isub dX2_mark_40 (by omega) ?_
          refine z_S3i dX2_mark_41 ok_X11_within lk_X2_54 (Nat.le_of_ble_eq_true rfl) (by decide) (cm_X11_within) (fun z2 m2 hm2 => ?_)
          obtain ⟨hz2, rfl⟩ := hm2
          refine z_if_eq 68 dX2_mark_44 (by decide) (fun h44 => ?_) (fun h44 => ?_)
          · rw [skip (by omega)] at ih'
            refine z_iinc dX2_mark_68 rfl (by omega) (by decide) rfl ?_
            dsimp only [List.set]
            refine z_goto 11 dX2_mark_71 (by decide) ?_
            first | exact ih' _ hL hon | exact ih' _ (mset_eq _ _ _ _) (hon.set (by decide) (by decide))
          · rw [take (by omega), tl, to] at ih'
            have hpw : 2 ^ (fd 2 i).toNat < 2 ^ 30 := Nat.pow_lt_pow_right (by decide) (by omega)
            refine z_aload_n dX2_mark_47 rfl ?_
            refine z_dup dX2_mark_48 (by intro z q; cases q) ?_
            refine z_gI 2 dX2_mark_49 fl_X2_51 (by first | rfl | assumption) rfl rfl ?_
            rw [hL]
            refine z_iconst dX2_mark_52 (by decide) ?_
            refine z_aload_n dX2_mark_53 rfl ?_
            refine z_getR (ty := .int) dX2_mark_54 fl_X2_37 (by first | rfl | assumption) rfl rfl ?_
            refine z_iload dX2_mark_57 rfl ?_
            refine z_iald dX2_mark_59 (by first | rfl | assumption) (by omega) (by omega) ?_
            rw [r2, show fd 2 i = (((fd 2 i).toNat : Nat) : Int) by omega]
            refine z_ishl dX2_mark_60 ?_
            rw [shl1' (by omega)]
            refine z_ior dX2_mark_61 ?_
            rw [ior_nat (by omega) (by omega)]
            refine z_pI 2 dX2_mark_62 fm_X2_51 (by first | rfl | assumption) rfl rfl ?_
            refine z_iinc dX2_mark_65 rfl (by omega) (by decide) rfl ?_
            dsimp only [List.set]
            refine z_iinc dX2_mark_68 rfl (by omega) (by decide) rfl ?_
            dsimp only [List.set]
            refine z_goto 11 dX2_mark_71 (by decide) ?_
            first | exact ih' _ hL hon | exact ih' _ (mset_eq _ _ _ _) (hon.set (by decide) (by decide))
  refine z_aload_n dX2_mark_0 rfl ?_
  refine z_iconst dX2_mark_1 (by decide) ?_
  refine z_pI 2 dX2_mark_2 fm_X2_51 (by first | rfl | assumption) rfl rfl ?_
  refine z_iconst dX2_mark_5 (by decide) ?_
  refine z_istore dX2_mark_6 (by decide) rfl ?_
  dsimp only [List.set]
  refine z_iconst dX2_mark_8 (by decide) ?_
  refine z_istore dX2_mark_9 (by decide) rfl ?_
  dsimp only [List.set]
  exact loop nf 0 _ (by omega) (mset_eq _ _ _ _) (onS.rf.set (by decide) (by decide))
def gpA (nf : Nat) (fd : Nat → Nat → Int) (mk wk wh : Int) : Int := if ¬ ((0 ≤ mk ∧ mk ≤ 5) ∧ (1 ≤ wk ∧ wk ≤ 30) ∧ 0 ≤ wh ∧ wh ≤ 1) then -2 else if ¬ (1 ≤ ((datL fd mk wk nf).length : Int) ∧ ((datL fd mk wk nf).length : Int) ≤ 12) then -3 else if wh = 0 then gpL (orF fd (datL fd mk wk nf)) wk.toNat else gpT (orF fd (datL fd mk wk nf)) wk.toNat
theorem cm_X11_gap {mk wk wh : Int} (hf : finC mem nf fd) (hr : finR nf fd) : CM X (0, 0) 2 mX11_gap G0 [vr 0, vi mk, vi wk, vi wh] mem (pI G0 fun z m => z = gpA nf fd mk wk wh ∧ onS 33 2 4 mem m) := by
  unfold gpA
  refine CM.of (by decide +kernel) 0 (Nat.le_of_ble_eq_true rfl) ?_
  show ZZ X (0, 0) 2 mX11_gap G0 0 [vr 0, vi mk, vi wk, vi wh] [] mem _
  refine z_iload_n dX11_gap_0 rfl ?_
  refine z_iconst dX11_gap_1 (by decide) ?_
  refine z_iconst dX11_gap_2 (by decide) ?_
  refine z_S3i dX11_gap_3 ok_X11_within lk_X11_83 (Nat.le_of_ble_eq_true rfl) (by decide) (cm_X11_within) (fun z1 m1 hm1 => ?_)
  obtain ⟨hz1, rfl⟩ := hm1
  refine z_if_eq 28 dX11_gap_6 (by decide) (fun h6 => ?_) (fun h6 => ?_)
  · refine z_bipush dX11_gap_28 (by decide) ?_
    refine z_iret dX11_gap_30 rfl ?_
    exact ⟨rfl, _, rfl, by rw [if_pos (by omega)], onS.rf⟩
  · refine z_iload_n dX11_gap_9 rfl ?_
    refine z_iconst dX11_gap_10 (by decide) ?_
    refine z_bipush dX11_gap_11 (by decide) ?_
    refine z_S3i dX11_gap_13 ok_X11_within lk_X11_83 (Nat.le_of_ble_eq_true rfl) (by decide) (cm_X11_within) (fun z1 m1 hm1 => ?_)
    obtain ⟨hz2, rfl⟩ := hm1
    refine z_if_eq 28 dX11_gap_16 (by decide) (fun h16 => ?_) (fun h16 => ?_)
    · refine z_bipush dX11_gap_28 (by decide) ?_
      refine z_iret dX11_gap_30 rfl ?_
      exact ⟨rfl, _, rfl, by rw [if_pos (by omega)], onS.rf⟩
    · refine z_iload_n dX11_gap_19 rfl ?_
      refine z_iconst dX11_gap_20 (by decide) ?_
      refine z_iconst dX11_gap_21 (by decide) ?_
      refine z_S3i dX11_gap_22 ok_X11_within lk_X11_83 (Nat.le_of_ble_eq_true rfl) (by decide) (cm_X11_within) (fun z1 m1 hm1 => ?_)
      obtain ⟨hz3, rfl⟩ := hm1
      refine z_if_ne 31 dX11_gap_25 (by decide) (fun h25 => ?_) (fun h25 => ?_)
      · rw [if_neg (by omega)]
        obtain ⟨w, rfl⟩ : ∃ w : Nat, wk = (w : Int) := ⟨wk.toNat, by omega⟩
        rw [Int.toNat_natCast]
        refine z_aload_n dX11_gap_31 rfl ?_
        refine z_getR (ty := .int) dX11_gap_32 fl_X11_47 (by first | rfl | assumption) rfl rfl ?_
        refine z_aload_n dX11_gap_35 rfl ?_
        refine z_getR (ty := .int) dX11_gap_36 fl_X11_10 (by first | rfl | assumption) rfl rfl ?_
        refine z_iload_n dX11_gap_39 rfl ?_
        refine z_iload_n dX11_gap_40 rfl ?_
        refine z_V3i dX11_gap_41 ok_X2_mark lk_X11_188 (by first | rfl | assumption) rfl rfl (Nat.le_of_ble_eq_true rfl) (by decide) (cm_X2_mark hf hr (by omega)) (fun z2 m2 hm2 => ?_)
        obtain ⟨rfl, g3, g4, hon⟩ := hm2
        refine z_iconst dX11_gap_44 (by decide) ?_
        refine z_bipush dX11_gap_45 (by decide) ?_
        refine z_S3i dX11_gap_47 ok_X11_within lk_X11_83 (Nat.le_of_ble_eq_true rfl) (by decide) (cm_X11_within) (fun z4 m4 hm4 => ?_)
        obtain ⟨hz4, rfl⟩ := hm4
        refine z_if_ne 56 dX11_gap_50 (by decide) (fun h50 => ?_) (fun h50 => ?_)
        · refine z_iload_n dX11_gap_56 rfl ?_
          refine z_if_ne 70 dX11_gap_57 (by decide) (fun h57 => ?_) (fun h57 => ?_)
          · refine z_aload_n dX11_gap_70 rfl ?_
            refine z_getR (ty := .int) dX11_gap_71 fl_X11_47 (by first | rfl | assumption) rfl rfl ?_
            refine z_gI 4 dX11_gap_74 fl_X11_195 (by first | rfl | assumption) rfl rfl ?_
            rw [g4]
            refine z_iret dX11_gap_77 rfl ?_
            first | exact ⟨rfl, _, rfl, by rw [if_neg (by omega), if_pos (by omega)], hon⟩ | exact ⟨rfl, _, rfl, by rw [if_neg (by omega), if_neg (by omega)], hon⟩
          · refine z_aload_n dX11_gap_60 rfl ?_
            refine z_getR (ty := .int) dX11_gap_61 fl_X11_47 (by first | rfl | assumption) rfl rfl ?_
            refine z_gI 3 dX11_gap_64 fl_X11_192 (by first | rfl | assumption) rfl rfl ?_
            rw [g3]
            refine z_goto 77 dX11_gap_67 (by decide) ?_
            refine z_iret dX11_gap_77 rfl ?_
            first | exact ⟨rfl, _, rfl, by rw [if_neg (by omega), if_pos (by omega)], hon⟩ | exact ⟨rfl, _, rfl, by rw [if_neg (by omega), if_neg (by omega)], hon⟩
        · refine z_bipush dX11_gap_53 (by decide) ?_
          refine z_iret dX11_gap_55 rfl ?_
          exact ⟨rfl, _, rfl, by rw [if_pos (by omega)], hon⟩
      · refine z_bipush dX11_gap_28 (by decide) ?_
        refine z_iret dX11_gap_30 rfl ?_
        exact ⟨rfl, _, rfl, by rw [if_pos (by omega)], onS.rf⟩
def onGp (mem m : Mem) : Prop := (∀ a, a ≠ 88 → a ≠ 98 → m a = mem a) ∧ ∀ j, j < 22 ∨ 24 < j → m 88 j = mem 88 j
theorem cm_X12_findGap {wk : Nat} {L : List Int} (hf : finM mem nf fd) (hL : rowAt mem L) (hlen : L.length ≤ 60) (hmm : ∀ j : Nat, j < L.length → ∃ i : Nat, i < nf ∧ L.getD j 0 = (i : Int)) (hwk : ∀ y ∈ L, 0 ≤ fd 2 y.toNat ∧ fd 2 y.toNat ≤ 29) (hw : wk ≤ 30) : CM X (0, 0) 1 mX12_findGap G0 [vr 88, vi (wk : Int)] mem (pV G0 fun m => m 88 23 = gpL (orF fd L) wk ∧ m 88 24 = gpT (orF fd L) wk ∧ onS 88 23 24 mem m) := by
  obtain ⟨hs, hrow⟩ := hL
  have hlt := orF_lt hwk
  refine CM.of (by decide +kernel) 3 (Nat.le_of_ble_eq_true rfl) ?_
  show ZZ X (0, 0) 1 mX12_findGap G0 0 [vr 88, vi (wk : Int), vd, vd, vd] [] mem _
  have two : ∀ (d w : Nat) (m : Mem), w + d = wk → m 88 23 = gpL (orF fd L) w → m 88 24 = gpT (orF fd L) w → onS 88 23 24 mem m → ZZ X (0, 0) 1 mX12_findGap G0 49 [vr 88, vi (wk : Int), vi (orF fd L : Int), vi (gpF (orF fd L) w), vi (w : Int)] [] m (pV G0 fun m => m 88 23 = gpL (orF fd L) wk ∧ m 88 24 = gpT (orF fd L) wk ∧ onS 88 23 24 mem m) := by
    generalize orF fd L = n at hlt
    intro d
    induction d with
    | zero =>
      intro w m hi h3 h4 hon
      have : w = wk := by omega
      subst this
      refine z_iload dX12_findGap_49 rfl ?_
      refine z_iload_n dX12_findGap_51 rfl ?_
      refine z_icmp_ge 124 dX12_findGap_52 (by decide) (fun h52 => ?_) (fun h52 => ?_)
      · refine z_vret dX12_findGap_124 rfl ?_
        exact ⟨rfl, rfl, h3, h4, hon⟩
      · omega
    | succ d ih =>
      intro w m hi h3 h4 hon
      have b1 := gpF_bd n w
      have b2 := gpL_bd n w
      have eF : gpF n (w + 1) = (if n / 2 ^ w % 2 = 1 then 0 else gpF n w + 1) := rfl
      have eL : gpL n (w + 1) = (if gpL n w < gpF n (w + 1) then gpF n (w + 1) else gpL n w) := rfl
      have eT : gpT n (w + 1) = (if gpL n w < gpF n (w + 1) then (w : Int) - gpF n (w + 1) + 1 else gpT n w) := rfl
      have ih' := fun m => ih (w + 1) m (by omega)
      refine z_iload dX12_findGap_49 rfl ?_
      refine z_iload_n dX12_findGap_51 rfl ?_
      refine z_icmp_ge 124 dX12_findGap_52 (by decide) (fun h52 => ?_) (fun h52 => ?_)
      · omega
      · refine z_iload_n dX12_findGap_55 rfl ?_
        refine z_iload dX12_findGap_56 rfl ?_
        refine z_ishr dX12_findGap_58 ?_
        refine z_iconst dX12_findGap_59 (by decide) ?_
        refine z_iand dX12_findGap_60 ?_
        rw [bit_at (by omega) (by omega)]
        refine z_iconst dX12_findGap_61 (by decide) ?_
        refine z_icmp_ne 69 dX12_findGap_62 (by decide) (fun h62 => ?_) (fun h62 => ?_)
        · rw [if_neg (by omega)] at eF
          refine z_iload_n dX12_findGap_69 rfl ?_
          refine z_iconst dX12_findGap_70 (by decide) ?_
          refine z_iadd dX12_findGap_71 (by omega) ?_
          refine z_istore_n dX12_findGap_72 (by decide) rfl ?_
          dsimp only [List.set]
          refine z_aload_n dX12_findGap_73 rfl ?_
          refine z_iload_n dX12_findGap_74 rfl ?_
          refine z_aload_n dX12_findGap_75 rfl ?_
          refine z_gI 23 dX12_findGap_76 fl_X12_263 (by first | rfl | assumption) rfl rfl ?_
          rw [h3]
          refine z_icmp_le 91 dX12_findGap_79 (by decide) (fun h79 => ?_) (fun h79 => ?_)
          · rw [eF, if_neg (by omega)] at eL eT
            refine z_aload_n dX12_findGap_91 rfl ?_
            refine z_gI 24 dX12_findGap_92 fl_X12_266 (by first | rfl | assumption) rfl rfl ?_
            rw [h4]
            refine z_pI 24 dX12_findGap_95 fm_X12_266 (by first | rfl | assumption) rfl rfl ?_
            refine z_aload_n dX12_findGap_98 rfl ?_
            refine z_iload_n dX12_findGap_99 rfl ?_
            refine z_aload_n dX12_findGap_100 rfl ?_
            refine z_gI 23 dX12_findGap_101 fl_X12_263 (by first | rfl | assumption) rfl rfl ?_
            rw [mset_nej _ _ (by decide), h3]
            refine z_icmp_le 111 dX12_findGap_104 (by decide) (fun h104 => ?_) (fun h104 => ?_)
            · refine z_aload_n dX12_findGap_111 rfl ?_
              refine z_gI 23 dX12_findGap_112 fl_X12_263 (by first | rfl | assumption) rfl rfl ?_
              rw [mset_nej _ _ (by decide), h3]
              refine z_pI 23 dX12_findGap_115 fm_X12_263 (by first | rfl | assumption) rfl rfl ?_
              refine z_iinc dX12_findGap_118 rfl (by omega) (by decide) rfl ?_
              dsimp only [List.set]
              refine z_goto 49 dX12_findGap_121 (by decide) ?_
              first | omega | skip
              all_goals
                rw [eF] at ih'
                exact ih' _ (by rw [eL, mset_eq]) (by rw [eT, mset_nej _ _ (by decide), mset_eq]) ((hon.set (by decide) (by decide)).set (by decide) (by decide))
            · refine z_iload_n dX12_findGap_107 rfl ?_
              refine z_goto 115 dX12_findGap_108 (by decide) ?_
              refine z_pI 23 dX12_findGap_115 fm_X12_263 (by first | rfl | assumption) rfl rfl ?_
              refine z_iinc dX12_findGap_118 rfl (by omega) (by decide) rfl ?_
              dsimp only [List.set]
              refine z_goto 49 dX12_findGap_121 (by decide) ?_
              first | omega | skip
              all_goals
                rw [eF] at ih'
                exact ih' _ (by rw [eL, mset_eq]) (by rw [eT, mset_nej _ _ (by decide), mset_eq]) ((hon.set (by decide) (by decide)).set (by decide) (by decide))
          · rw [eF, if_pos (by omega)] at eL eT
            refine z_iload dX12_findGap_82 rfl ?_
            refine z_iload_n dX12_findGap_84 rfl ?_
            refine z_isub dX12_findGap_85 (by omega) ?_
            refine z_iconst dX12_findGap_86 (by decide) ?_
            refine z_iadd dX12_findGap_87 (by omega) ?_
            refine z_goto 95 dX12_findGap_88 (by decide) ?_
            refine z_pI 24 dX12_findGap_95 fm_X12_266 (by first | rfl | assumption) rfl rfl ?_
            refine z_aload_n dX12_findGap_98 rfl ?_
            refine z_iload_n dX12_findGap_99 rfl ?_
            refine z_aload_n dX12_findGap_100 rfl ?_
            refine z_gI 23 dX12_findGap_101 fl_X12_263 (by first | rfl | assumption) rfl rfl ?_
            rw [mset_nej _ _ (by decide), h3]
            refine z_icmp_le 111 dX12_findGap_104 (by decide) (fun h104 => ?_) (fun h104 => ?_)
            · refine z_aload_n dX12_findGap_111 rfl ?_
              refine z_gI 23 dX12_findGap_112 fl_X12_263 (by first | rfl | assumption) rfl rfl ?_
              rw [mset_nej _ _ (by decide), h3]
              refine z_pI 23 dX12_findGap_115 fm_X12_263 (by first | rfl | assumption) rfl rfl ?_
              refine z_iinc dX12_findGap_118 rfl (by omega) (by decide) rfl ?_
              dsimp only [List.set]
              refine z_goto 49 dX12_findGap_121 (by decide) ?_
              first | omega | skip
              all_goals
                rw [eF] at ih'
                exact ih' _ (by rw [eL, mset_eq]) (by rw [eT, mset_nej _ _ (by decide), mset_eq]) ((hon.set (by decide) (by decide)).set (by decide) (by decide))
            · refine z_iload_n dX12_findGap_107 rfl ?_
              refine z_goto 115 dX12_findGap_108 (by decide) ?_
              refine z_pI 23 dX12_findGap_115 fm_X12_263 (by first | rfl | assumption) rfl rfl ?_
              refine z_iinc dX12_findGap_118 rfl (by omega) (by decide) rfl ?_
              dsimp only [List.set]
              refine z_goto 49 dX12_findGap_121 (by decide) ?_
              first | omega | skip
              all_goals
                rw [eF] at ih'
                exact ih' _ (by rw [eL, mset_eq]) (by rw [eT, mset_nej _ _ (by decide), mset_eq]) ((hon.set (by decide) (by decide)).set (by decide) (by decide))
        · rw [if_pos (by omega)] at eF
          refine z_iconst dX12_findGap_65 (by decide) ?_
          refine z_goto 72 dX12_findGap_66 (by decide) ?_
          refine z_istore_n dX12_findGap_72 (by decide) rfl ?_
          dsimp only [List.set]
          refine z_aload_n dX12_findGap_73 rfl ?_
          refine z_iload_n dX12_findGap_74 rfl ?_
          refine z_aload_n dX12_findGap_75 rfl ?_
          refine z_gI 23 dX12_findGap_76 fl_X12_263 (by first | rfl | assumption) rfl rfl ?_
          rw [h3]
          refine z_icmp_le 91 dX12_findGap_79 (by decide) (fun h79 => ?_) (fun h79 => ?_)
          · rw [eF, if_neg (by omega)] at eL eT
            refine z_aload_n dX12_findGap_91 rfl ?_
            refine z_gI 24 dX12_findGap_92 fl_X12_266 (by first | rfl | assumption) rfl rfl ?_
            rw [h4]
            refine z_pI 24 dX12_findGap_95 fm_X12_266 (by first | rfl | assumption) rfl rfl ?_
            refine z_aload_n dX12_findGap_98 rfl ?_
            refine z_iload_n dX12_findGap_99 rfl ?_
            refine z_aload_n dX12_findGap_100 rfl ?_
            refine z_gI 23 dX12_findGap_101 fl_X12_263 (by first | rfl | assumption) rfl rfl ?_
            rw [mset_nej _ _ (by decide), h3]
            refine z_icmp_le 111 dX12_findGap_104 (by decide) (fun h104 => ?_) (fun h104 => ?_)
            · refine z_aload_n dX12_findGap_111 rfl ?_
              refine z_gI 23 dX12_findGap_112 fl_X12_263 (by first | rfl | assumption) rfl rfl ?_
              rw [mset_nej _ _ (by decide), h3]
              refine z_pI 23 dX12_findGap_115 fm_X12_263 (by first | rfl | assumption) rfl rfl ?_
              refine z_iinc dX12_findGap_118 rfl (by omega) (by decide) rfl ?_
              dsimp only [List.set]
              refine z_goto 49 dX12_findGap_121 (by decide) ?_
              first | omega | skip
              all_goals
                rw [eF] at ih'
                exact ih' _ (by rw [eL, mset_eq]) (by rw [eT, mset_nej _ _ (by decide), mset_eq]) ((hon.set (by decide) (by decide)).set (by decide) (by decide))
            · refine z_iload_n dX12_findGap_107 rfl ?_
              refine z_goto 115 dX12_findGap_108 (by decide) ?_
              refine z_pI 23 dX12_findGap_115 fm_X12_263 (by first | rfl | assumption) rfl rfl ?_
              refine z_iinc dX12_findGap_118 rfl (by omega) (by decide) rfl ?_
              dsimp only [List.set]
              refine z_goto 49 dX12_findGap_121 (by decide) ?_
              first | omega | skip
              all_goals
                rw [eF] at ih'
                exact ih' _ (by rw [eL, mset_eq]) (by rw [eT, mset_nej _ _ (by decide), mset_eq]) ((hon.set (by decide) (by decide)).set (by decide) (by decide))
          · rw [eF, if_pos (by omega)] at eL eT
            refine z_iload dX12_findGap_82 rfl ?_
            refine z_iload_n dX12_findGap_84 rfl ?_
            refine z_isub dX12_findGap_85 (by omega) ?_
            refine z_iconst dX12_findGap_86 (by decide) ?_
            refine z_iadd dX12_findGap_87 (by omega) ?_
            refine z_goto 95 dX12_findGap_88 (by decide) ?_
            refine z_pI 24 dX12_findGap_95 fm_X12_266 (by first | rfl | assumption) rfl rfl ?_
            refine z_aload_n dX12_findGap_98 rfl ?_
            refine z_iload_n dX12_findGap_99 rfl ?_
            refine z_aload_n dX12_findGap_100 rfl ?_
            refine z_gI 23 dX12_findGap_101 fl_X12_263 (by first | rfl | assumption) rfl rfl ?_
            rw [mset_nej _ _ (by decide), h3]
            refine z_icmp_le 111 dX12_findGap_104 (by decide) (fun h104 => ?_) (fun h104 => ?_)
            · refine z_aload_n dX12_findGap_111 rfl ?_
              refine z_gI 23 dX12_findGap_112 fl_X12_263 (by first | rfl | assumption) rfl rfl ?_
              rw [mset_nej _ _ (by decide), h3]
              refine z_pI 23 dX12_findGap_115 fm_X12_263 (by first | rfl | assumption) rfl rfl ?_
              refine z_iinc dX12_findGap_118 rfl (by omega) (by decide) rfl ?_
              dsimp only [List.set]
              refine z_goto 49 dX12_findGap_121 (by decide) ?_
              first | omega | skip
              all_goals
                rw [eF] at ih'
                exact ih' _ (by rw [eL, mset_eq]) (by rw [eT, mset_nej _ _ (by decide), mset_eq]) ((hon.set (by decide) (by decide)).set (by decide) (by decide))
            · refine z_iload_n dX12_findGap_107 rfl ?_
              refine z_goto 115 dX12_findGap_108 (by decide) ?_
              refine z_pI 23 dX12_findGap_115 fm_X12_263 (by first | rfl | assumption) rfl rfl ?_
              refine z_iinc dX12_findGap_118 rfl (by omega) (by decide) rfl ?_
              dsimp only [List.set]
              refine z_goto 49 dX12_findGap_121 (by decide) ?_
              first | omega | skip
              all_goals
                rw [eF] at ih'
                exact ih' _ (by rw [eL, mset_eq]) (by rw [eT, mset_nej _ _ (by decide), mset_eq]) ((hon.set (by decide) (by decide)).set (by decide) (by decide))
  have one : ∀ (d k : Nat), k + d = L.length → ZZ X (0, 0) 1 mX12_findGap G0 4 [vr 88, vi (wk : Int), vi (orF fd (L.take k) : Int), vi (k : Int), vd] [] mem (pV G0 fun m => m 88 23 = gpL (orF fd L) wk ∧ m 88 24 = gpT (orF fd L) wk ∧ onS 88 23 24 mem m) := by
    intro d
    induction d with
    | zero =>
      intro k hk
      have : k = L.length := by omega
      subst this
      rw [List.take_length]
      refine z_iload_n dX12_findGap_4 rfl ?_
      refine z_aload_n dX12_findGap_5 rfl ?_
      refine z_gI 22 dX12_findGap_6 fl_X12_254 (by first | rfl | assumption) rfl rfl ?_
      rw [hs]
      refine z_icmp_ge 34 dX12_findGap_9 (by decide) (fun h9 => ?_) (fun h9 => ?_)
      · refine z_aload_n dX12_findGap_34 rfl ?_
        refine z_iconst dX12_findGap_35 (by decide) ?_
        refine z_pI 23 dX12_findGap_36 fm_X12_263 (by first | rfl | assumption) rfl rfl ?_
        refine z_aload_n dX12_findGap_39 rfl ?_
        refine z_iconst dX12_findGap_40 (by decide) ?_
        refine z_pI 24 dX12_findGap_41 fm_X12_266 (by first | rfl | assumption) rfl rfl ?_
        refine z_iconst dX12_findGap_44 (by decide) ?_
        refine z_istore_n dX12_findGap_45 (by decide) rfl ?_
        dsimp only [List.set]
        refine z_iconst dX12_findGap_46 (by decide) ?_
        refine z_istore dX12_findGap_47 (by decide) rfl ?_
        dsimp only [List.set]
        exact two wk 0 _ (by omega) (by rw [mset_nej _ _ (by decide), mset_eq]; rfl) (mset_eq _ _ _ _) ((onS.rf.set (by decide) (by decide)).set (by decide) (by decide))
      · omega
    | succ d ih =>
      intro k hk
      obtain ⟨i, hi, ei⟩ := hmm k (by omega)
      have r := hrow k (by omega)
      rw [ei] at r
      have b := hwk _ (getD_mem (show k < L.length by omega))
      rw [ei, Int.toNat_natCast] at b
      have hlk := orF_lt (fd := fd) (L := L.take k) (fun y hy => hwk y (List.mem_of_mem_take hy))
      have ih' := ih (k + 1) (by omega)
      have e1 := orF_tk fd L k (by omega)
      rw [ei] at e1
      have e2 : wkB fd (i : Int) = 2 ^ (fd 2 i).toNat := rfl
      have hpw : 2 ^ (fd 2 i).toNat < 2 ^ 30 := Nat.pow_lt_pow_right (by decide) (by omega)
      rw [e1, e2] at ih'
      refine z_iload_n dX12_findGap_4 rfl ?_
      refine z_aload_n dX12_findGap_5 rfl ?_
      refine z_gI 22 dX12_findGap_6 fl_X12_254 (by first | rfl | assumption) rfl rfl ?_
      rw [hs]
      refine z_icmp_ge 34 dX12_findGap_9 (by decide) (fun h9 => ?_) (fun h9 => ?_)
      · omega
      · refine z_iload_n dX12_findGap_12 rfl ?_
        refine z_iconst dX12_findGap_13 (by decide) ?_
        refine z_aload_n dX12_findGap_14 rfl ?_
        refine z_aload_n dX12_findGap_15 rfl ?_
        refine z_getR (ty := .int) dX12_findGap_16 fl_X12_37 (by first | rfl | assumption) rfl rfl ?_
        refine z_iload_n dX12_findGap_19 rfl ?_
        refine z_iald dX12_findGap_20 (by first | rfl | assumption) (by omega) (by omega) ?_
        rw [r]
        refine z_iconst dX12_findGap_21 (by decide) ?_
        refine z_V2i dX12_findGap_22 ok_X12_of lk_X12_122 (by first | rfl | assumption) rfl rfl (Nat.le_of_ble_eq_true rfl) (by decide) (cm_X12_of (i := i) (k := 2) hf hi (by decide)) (fun z1 m1 hm1 => ?_)
        obtain ⟨rfl, rfl⟩ := hm1
        rw [show fd 2 i = (((fd 2 i).toNat : Nat) : Int) by omega]
        refine z_ishl dX12_findGap_25 ?_
        rw [shl1' (by omega)]
        refine z_ior dX12_findGap_26 ?_
        rw [ior_nat (by omega) (by omega)]
        refine z_istore_n dX12_findGap_27 (by decide) rfl ?_
        dsimp only [List.set]
        refine z_iinc dX12_findGap_28 rfl (by omega) (by decide) rfl ?_
        dsimp only [List.set]
        refine z_goto 4 dX12_findGap_31 (by decide) ?_
        exact ih'
  refine z_iconst dX12_findGap_0 (by decide) ?_
  refine z_istore_n dX12_findGap_1 (by decide) rfl ?_
  dsimp only [List.set]
  refine z_iconst dX12_findGap_2 (by decide) ?_
  refine z_istore_n dX12_findGap_3 (by decide) rfl ?_
  dsimp only [List.set]
  exact one L.length 0 (by omega)
def gsA (nf : Nat) (fd : Nat → Nat → Int) (mk wk ok : Int) : Int := if ¬ ((0 ≤ mk ∧ mk ≤ 5) ∧ (1 ≤ wk ∧ wk ≤ 30) ∧ ok = 1) then -2 else if ¬ (1 ≤ ((datL fd mk wk nf).length : Int) ∧ ((datL fd mk wk nf).length : Int) ≤ 12) then -3 else 1
theorem cm_X12_gaps {mk wk ok : Int} (hf : finM mem nf fd) (hr : finR nf fd) (hok : ok = 0 ∨ ok = 1) : CM X (0, 0) 3 mX12_gaps G0 [vr 88, vi mk, vi wk, vi ok] mem (pI G0 fun z m => z = gsA nf fd mk wk ok ∧ (z = -3 ∨ z = 1 → m 88 22 = ((datL fd mk wk nf).length : Int)) ∧ (z = 1 → m 88 23 = gpL (orF fd (datL fd mk wk nf)) wk.toNat ∧ m 88 24 = gpT (orF fd (datL fd mk wk nf)) wk.toNat) ∧ onGp mem m) := by
  have hlen := datL_len fd mk wk nf
  have hn := hf.1
  unfold gsA
  refine CM.of (by decide +kernel) 0 (Nat.le_of_ble_eq_true rfl) ?_
  show ZZ X (0, 0) 3 mX12_gaps G0 0 [vr 88, vi mk, vi wk, vi ok] [] mem _
  refine z_iload_n dX12_gaps_0 rfl ?_
  refine z_S1i dX12_gaps_1 ok_X12_isMaker lk_X12_103 (Nat.le_of_ble_eq_true rfl) (by decide) (cm_X12_isMaker) (fun z1 m1 hm1 => ?_)
  obtain ⟨hz1, rfl⟩ := hm1
  refine z_if_eq 23 dX12_gaps_4 (by decide) (fun h4 => ?_) (fun h4 => ?_)
  · refine z_bipush dX12_gaps_23 (by decide) ?_
    refine z_iret dX12_gaps_25 rfl ?_
    exact ⟨rfl, _, rfl, by rw [if_pos (by omega)], fun q => by omega, fun q => by omega, fun _ _ _ => rfl, fun _ _ => rfl⟩
  · refine z_iload_n dX12_gaps_7 rfl ?_
    refine z_i2l dX12_gaps_8 ?_
    refine z_lconst (z := 1) dX12_gaps_9 rfl (by decide) ?_
    refine z_ldc2 (z := 30) dX12_gaps_10 kc_X12_206 (by decide) ?_
    refine z_S3i dX12_gaps_13 ok_X12_in lk_X12_97 (Nat.le_of_ble_eq_true rfl) (by decide) (cm_X12_in) (fun z1 m1 hm1 => ?_)
    obtain ⟨hz2, rfl⟩ := hm1
    refine z_if_eq 23 dX12_gaps_16 (by decide) (fun h16 => ?_) (fun h16 => ?_)
    · refine z_bipush dX12_gaps_23 (by decide) ?_
      refine z_iret dX12_gaps_25 rfl ?_
      exact ⟨rfl, _, rfl, by rw [if_pos (by omega)], fun q => by omega, fun q => by omega, fun _ _ _ => rfl, fun _ _ => rfl⟩
    · refine z_iload_n dX12_gaps_19 rfl ?_
      refine z_if_ne 26 dX12_gaps_20 (by decide) (fun h20 => ?_) (fun h20 => ?_)
      · rw [if_neg (by omega)]
        obtain ⟨w, rfl⟩ : ∃ w : Nat, wk = (w : Int) := ⟨wk.toNat, by omega⟩
        rw [Int.toNat_natCast]
        refine z_aload_n dX12_gaps_26 rfl ?_
        refine z_iload_n dX12_gaps_27 rfl ?_
        refine z_iload_n dX12_gaps_28 rfl ?_
        refine z_V2v dX12_gaps_29 ok_X12_dates lk_X12_257 (by first | rfl | assumption) rfl rfl (Nat.le_of_ble_eq_true rfl) (by decide) (cm_X12_dates hf hr (by omega) (by omega)) (fun m2 hm2 => ?_)
        obtain ⟨hL, hon⟩ := hm2
        have hs := hL.1
        refine z_aload_n dX12_gaps_32 rfl ?_
        refine z_gI 22 dX12_gaps_33 fl_X12_254 (by first | rfl | assumption) rfl rfl ?_
        rw [hs]
        refine z_i2l dX12_gaps_36 ?_
        refine z_lconst (z := 1) dX12_gaps_37 rfl (by decide) ?_
        refine z_ldc2 (z := 12) dX12_gaps_38 kc_X12_269 (by decide) ?_
        refine z_S3i dX12_gaps_41 ok_X12_in lk_X12_97 (Nat.le_of_ble_eq_true rfl) (by decide) (cm_X12_in) (fun z4 m4 hm4 => ?_)
        obtain ⟨hz4, rfl⟩ := hm4
        refine z_if_ne 50 dX12_gaps_44 (by decide) (fun h44 => ?_) (fun h44 => ?_)
        · refine z_aload_n dX12_gaps_50 rfl ?_
          refine z_iload_n dX12_gaps_51 rfl ?_
          refine z_V1v dX12_gaps_52 ok_X12_findGap lk_X12_271 (by first | rfl | assumption) rfl rfl (Nat.le_of_ble_eq_true rfl) (by decide) (cm_X12_findGap (hf.o2 hon) hL (by omega) (fun j hj => by obtain ⟨i, a, e, -⟩ := datL_at hj; exact ⟨i, a, e⟩) (datL_wk (by omega)) (by omega)) (fun m5 hm5 => ?_)
          refine z_iconst dX12_gaps_55 (by decide) ?_
          refine z_iret dX12_gaps_56 rfl ?_
          exact ⟨rfl, _, rfl, by rw [if_neg (by omega)], fun _ => (hm5.2.2.2 22 (by decide)).trans hs, fun _ => ⟨hm5.1, hm5.2.1⟩, fun a h1 h2 => (hm5.2.2.1 a h1).trans (hon.1 a h1 h2), fun j hj => (hm5.2.2.2 j (by omega)).trans (hon.2 j (by omega))⟩
        · refine z_bipush dX12_gaps_47 (by decide) ?_
          refine z_iret dX12_gaps_49 rfl ?_
          exact ⟨rfl, _, rfl, by rw [if_pos (by omega)], fun _ => hs, fun q => by omega, fun a h1 h2 => hon.1 a h1 h2, fun j hj => hon.2 j (by omega)⟩
      · refine z_bipush dX12_gaps_23 (by decide) ?_
        refine z_iret dX12_gaps_25 rfl ?_
        exact ⟨rfl, _, rfl, by rw [if_pos (by omega)], fun q => by omega, fun q => by omega, fun _ _ _ => rfl, fun _ _ => rfl⟩
theorem cm_X12_gap {mk wk wh : Int} (hf : finM mem nf fd) (hr : finR nf fd) : CM X (0, 0) 4 mX12_gap G0 [vr 88, vi mk, vi wk, vi wh] mem (pI G0 fun z m => z = gpA nf fd mk wk wh ∧ onGp mem m) := by
  unfold gpA
  refine CM.of (by decide +kernel) 1 (Nat.le_of_ble_eq_true rfl) ?_
  show ZZ X (0, 0) 4 mX12_gap G0 0 [vr 88, vi mk, vi wk, vi wh, vd] [] mem _
  refine z_aload_n dX12_gap_0 rfl ?_
  refine z_iload_n dX12_gap_1 rfl ?_
  refine z_iload_n dX12_gap_2 rfl ?_
  refine z_iload_n dX12_gap_3 rfl ?_
  refine z_i2l dX12_gap_4 ?_
  refine z_lconst (z := 0) dX12_gap_5 rfl (by decide) ?_
  refine z_lconst (z := 1) dX12_gap_6 rfl (by decide) ?_
  refine z_S3i dX12_gap_7 ok_X12_in lk_X12_97 (Nat.le_of_ble_eq_true rfl) (by decide) (cm_X12_in) (fun z1 m1 hm1 => ?_)
  obtain ⟨hz1, rfl⟩ := hm1
  refine z_V3i dX12_gap_10 ok_X12_gaps lk_X12_274 (by first | rfl | assumption) rfl rfl (Nat.le_of_ble_eq_true rfl) (by decide) (cm_X12_gaps hf hr (by omega)) (fun z2 m2 hm2 => ?_)
  obtain ⟨ez, -, hg, hon⟩ := hm2
  unfold gsA at ez
  refine z_istore dX12_gap_13 (by decide) rfl ?_
  dsimp only [List.set]
  refine z_iload dX12_gap_15 rfl ?_
  refine z_iconst dX12_gap_17 (by decide) ?_
  refine z_icmp_eq 26 dX12_gap_18 (by decide) (fun h18 => ?_) (fun h18 => ?_)
  · obtain ⟨g3, g4⟩ := hg (by omega)
    refine z_iload_n dX12_gap_26 rfl ?_
    refine z_if_ne 37 dX12_gap_27 (by decide) (fun h27 => ?_) (fun h27 => ?_)
    · refine z_aload_n dX12_gap_37 rfl ?_
      refine z_gI 24 dX12_gap_38 fl_X12_266 (by first | rfl | assumption) rfl rfl ?_
      rw [g4]
      refine z_iret dX12_gap_41 rfl ?_
      refine ⟨rfl, _, rfl, ?_, hon⟩
      by_cases c1 : (0 ≤ mk ∧ mk ≤ 5) ∧ (1 ≤ wk ∧ wk ≤ 30) ∧ 0 ≤ wh ∧ wh ≤ 1
      · rw [if_neg (by omega)] at ez ⊢
        by_cases c2 : 1 ≤ ((datL fd mk wk nf).length : Int) ∧ ((datL fd mk wk nf).length : Int) ≤ 12
        · rw [if_neg (by omega)] at ez ⊢
          first | omega | (rw [if_pos (by omega)]; done) | (rw [if_neg (by omega)]; done)
        · rw [if_pos (by omega)] at ez ⊢
          omega
      · rw [if_pos (by omega)] at ez ⊢
        omega
    · refine z_aload_n dX12_gap_30 rfl ?_
      refine z_gI 23 dX12_gap_31 fl_X12_263 (by first | rfl | assumption) rfl rfl ?_
      rw [g3]
      refine z_goto 41 dX12_gap_34 (by decide) ?_
      refine z_iret dX12_gap_41 rfl ?_
      refine ⟨rfl, _, rfl, ?_, hon⟩
      by_cases c1 : (0 ≤ mk ∧ mk ≤ 5) ∧ (1 ≤ wk ∧ wk ≤ 30) ∧ 0 ≤ wh ∧ wh ≤ 1
      · rw [if_neg (by omega)] at ez ⊢
        by_cases c2 : 1 ≤ ((datL fd mk wk nf).length : Int) ∧ ((datL fd mk wk nf).length : Int) ≤ 12
        · rw [if_neg (by omega)] at ez ⊢
          first | omega | (rw [if_pos (by omega)]; done) | (rw [if_neg (by omega)]; done)
        · rw [if_pos (by omega)] at ez ⊢
          omega
      · rw [if_pos (by omega)] at ez ⊢
        omega
  · refine z_iload dX12_gap_21 rfl ?_
    refine z_goto 41 dX12_gap_23 (by decide) ?_
    refine z_iret dX12_gap_41 rfl ?_
    refine ⟨rfl, _, rfl, ?_, hon⟩
    by_cases c1 : (0 ≤ mk ∧ mk ≤ 5) ∧ (1 ≤ wk ∧ wk ≤ 30) ∧ 0 ≤ wh ∧ wh ≤ 1
    · rw [if_neg (by omega)] at ez ⊢
      by_cases c2 : 1 ≤ ((datL fd mk wk nf).length : Int) ∧ ((datL fd mk wk nf).length : Int) ≤ 12
      · rw [if_neg (by omega)] at ez ⊢
        first | omega | (rw [if_pos (by omega)]; done) | (rw [if_neg (by omega)]; done)
      · rw [if_pos (by omega)] at ez ⊢
        omega
    · rw [if_pos (by omega)] at ez ⊢
      omega
end GapA
