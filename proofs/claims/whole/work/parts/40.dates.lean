/-! ===== the dated finds in line: both sides ===== -/
def kI (fd : Nat → Nat → Int) (i : Int) : Int := fd 2 i.toNat * 10000 + fd 1 i.toNat
def bpl (g : Int → Int) (x : Int) : List Int → Nat
  | [] => 0
  | y :: l => if bpl g x l = 0 then (if g y ≤ x then 1 else 0) else bpl g x l + 1
theorem bpl_le (g : Int → Int) (x : Int) : ∀ L : List Int, bpl g x L ≤ L.length
  | [] => Nat.le_refl 0
  | y :: l => by
    have := bpl_le g x l
    unfold bpl
    rw [List.length_cons]
    split
    · split <;> omega
    · omega
theorem bpl_gt (g : Int → Int) (x : Int) : ∀ (L : List Int) (j : Nat), bpl g x L ≤ j → j < L.length → x < g (L.getD j 0)
  | [], j, _, h => by simp at h
  | y :: l, j, h, hj => by
    unfold bpl at h
    rw [List.length_cons] at hj
    split at h
    · rename_i h0
      match j, h, hj with
      | 0, h, _ =>
        split at h
        · omega
        · show x < g y
          omega
      | j + 1, h, hj => exact bpl_gt g x l j (by omega) (by omega)
    · match j, h, hj with
      | 0, h, _ => omega
      | j + 1, h, hj => exact bpl_gt g x l j (by omega) (by omega)
theorem bpl_low (g : Int → Int) (x : Int) : ∀ (L : List Int), 0 < bpl g x L → g (L.getD (bpl g x L - 1) 0) ≤ x
  | [], h => by simp [bpl] at h
  | y :: l, h => by
    have ih := bpl_low g x l
    unfold bpl at h ⊢
    split
    · rename_i h0
      rw [if_pos h0] at h
      split at h
      · rename_i hy
        rw [if_pos hy]
        exact hy
      · omega
    · rename_i h0
      rw [show bpl g x l + 1 - 1 = (bpl g x l - 1) + 1 by omega]
      exact ih (by omega)
theorem bpl_uniq {g : Int → Int} {x : Int} {L : List Int} {p : Nat} (hp : p ≤ L.length) (h1 : ∀ j : Nat, p ≤ j → j < L.length → x < g (L.getD j 0)) (h2 : 0 < p → g (L.getD (p - 1) 0) ≤ x) : p = bpl g x L := by
  have a := bpl_le g x L
  rcases Nat.lt_trichotomy p (bpl g x L) with q | q | q
  · have := h1 (bpl g x L - 1) (by omega) (by omega)
    have := bpl_low g x L (by omega)
    omega
  · exact q
  · have := bpl_gt g x L (p - 1) (by omega) (by omega)
    have := h2 (by omega)
    omega
def insB (g : Int → Int) (x : Int) (L : List Int) : List Int := L.take (bpl g (g x) L) ++ x :: L.drop (bpl g (g x) L)
def datL (fd : Nat → Nat → Int) (mk lim : Int) : Nat → List Int
  | 0 => []
  | i + 1 => if (fd 0 i = mk ∧ fd 5 i = 0) ∧ 0 ≤ fd 2 i ∧ fd 2 i ≤ lim - 1 then insB (kI fd) (i : Int) (datL fd mk lim i) else datL fd mk lim i
theorem datL_len (fd : Nat → Nat → Int) (mk lim : Int) : ∀ n, (datL fd mk lim n).length ≤ n
  | 0 => Nat.le_refl 0
  | n + 1 => by
    have ih := datL_len fd mk lim n
    unfold datL
    split
    · unfold insB
      rw [len_ins (bpl_le _ _ _)]
      omega
    · omega
theorem datL_mem {fd : Nat → Nat → Int} {mk lim : Int} : ∀ {n : Nat} {y : Int}, y ∈ datL fd mk lim n → ∃ i : Nat, i < n ∧ y = (i : Int) ∧ 0 ≤ fd 2 i ∧ fd 2 i ≤ lim - 1
  | 0, y, h => by simp [datL] at h
  | n + 1, y, h => by
    unfold datL at h
    split at h
    · rename_i hc
      unfold insB at h
      rcases List.mem_append.mp h with q | q
      · obtain ⟨i, a, b⟩ := datL_mem (List.mem_of_mem_take q)
        exact ⟨i, by omega, b⟩
      · rcases List.mem_cons.mp q with w | w
        · exact ⟨n, by omega, w, hc.2⟩
        · obtain ⟨i, a, b⟩ := datL_mem (List.mem_of_mem_drop w)
          exact ⟨i, by omega, b⟩
    · obtain ⟨i, a, b⟩ := datL_mem h
      exact ⟨i, by omega, b⟩
theorem datL_at {fd : Nat → Nat → Int} {mk lim : Int} {n j : Nat} (h : j < (datL fd mk lim n).length) : ∃ i : Nat, i < n ∧ (datL fd mk lim n).getD j 0 = (i : Int) ∧ 0 ≤ fd 2 i ∧ fd 2 i ≤ lim - 1 := datL_mem (getD_mem h)
def lineAt (mem : Mem) (fd : Nat → Nat → Int) (L : List Int) : Prop := mem 33 1 = (L.length : Int) ∧ ∀ j : Nat, j < L.length → mem 34 (j : Int) = kI fd (L.getD j 0)
def rowAt (mem : Mem) (L : List Int) : Prop := mem 88 22 = (L.length : Int) ∧ ∀ j : Nat, j < L.length → mem 98 (j : Int) = L.getD j 0
def onLn (mem m : Mem) : Prop := (∀ a, a ≠ 33 → a ≠ 34 → m a = mem a) ∧ ∀ j, j ≠ 1 → m 33 j = mem 33 j
theorem onLn.tr {m1 m2 m3 : Mem} (h1 : onLn m1 m2) (h2 : onLn m2 m3) : onLn m1 m3 := ⟨fun a ha hb => (h2.1 a ha hb).trans (h1.1 a ha hb), fun j hj => (h2.2 j hj).trans (h1.2 j hj)⟩
theorem onLn.rf {m : Mem} : onLn m m := ⟨fun _ _ _ => rfl, fun _ _ => rfl⟩
theorem onO.tr {js : Int} {c : Nat} {m1 m2 m3 : Mem} (h1 : onO js c m1 m2) (h2 : onO js c m2 m3) : onO js c m1 m3 := ⟨fun a ha hb => (h2.1 a ha hb).trans (h1.1 a ha hb), fun j hj => (h2.2 j hj).trans (h1.2 j hj)⟩
section DatesA
variable {X : Nat × (Int → Int)} {mem : Mem} {nf : Nat} {fd : Nat → Nat → Int}
theorem cm_X2_putInLine {L : List Int} {x : Int} (hL : lineAt mem fd L) (hlen : L.length < 60) : CM X (0, 0) 0 mX2_putInLine G0 [vr 33, vi (kI fd x)] mem (pV G0 fun m => lineAt m fd (insB (kI fd) x L) ∧ onLn mem m) := by
  obtain ⟨hs, hrow⟩ := hL
  have hpl := bpl_le (kI fd) (kI fd x) L
  refine CM.of (by decide +kernel) 1 (Nat.le_of_ble_eq_true rfl) ?_
  show ZZ X (0, 0) 0 mX2_putInLine G0 0 [vr 33, vi (kI fd x), vd] [] mem _
  have shift : ∀ (i : Nat) (m : Mem), i ≤ L.length → onLn mem m → m 33 1 = (L.length : Int) → (∀ j : Nat, i ≤ j → j < L.length → kI fd x < kI fd (L.getD j 0)) → (∀ j : Nat, j < i → j < L.length → m 34 (j : Int) = kI fd (L.getD j 0)) → (∀ j : Nat, i < j → j ≤ L.length → m 34 (j : Int) = kI fd (L.getD (j - 1) 0)) →
      ZZ X (0, 0) 0 mX2_putInLine G0 18 [vr 33, vi (kI fd x), vi (i : Int)] [] m (pV G0 fun m => lineAt m fd (insB (kI fd) x L) ∧ onLn mem m) := by
    have put : ∀ (i : Nat) (m : Mem), i ≤ L.length → onLn mem m → m 33 1 = (L.length : Int) → i = bpl (kI fd) (kI fd x) L → (∀ j : Nat, j < i → j < L.length → m 34 (j : Int) = kI fd (L.getD j 0)) → (∀ j : Nat, i < j → j ≤ L.length → m 34 (j : Int) = kI fd (L.getD (j - 1) 0)) →
      ZZ X (0, 0) 0 mX2_putInLine G0 54 [vr 33, vi (kI fd x), vi (i : Int)] [] m (pV G0 fun m => lineAt m fd (insB (kI fd) x L) ∧ onLn mem m) := by
      intro i m hi hon hsz he hlo hhi
      refine z_aload_n dX2_putInLine_54 rfl ?_
      refine z_getR (ty := .int) dX2_putInLine_55 fl_X2_11 (by first | rfl | assumption) rfl rfl ?_
      refine z_iload_n dX2_putInLine_58 rfl ?_
      refine z_iload_n dX2_putInLine_59 rfl ?_
      refine z_iast dX2_putInLine_60 (by first | rfl | assumption) (by omega) (by omega) ?_
      refine z_aload_n dX2_putInLine_61 rfl ?_
      refine z_dup dX2_putInLine_62 (by intro z q; cases q) ?_
      refine z_gI 1 dX2_putInLine_63 fl_X2_26 (by first | rfl | assumption) rfl rfl ?_
      rw [mset_ne _ (by decide), hsz]
      refine z_iconst dX2_putInLine_66 (by decide) ?_
      refine z_iadd dX2_putInLine_67 (by omega) ?_
      refine z_pI 1 dX2_putInLine_68 fm_X2_26 (by first | rfl | assumption) rfl rfl ?_
      refine z_vret dX2_putInLine_71 rfl ?_
      refine ⟨rfl, rfl, ⟨?_, ?_⟩, hon.tr ⟨fun a ha hb => by rw [mset_ne _ ha, mset_ne _ hb], fun j hj => by rw [mset_nej _ _ hj, mset_ne _ (by decide)]⟩⟩
      · rw [mset_eq]; unfold insB; rw [len_ins hpl]; omega
      · unfold insB
        intro j hj
        rw [len_ins hpl] at hj
        rw [getD_ins hpl hj, mset_ne _ (by decide)]
        rw [← he]
        by_cases c1 : j < i
        · rw [if_pos c1, mset_nej _ _ (by omega)]
          exact hlo j c1 (by omega)
        · rw [if_neg c1]
          by_cases c2 : j = i
          · rw [if_pos c2, c2, mset_eq]
          · rw [if_neg c2, mset_nej _ _ (by omega)]
            exact hhi j (by omega) (by omega)
    intro i
    induction i with
    | zero =>
      intro m hi hon hsz hgt hlo hhi
      refine z_iload_n dX2_putInLine_18 rfl ?_
      refine z_if_le 54 dX2_putInLine_19 (by decide) (fun h19 => ?_) (fun h19 => ?_)
      · exact put 0 m hi hon hsz (bpl_uniq hi hgt (fun q => by omega)) hlo hhi
      · omega
    | succ i ih =>
      intro m hi hon hsz hgt hlo hhi
      have e1 : ((i + 1 : Nat) : Int) - 1 = (i : Int) := by omega
      refine z_iload_n dX2_putInLine_18 rfl ?_
      refine z_if_le 54 dX2_putInLine_19 (by decide) (fun h19 => ?_) (fun h19 => ?_)
      · omega
      · refine z_aload_n dX2_putInLine_22 rfl ?_
        refine z_getR (ty := .int) dX2_putInLine_23 fl_X2_11 (by first | rfl | assumption) rfl rfl ?_
        refine z_iload_n dX2_putInLine_26 rfl ?_
        refine z_iconst dX2_putInLine_27 (by decide) ?_
        refine z_isub dX2_putInLine_28 (by omega) ?_
        rw [e1]
        refine z_iald dX2_putInLine_29 (by first | rfl | assumption) (by omega) (by omega) ?_
        rw [hlo i (by omega) (by omega)]
        refine z_iload_n dX2_putInLine_30 rfl ?_
        refine z_icmp_le 54 dX2_putInLine_31 (by decide) (fun h31 => ?_) (fun h31 => ?_)
        · exact put (i + 1) m hi hon hsz (bpl_uniq hi hgt (fun q => h31)) hlo hhi
        · refine z_aload_n dX2_putInLine_34 rfl ?_
          refine z_getR (ty := .int) dX2_putInLine_35 fl_X2_11 (by first | rfl | assumption) rfl rfl ?_
          refine z_iload_n dX2_putInLine_38 rfl ?_
          refine z_aload_n dX2_putInLine_39 rfl ?_
          refine z_getR (ty := .int) dX2_putInLine_40 fl_X2_11 (by first | rfl | assumption) rfl rfl ?_
          refine z_iload_n dX2_putInLine_43 rfl ?_
          refine z_iconst dX2_putInLine_44 (by decide) ?_
          refine z_isub dX2_putInLine_45 (by omega) ?_
          rw [e1]
          refine z_iald dX2_putInLine_46 (by first | rfl | assumption) (by omega) (by omega) ?_
          rw [hlo i (by omega) (by omega)]
          refine z_iast dX2_putInLine_47 (by first | rfl | assumption) (by omega) (by omega) ?_
          refine z_iinc dX2_putInLine_48 rfl (by omega) (by decide) rfl ?_
          dsimp only [List.set]
          refine z_goto 18 dX2_putInLine_51 (by decide) ?_
          rw [show ((i + 1 : Nat) : Int) + -1 = (i : Int) by omega]
          refine ih _ (by omega) (hon.tr ⟨fun a ha hb => mset_ne _ hb _ _, fun j hj => by rw [mset_ne _ (by decide)]⟩) (by rw [mset_ne _ (by decide)]; exact hsz) (fun j a b => ?_) (fun j a b => ?_) (fun j a b => ?_)
          · by_cases e : j = i
            · subst e; omega
            · exact hgt j (by omega) b
          · rw [mset_nej _ _ (by omega)]
            exact hlo j (by omega) b
          · by_cases e : j = i + 1
            · subst e; rw [mset_eq]; rfl
            · rw [mset_nej _ _ (by omega)]
              exact hhi j (by omega) b
  refine z_aload_n dX2_putInLine_0 rfl ?_
  refine z_gI 1 dX2_putInLine_1 fl_X2_26 (by first | rfl | assumption) rfl rfl ?_
  rw [hs]
  refine z_aload_n dX2_putInLine_4 rfl ?_
  refine z_getR (ty := .int) dX2_putInLine_5 fl_X2_11 (by first | rfl | assumption) rfl rfl ?_
  refine z_alen dX2_putInLine_8 (by first | rfl | assumption) (by decide) ?_
  refine z_icmp_lt 13 dX2_putInLine_9 (by decide) (fun h9 => ?_) (fun h9 => ?_)
  · refine z_aload_n dX2_putInLine_13 rfl ?_
    refine z_gI 1 dX2_putInLine_14 fl_X2_26 (by first | rfl | assumption) rfl rfl ?_
    rw [hs]
    refine z_istore_n dX2_putInLine_17 (by decide) rfl ?_
    dsimp only [List.set]
    exact shift L.length mem (Nat.le_refl _) onLn.rf hs (fun j a b => by omega) (fun j _ b => hrow j b) (fun j a b => by omega)
  · omega
theorem cm_X2_lineUp {mk : Int} (hf : finC mem nf fd) (hr : finR nf fd) : CM X (0, 0) 1 mX2_lineUp G0 [vr 33, vr 1, vi mk] mem (pV G0 fun m => lineAt m fd (datL fd mk 30 nf) ∧ onLn mem m) := by
  refine CM.of (by decide +kernel) 1 (Nat.le_of_ble_eq_true rfl) ?_
  show ZZ X (0, 0) 1 mX2_lineUp G0 0 [vr 33, vr 1, vi mk, vd] [] mem _
  have hn := hf.1
  have loop : ∀ (d i : Nat) (m : Mem), i + d = nf → lineAt m fd (datL fd mk 30 i) → onLn mem m → ZZ X (0, 0) 1 mX2_lineUp G0 7 [vr 33, vr 1, vi mk, vi (i : Int)] [] m (pV G0 fun m => lineAt m fd (datL fd mk 30 nf) ∧ onLn mem m) := by
    intro d
    induction d with
    | zero =>
      intro i m hi hL hon
      have hfm : finC m nf fd := hf.off (fun a h1 h2 => hon.1 a (by omega) (by omega))
      have hs := hfm.2.1
      have : i = nf := by omega
      subst this
      refine z_iload_n dX2_lineUp_7 rfl ?_
      refine z_aload_n dX2_lineUp_8 rfl ?_
      refine z_gI 6 dX2_lineUp_9 fl_X2_30 (by first | rfl | assumption) rfl rfl ?_
      rw [hs]
      refine z_icmp_ge 61 dX2_lineUp_12 (by decide) (fun h12 => ?_) (fun h12 => ?_)
      · refine z_vret dX2_lineUp_61 rfl ?_
        exact ⟨rfl, rfl, hL, hon⟩
      · omega
    | succ d ih =>
      intro i m hi hL hon
      have hfm : finC m nf fd := hf.off (fun a h1 h2 => hon.1 a (by omega) (by omega))
      have hs := hfm.2.1
      have r1 : m 3 (i : Int) = fd 1 i := hfm.2.2.1 1 i (by decide) (by omega)
      have r2 : m 4 (i : Int) = fd 2 i := hfm.2.2.1 2 i (by decide) (by omega)
      have b := hr i (by omega)
      have hle := datL_len fd mk 30 i
      have ek : fd 2 i * 10000 + fd 1 i = kI fd (i : Int) := rfl
      have skip : ¬ ((fd 0 i = mk ∧ fd 5 i = 0) ∧ 0 ≤ fd 2 i ∧ fd 2 i ≤ (30 : Int) - 1) → datL fd mk 30 (i + 1) = datL fd mk 30 i := fun q => if_neg q
      have take : ((fd 0 i = mk ∧ fd 5 i = 0) ∧ 0 ≤ fd 2 i ∧ fd 2 i ≤ (30 : Int) - 1) → datL fd mk 30 (i + 1) = insB (kI fd) (i : Int) (datL fd mk 30 i) := fun q => if_pos q
      refine z_iload_n dX2_lineUp_7 rfl ?_
      refine z_aload_n dX2_lineUp_8 rfl ?_
      refine z_gI 6 dX2_lineUp_9 fl_X2_30 (by first | rfl | assumption) rfl rfl ?_
      rw [hs]
      refine z_icmp_ge 61 dX2_lineUp_12 (by decide) (fun h12 => ?_) (fun h12 => ?_)
      · omega
      · refine z_aload_n dX2_lineUp_15 rfl ?_
        refine z_iload_n dX2_lineUp_16 rfl ?_
        refine z_iload_n dX2_lineUp_17 rfl ?_
        refine z_V2i dX2_lineUp_18 ok_X3_countsFor lk_X2_33 (by first | rfl | assumption) rfl rfl (Nat.le_of_ble_eq_true rfl) (by decide) (cm_X3_countsFor hfm (show i < nf by omega)) (fun z1 m1 hm1 => ?_)
        obtain ⟨hz1, rfl⟩ := hm1
        refine z_if_eq 55 dX2_lineUp_21 (by decide) (fun h21 => ?_) (fun h21 => ?_)
        · refine z_iinc dX2_lineUp_55 rfl (by omega) (by decide) rfl ?_
          dsimp only [List.set]
          refine z_goto 7 dX2_lineUp_58 (by decide) ?_
          first | exact ih (i + 1) _ (by omega) (by rw [take (by omega)]; exact hm2.1) (hon.tr hm2.2) | exact ih (i + 1) _ (by omega) (by rw [skip (by omega)]; exact hL) hon
        · refine z_aload_n dX2_lineUp_24 rfl ?_
          refine z_getR (ty := .int) dX2_lineUp_25 fl_X2_37 (by first | rfl | assumption) rfl rfl ?_
          refine z_iload_n dX2_lineUp_28 rfl ?_
          refine z_iald dX2_lineUp_29 (by first | rfl | assumption) (by omega) (by omega) ?_
          rw [r2]
          refine z_iconst dX2_lineUp_30 (by decide) ?_
          refine z_icmp_eq 55 dX2_lineUp_31 (by decide) (fun h31 => ?_) (fun h31 => ?_)
          · refine z_iinc dX2_lineUp_55 rfl (by omega) (by decide) rfl ?_
            dsimp only [List.set]
            refine z_goto 7 dX2_lineUp_58 (by decide) ?_
            first | exact ih (i + 1) _ (by omega) (by rw [take (by omega)]; exact hm2.1) (hon.tr hm2.2) | exact ih (i + 1) _ (by omega) (by rw [skip (by omega)]; exact hL) hon
          · refine z_aload_n dX2_lineUp_34 rfl ?_
            refine z_aload_n dX2_lineUp_35 rfl ?_
            refine z_getR (ty := .int) dX2_lineUp_36 fl_X2_37 (by first | rfl | assumption) rfl rfl ?_
            refine z_iload_n dX2_lineUp_39 rfl ?_
            refine z_iald dX2_lineUp_40 (by first | rfl | assumption) (by omega) (by omega) ?_
            rw [r2]
            refine z_sipush dX2_lineUp_41 (by decide) ?_
            refine z_imul dX2_lineUp_44 (by omega) ?_
            refine z_aload_n dX2_lineUp_45 rfl ?_
            refine z_getR (ty := .int) dX2_lineUp_46 fl_X2_40 (by first | rfl | assumption) rfl rfl ?_
            refine z_iload_n dX2_lineUp_49 rfl ?_
            refine z_iald dX2_lineUp_50 (by first | rfl | assumption) (by omega) (by omega) ?_
            rw [r1]
            refine z_iadd dX2_lineUp_51 (by omega) ?_
            rw [ek]
            refine z_V1v dX2_lineUp_52 ok_X2_putInLine lk_X2_43 (by first | rfl | assumption) rfl rfl (Nat.le_of_ble_eq_true rfl) (by decide) (cm_X2_putInLine hL (by omega)) (fun m2 hm2 => ?_)
            refine z_iinc dX2_lineUp_55 rfl (by omega) (by decide) rfl ?_
            dsimp only [List.set]
            refine z_goto 7 dX2_lineUp_58 (by decide) ?_
            first | exact ih (i + 1) _ (by omega) (by rw [take (by omega)]; exact hm2.1) (hon.tr hm2.2) | exact ih (i + 1) _ (by omega) (by rw [skip (by omega)]; exact hL) hon
  refine z_aload_n dX2_lineUp_0 rfl ?_
  refine z_iconst dX2_lineUp_1 (by decide) ?_
  refine z_pI 1 dX2_lineUp_2 fm_X2_26 (by first | rfl | assumption) rfl rfl ?_
  refine z_iconst dX2_lineUp_5 (by decide) ?_
  refine z_istore_n dX2_lineUp_6 (by decide) rfl ?_
  dsimp only [List.set]
  exact loop nf 0 _ (by omega) ⟨mset_eq _ _ _ _, fun j h => by simp [datL] at h⟩ ⟨fun a ha _ => mset_ne _ ha _ _, fun j hj => mset_nej _ _ hj _⟩
end DatesA
