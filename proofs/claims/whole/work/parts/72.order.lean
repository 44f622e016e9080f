/-! ===== the class's order of letters ===== -/
theorem rw6 : ∀ b : Fin 4, rwF ((b.val : Nat) : Int) = ((6 ^ b.val : Nat) : Int) := by decide +kernel
/-- the letters in their order, the others behind -/
def ordAt (m : Mem) (O : List Nat) : Prop := m 22 10 = (O.length : Int) ∧ (∀ i : Nat, i < O.length → m 28 (i : Int) = ((O.getD i 0 : Nat) : Int)) ∧ (∀ i : Nat, i < O.length → m 29 ((O.getD i 0 : Nat) : Int) = (i : Int)) ∧ ∀ a : Nat, a < 6 → a ∉ O → m 29 (a : Int) = -1
def ordP (O R : List Nat) : Prop := (O ++ R).Perm six
theorem ordP.nd {O R : List Nat} (h : ordP O R) : (O ++ R).Nodup := h.nodup_iff.mpr (by decide)
theorem ordP.len {O R : List Nat} (h : ordP O R) : O.length + R.length = 6 := by
  have := h.length_eq
  rw [List.length_append] at this
  exact this
theorem ordP.lt {O R : List Nat} (h : ordP O R) {a : Nat} (ha : a ∈ O ++ R) : a < 6 := by
  have := h.mem_iff.mp ha
  simp only [six, List.mem_cons, List.not_mem_nil, or_false] at this
  omega
theorem ordP.all {O R : List Nat} (h : ordP O R) {a : Nat} (ha : a < 6) : a ∈ O ∨ a ∈ R := by
  have : a ∈ six := by
    simp only [six, List.mem_cons, List.not_mem_nil, or_false]
    omega
  exact List.mem_append.mp (h.mem_iff.mpr this)
theorem ordP.dj {O R : List Nat} (h : ordP O R) {a : Nat} (h1 : a ∈ O) (h2 : a ∈ R) : False := (List.nodup_append.mp h.nd).2.2 a h1 a h2 rfl
theorem ordP.put {O R : List Nat} (h : ordP O R) {a : Nat} (ha : a < 6) (hn : a ∉ O) : ordP (O ++ [a]) (R.erase a) := by
  have hR : a ∈ R := by
    rcases h.all ha with q | q
    · exact absurd q hn
    · exact q
  have e := List.perm_cons_erase hR
  unfold ordP
  rw [List.append_assoc]
  exact (List.Perm.append_left O e.symm).trans h
theorem getD_snoc {O : List Nat} {a i : Nat} (h : i < O.length + 1) : (O ++ [a]).getD i 0 = if i < O.length then O.getD i 0 else a := by
  by_cases q : i < O.length
  · rw [if_pos q, List.getD_eq_getElem?_getD, List.getD_eq_getElem?_getD, List.getElem?_append_left q]
  · rw [if_neg q, show i = O.length by omega, List.getD_eq_getElem?_getD, List.getElem?_append_right (Nat.le_refl _), Nat.sub_self]
    rfl
theorem getD_memN {O : List Nat} {i : Nat} (h : i < O.length) : O.getD i 0 ∈ O := by
  rw [List.getD_eq_getElem?_getD, List.getElem?_eq_getElem h]
  exact List.getElem_mem h
theorem mem_getD {O : List Nat} {a : Nat} (h : a ∈ O) : ∃ i : Nat, i < O.length ∧ O.getD i 0 = a := by
  obtain ⟨i, hi, he⟩ := List.getElem_of_mem h
  refine ⟨i, hi, ?_⟩
  rw [List.getD_eq_getElem?_getD, List.getElem?_eq_getElem hi]
  exact he
def ordT (O : List Nat) (c l : Nat) : Nat → List Nat
  | 0 => O
  | i + 1 => if ltr c (l - 1 - i) ∈ ordT O c l i then ordT O c l i else ordT O c l i ++ [ltr c (l - 1 - i)]
theorem ordT_pre (O : List Nat) (c l : Nat) : ∀ i : Nat, ∃ S, ordT O c l i = O ++ S
  | 0 => ⟨[], (List.append_nil O).symm⟩
  | i + 1 => by
    obtain ⟨S, hS⟩ := ordT_pre O c l i
    show ∃ S, (if ltr c (l - 1 - i) ∈ ordT O c l i then ordT O c l i else ordT O c l i ++ [ltr c (l - 1 - i)]) = O ++ S
    split
    · exact ⟨S, hS⟩
    · exact ⟨S ++ [ltr c (l - 1 - i)], by rw [hS, List.append_assoc]⟩
theorem ordT_mem (O : List Nat) (c l : Nat) : ∀ i : Nat, ∀ i', i' < i → ltr c (l - 1 - i') ∈ ordT O c l i
  | 0, i', h => by omega
  | i + 1, i', h => by
    show _ ∈ (if _ then _ else _)
    by_cases q : i' = i
    · subst q
      split
      · assumption
      · exact List.mem_append.mpr (Or.inr List.mem_cons_self)
    · have := ordT_mem O c l i i' (by omega)
      split
      · exact this
      · exact List.mem_append.mpr (Or.inl this)
theorem ordT_all (O : List Nat) {c l j : Nat} (h : j < l) : ltr c j ∈ ordT O c l l := by
  have := ordT_mem O c l l (l - 1 - j) (by omega)
  rw [show l - 1 - (l - 1 - j) = j by omega] at this
  exact this
section Ord
variable {X : Nat × (Int → Int)} {mem : Mem} {G : List GC}
theorem cm_J7_fillI {a n : Nat} {rs : List (Option Nat)} {x : Int} (hg : G[a]? = some (1, n, rs)) (hn : n < 1000000) : CM X (0, 0) 0 mJ7_fill_53178 G [vr a, vi x] mem (pV G fun m => (∀ j : Nat, j < n → m a (j : Int) = x) ∧ ∀ y, y ≠ a → m y = mem y) := by
  refine CM.of (by decide +kernel) 2 (Nat.le_of_ble_eq_true rfl) ?_
  show ZZ X (0, 0) 0 mJ7_fill_53178 G 0 [vr a, vi x, vd, vd] [] mem _
  have loop : ∀ (d i : Nat) (m : Mem), i + d = n → (∀ j : Nat, j < i → m a (j : Int) = x) → (∀ y, y ≠ a → m y = mem y) → ZZ X (0, 0) 0 mJ7_fill_53178 G 5 [vr a, vi x, vi (i : Int), vi (n : Int)] [] m (pV G fun m => (∀ j : Nat, j < n → m a (j : Int) = x) ∧ ∀ y, y ≠ a → m y = mem y) := by
    intro d
    induction d with
    | zero =>
      intro i m hi h1 h2
      have : i = n := by omega
      subst this
      refine z_iload_n dJ7_fill_53178_5 rfl ?_
      refine z_iload_n dJ7_fill_53178_6 rfl ?_
      refine z_icmp_ge 20 dJ7_fill_53178_7 (by decide) (fun h7 => ?_) (fun h7 => ?_)
      · refine z_vret dJ7_fill_53178_20 rfl ?_
        exact ⟨rfl, rfl, h1, h2⟩
      · omega
    | succ d ih =>
      intro i m hi h1 h2
      refine z_iload_n dJ7_fill_53178_5 rfl ?_
      refine z_iload_n dJ7_fill_53178_6 rfl ?_
      refine z_icmp_ge 20 dJ7_fill_53178_7 (by decide) (fun h7 => ?_) (fun h7 => ?_)
      · omega
      · refine z_aload_n dJ7_fill_53178_10 rfl ?_
        refine z_iload_n dJ7_fill_53178_11 rfl ?_
        refine z_iload_n dJ7_fill_53178_12 rfl ?_
        refine z_iast dJ7_fill_53178_13 (by first | rfl | assumption) (by omega) (by omega) ?_
        refine z_iinc dJ7_fill_53178_14 rfl (by omega) (by decide) rfl ?_
        dsimp only [List.set]
        refine z_goto 5 dJ7_fill_53178_17 (by decide) ?_
        refine ih (i + 1) _ (by omega) (fun j hj => ?_) (fun y hy => (mset_ne _ hy _ _).trans (h2 y hy))
        by_cases e : j = i
        · subst e; exact mset_eq _ _ _ _
        · rw [mset_nej _ _ (by omega)]; exact h1 j (by omega)
  refine z_iconst dJ7_fill_53178_0 (by decide) ?_
  refine z_istore_n dJ7_fill_53178_1 (by decide) rfl ?_
  dsimp only [List.set]
  refine z_aload_n dJ7_fill_53178_2 rfl ?_
  refine z_alen dJ7_fill_53178_3 hg (by omega) ?_
  refine z_istore_n dJ7_fill_53178_4 (by decide) rfl ?_
  dsimp only [List.set]
  exact loop n 0 _ (by omega) (fun j hj => by omega) (fun _ _ => rfl)
theorem cm_X10_letterAt {l c i : Nat} (hl : l ≤ 4) (hi : i < l) (hc : c < 1296) : CM X (0, 0) 1 mX10_letterAt G0 [vi (l : Int), vi (c : Int), vi (i : Int)] mem (pI G0 fun z m => z = ((ltr c (l - 1 - i) : Nat) : Int) ∧ m = mem) := by
  obtain ⟨b, hb⟩ : ∃ b, b = l - 1 - i := ⟨_, rfl⟩
  have hb4 : b < 4 := by omega
  have h6 := rw6 ⟨b, hb4⟩
  dsimp only at h6
  have hp : (0 : Int) < ((6 ^ b : Nat) : Int) := by have := Nat.pow_pos (n := b) (show 0 < 6 by decide); omega
  rw [← hb]
  unfold ltr
  refine CM.of (by decide +kernel) 1 (Nat.le_of_ble_eq_true rfl) ?_
  show ZZ X (0, 0) 1 mX10_letterAt G0 0 [vi (l : Int), vi (c : Int), vi (i : Int), vd] [] mem _
  refine z_iload_n dX10_letterAt_0 rfl ?_
  refine z_iconst dX10_letterAt_1 (by decide) ?_
  refine z_isub dX10_letterAt_2 (by omega) ?_
  refine z_iload_n dX10_letterAt_3 rfl ?_
  refine z_isub dX10_letterAt_4 (by omega) ?_
  rw [show (l : Int) - 1 - (i : Int) = (b : Int) by omega]
  refine z_istore_n dX10_letterAt_5 (by decide) rfl ?_
  dsimp only [List.set]
  refine z_iload_n dX10_letterAt_6 rfl ?_
  refine z_iconst dX10_letterAt_7 (by decide) ?_
  refine z_iconst dX10_letterAt_8 (by decide) ?_
  refine z_S3i dX10_letterAt_9 ok_X11_within lk_X10_42 (Nat.le_of_ble_eq_true rfl) (by decide) (cm_X11_within) (fun z1 m1 hm1 => ?_)
  obtain ⟨hz1, rfl⟩ := hm1
  refine z_if_eq 28 dX10_letterAt_12 (by decide) (fun h12 => ?_) (fun h12 => ?_)
  · exact absurd ⟨by omega, by omega⟩ (hz1.no h12)
  · refine z_iload_n dX10_letterAt_15 rfl ?_
    refine z_gets _ sl_X10_46 dX10_letterAt_16 ?_
    refine z_iload_n dX10_letterAt_19 rfl ?_
    refine z_sald dX10_letterAt_20 rfl (by omega) (by omega) ?_
    rw [show ((5, rwF) : Nat × (Int → Int)).snd (b : Int) = ((6 ^ b : Nat) : Int) from h6]
    refine z_idiv dX10_letterAt_21 (by omega) hp ?_
    have hq : 0 ≤ (c : Int) / ((6 ^ b : Nat) : Int) := Int.ediv_nonneg (by omega) (by omega)
    refine z_bipush dX10_letterAt_22 (by decide) ?_
    refine z_iremp dX10_letterAt_24 (by omega) (by omega) ?_
    refine z_goto 29 dX10_letterAt_25 (by decide) ?_
    refine z_iret dX10_letterAt_29 rfl ?_
    exact ⟨rfl, _, rfl, rfl, rfl⟩
def onO2 (mem m : Mem) : Prop := (∀ x, x ≠ 22 → x ≠ 28 → x ≠ 29 → m x = mem x) ∧ ∀ j : Int, j ≠ 10 → m 22 j = mem 22 j
theorem onO2.rf : onO2 mem mem := ⟨fun _ _ _ _ => rfl, fun _ _ => rfl⟩
theorem onO2.tr {m1 m2 : Mem} (h : onO2 mem m1) (h2 : onO2 m1 m2) : onO2 mem m2 := ⟨fun x a b c => (h2.1 x a b c).trans (h.1 x a b c), fun j a => (h2.2 j a).trans (h.2 j a)⟩
theorem cm_X10_startOrder : CM X (0, 0) 1 mX10_startOrder G0 [vr 22] mem (pV G0 fun m => ordAt m [] ∧ onO2 mem m) := by
  refine CM.of (by decide +kernel) 0 (Nat.le_of_ble_eq_true rfl) ?_
  show ZZ X (0, 0) 1 mX10_startOrder G0 0 [vr 22] [] mem _
  refine z_aload_n dX10_startOrder_0 rfl ?_
  refine z_iconst dX10_startOrder_1 (by decide) ?_
  refine z_pI 10 dX10_startOrder_2 fm_X10_91 (by first | rfl | assumption) rfl rfl ?_
  refine z_aload_n dX10_startOrder_5 rfl ?_
  refine z_getR (ty := .int) dX10_startOrder_6 fl_X10_30 (by first | rfl | assumption) rfl rfl ?_
  refine z_iconst dX10_startOrder_9 (by decide) ?_
  refine z_S2v dX10_startOrder_10 ok_J7_fill_53178 lk_X10_81 (Nat.le_of_ble_eq_true rfl) (by decide) (cm_J7_fillI (n := 6) (rs := []) rfl (by decide)) (fun m1 hm1 => ?_)
  refine z_vret dX10_startOrder_13 rfl ?_
  refine ⟨rfl, rfl, ⟨?_, fun i hi => absurd hi (Nat.not_lt_zero i), fun i hi => absurd hi (Nat.not_lt_zero i), fun a ha _ => hm1.1 a ha⟩, fun x h1 h2 h3 => ?_, fun j hj => ?_⟩
  · rw [hm1.2 22 (by decide)]; exact mset_eq _ _ _ _
  · rw [hm1.2 x h3, mset_ne _ h1]
  · rw [hm1.2 22 (by decide), mset_nej _ _ hj]
theorem cm_X10_orderRow {O R : List Nat} {l c : Nat} (hO : ordAt mem O) (hP : ordP O R) (hl : l ≤ 4) (hc : c < 1296) : CM X (0, 0) 2 mX10_orderRow G0 [vr 22, vi (l : Int), vi (c : Int)] mem (pV G0 fun m => ordAt m (ordT O c l l) ∧ (∃ R', ordP (ordT O c l l) R') ∧ onO2 mem m) := by
  refine CM.of (by decide +kernel) 2 (Nat.le_of_ble_eq_true rfl) ?_
  show ZZ X (0, 0) 2 mX10_orderRow G0 0 [vr 22, vi (l : Int), vi (c : Int), vd, vd] [] mem _
  have loop : ∀ (e i : Nat) (m : Mem) (u4 : VV) (R : List Nat), i + e = l → ordAt m (ordT O c l i) → ordP (ordT O c l i) R → onO2 mem m → ZZ X (0, 0) 2 mX10_orderRow G0 2 [vr 22, vi (l : Int), vi (c : Int), vi (i : Int), u4] [] m (pV G0 fun m => ordAt m (ordT O c l l) ∧ (∃ R', ordP (ordT O c l l) R') ∧ onO2 mem m) := by
    intro e
    induction e with
    | zero =>
      intro i m u4 R hi hO hP ho
      have : i = l := by omega
      subst this
      refine z_iload_n dX10_orderRow_2 rfl ?_
      refine z_iload_n dX10_orderRow_3 rfl ?_
      refine z_icmp_ge 73 dX10_orderRow_4 (by decide) (fun h4 => ?_) (fun h4 => ?_)
      · refine z_vret dX10_orderRow_73 rfl ?_
        exact ⟨rfl, rfl, hO, ⟨R, hP⟩, ho⟩
      · omega
    | succ e ih =>
      intro i m u4 R hi hO hP ho
      obtain ⟨a, ha⟩ : ∃ a, a = ltr c (l - 1 - i) := ⟨_, rfl⟩
      have ha6 : a < 6 := by rw [ha]; exact ltr_lt _ _
      have hT : ordT O c l (i + 1) = if a ∈ ordT O c l i then ordT O c l i else ordT O c l i ++ [a] := by rw [ha]; rfl
      generalize hOi : ordT O c l i = T at *
      have hlen := hP.len
      refine z_kill 4 ?_
      dsimp only [List.set]
      refine z_iload_n dX10_orderRow_2 rfl ?_
      refine z_iload_n dX10_orderRow_3 rfl ?_
      refine z_icmp_ge 73 dX10_orderRow_4 (by decide) (fun h4 => ?_) (fun h4 => ?_)
      · omega
      · refine z_iload_n dX10_orderRow_7 rfl ?_
        refine z_iload_n dX10_orderRow_8 rfl ?_
        refine z_iload_n dX10_orderRow_9 rfl ?_
        refine z_S3i dX10_orderRow_10 ok_X10_letterAt lk_X10_94 (Nat.le_of_ble_eq_true rfl) (by decide) (cm_X10_letterAt hl (by omega : i < l) hc) (fun z1 m1 hm1 => ?_)
        obtain ⟨hz1, rfl⟩ := hm1
        rw [← ha] at hz1
        subst hz1
        refine z_istore dX10_orderRow_13 (by decide) rfl ?_
        dsimp only [List.set]
        refine z_aload_n dX10_orderRow_15 rfl ?_
        refine z_getR (ty := .int) dX10_orderRow_16 fl_X10_30 (by first | rfl | assumption) rfl rfl ?_
        refine z_iload dX10_orderRow_19 rfl ?_
        refine z_iald dX10_orderRow_21 (by first | rfl | assumption) (by omega) (by omega) ?_
        refine z_iconst dX10_orderRow_22 (by decide) ?_
        by_cases q : a ∈ T
        · obtain ⟨k, hk, hka⟩ := mem_getD q
          have h29 := hO.2.2.1 k hk
          rw [hka] at h29
          rw [h29]
          rw [if_pos q] at hT
          refine z_icmp_ne 67 dX10_orderRow_23 (by decide) (fun h23 => ?_) (fun h23 => ?_)
          · refine z_iinc dX10_orderRow_67 rfl (by omega) (by decide) rfl ?_
            dsimp only [List.set]
            refine z_goto 2 dX10_orderRow_70 (by decide) ?_
            exact ih (i + 1) _ _ R (by omega) (by rw [hT]; exact hO) (by rw [hT]; exact hP) ho
          · omega
        rw [if_neg q] at hT
        have h29 := hO.2.2.2 a ha6 q
        have hP' := hP.put ha6 q
        have hlen' := hP'.len
        rw [List.length_append] at hlen'
        have hl1 : [a].length = 1 := rfl
        rw [h29]
        refine z_icmp_ne 67 dX10_orderRow_23 (by decide) (fun h23 => ?_) (fun h23 => ?_)
        · omega
        · refine z_aload_n dX10_orderRow_26 rfl ?_
          refine z_gI 10 dX10_orderRow_27 fl_X10_91 (by first | rfl | assumption) rfl rfl ?_
          rw [hO.1]
          refine z_bipush dX10_orderRow_30 (by decide) ?_
          refine z_icmp_ge 67 dX10_orderRow_32 (by decide) (fun h32 => ?_) (fun h32 => ?_)
          · omega
          · refine z_aload_n dX10_orderRow_35 rfl ?_
            refine z_getR (ty := .int) dX10_orderRow_36 fl_X10_30 (by first | rfl | assumption) rfl rfl ?_
            refine z_iload dX10_orderRow_39 rfl ?_
            refine z_aload_n dX10_orderRow_41 rfl ?_
            refine z_gI 10 dX10_orderRow_42 fl_X10_91 (by first | rfl | assumption) rfl rfl ?_
            rw [hO.1]
            refine z_iast dX10_orderRow_45 (by first | rfl | assumption) (by omega) (by omega) ?_
            refine z_aload_n dX10_orderRow_46 rfl ?_
            refine z_getR (ty := .int) dX10_orderRow_47 fl_X10_27 (by first | rfl | assumption) rfl rfl ?_
            refine z_aload_n dX10_orderRow_50 rfl ?_
            refine z_gI 10 dX10_orderRow_51 fl_X10_91 (by first | rfl | assumption) rfl rfl ?_
            rw [mset_ne _ (by decide), hO.1]
            refine z_iload dX10_orderRow_54 rfl ?_
            refine z_iast dX10_orderRow_56 (by first | rfl | assumption) (by omega) (by omega) ?_
            refine z_aload_n dX10_orderRow_57 rfl ?_
            refine z_dup dX10_orderRow_58 (by intro z q; cases q) ?_
            refine z_gI 10 dX10_orderRow_59 fl_X10_91 (by first | rfl | assumption) rfl rfl ?_
            rw [mset_ne _ (by decide), mset_ne _ (by decide), hO.1]
            refine z_iconst dX10_orderRow_62 (by decide) ?_
            refine z_iadd dX10_orderRow_63 (by omega) ?_
            refine z_pI 10 dX10_orderRow_64 fm_X10_91 (by first | rfl | assumption) rfl rfl ?_
            refine z_iinc dX10_orderRow_67 rfl (by omega) (by decide) rfl ?_
            dsimp only [List.set]
            refine z_goto 2 dX10_orderRow_70 (by decide) ?_
            rw [show (i : Int) + 1 = ((i + 1 : Nat) : Int) by omega]
            refine ih (i + 1) _ _ (R.erase a) (by omega) ?_ (by rw [hT]; exact hP') ?_
            · rw [hT]
              refine ⟨?_, fun k hk => ?_, fun k hk => ?_, fun b hb hn => ?_⟩
              · rw [mset_eq, List.length_append]; omega
              · rw [List.length_append] at hk
                rw [mset_ne _ (by decide), getD_snoc (by omega)]
                by_cases w : k < T.length
                · rw [if_pos w, mset_nej _ _ (by omega), mset_ne _ (by decide)]
                  exact hO.2.1 k w
                · rw [if_neg w, show k = T.length by omega]
                  exact mset_eq _ _ _ _
              · rw [List.length_append] at hk
                rw [mset_ne _ (by decide), mset_ne _ (by decide), getD_snoc (by omega)]
                by_cases w : k < T.length
                · rw [if_pos w, mset_nej _ _ (by intro t; exact q ((show T.getD k 0 = a by omega) ▸ getD_memN w))]
                  exact hO.2.2.1 k w
                · rw [if_neg w, show k = T.length by omega]
                  exact mset_eq _ _ _ _
              · rw [mset_ne _ (by decide), mset_ne _ (by decide), mset_nej _ _ (by intro t; exact hn (List.mem_append.mpr (Or.inr ((show b = a by omega) ▸ List.mem_cons_self))))]
                exact hO.2.2.2 b hb (fun t => hn (List.mem_append.mpr (Or.inl t)))
            · refine ho.tr ⟨fun x h1 h2 h3 => by rw [mset_ne _ h1, mset_ne _ h2, mset_ne _ h3], fun j hj => ?_⟩
              rw [mset_nej _ _ hj, mset_ne _ (by decide), mset_ne _ (by decide)]
  refine z_iconst dX10_orderRow_0 (by decide) ?_
  refine z_istore_n dX10_orderRow_1 (by decide) rfl ?_
  dsimp only [List.set]
  exact loop l 0 _ _ R (by omega) hO hP onO2.rf
end Ord
