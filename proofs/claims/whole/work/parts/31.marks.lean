/-! ===== NUMBERS of a maker: a rising list ===== -/
def plc (x : Int) : List Int → Nat
  | [] => 0
  | y :: l => if y < x then plc x l + 1 else 0
def insL (x : Int) (L : List Int) : List Int := if L[plc x L]? = some x then L else L.take (plc x L) ++ x :: L.drop (plc x L)
def gatL (fd : Nat → Nat → Int) (mk wo : Int) : Nat → List Int
  | 0 => []
  | i + 1 => if fd 0 i = mk ∧ fd 5 i = 0 ∧ (i : Int) ≠ wo then insL (fd 1 i) (gatL fd mk wo i) else gatL fd mk wo i
def rowIs (f : Int → Int) (L : List Int) : Prop := ∀ i : Nat, i < L.length → f (i : Int) = L.getD i 0
def srt (L : List Int) : Prop := ∀ i j : Nat, i < j → j < L.length → L.getD i 0 < L.getD j 0
theorem plc_le (x : Int) : ∀ L : List Int, plc x L ≤ L.length
  | [] => Nat.le_refl 0
  | y :: l => by
    unfold plc
    split
    · have := plc_le x l; simp; omega
    · simp
theorem plc_lt (x : Int) : ∀ (L : List Int) (i : Nat), i < plc x L → L.getD i 0 < x
  | [], i, h => by simp [plc] at h
  | y :: l, i, h => by
    unfold plc at h
    split at h
    · rename_i hy
      match i, h with
      | 0, _ => exact hy
      | i + 1, h => exact plc_lt x l i (by omega)
    · omega
theorem plc_ge (x : Int) : ∀ (L : List Int), plc x L < L.length → x ≤ L.getD (plc x L) 0
  | [], h => by simp at h
  | y :: l, h => by
    unfold plc at h ⊢
    split
    · rename_i hy
      rw [if_pos hy] at h
      exact plc_ge x l (by simpa using h)
    · rename_i hy
      show x ≤ y
      omega
theorem plc_uniq {x : Int} {L : List Int} {p : Nat} (h1 : ∀ j : Nat, j < p → L.getD j 0 < x) (h2 : p ≤ L.length) (h3 : p < L.length → x ≤ L.getD p 0) : p = plc x L := by
  have a := plc_le x L
  rcases Nat.lt_trichotomy p (plc x L) with q | q | q
  · have := plc_lt x L p q
    have := h3 (by omega)
    omega
  · exact q
  · have := h1 _ q
    have := plc_ge x L (by omega)
    omega
theorem getD_ins {L : List Int} {x : Int} {p j : Nat} (hp : p ≤ L.length) (hj : j < L.length + 1) : (L.take p ++ x :: L.drop p).getD j 0 = if j < p then L.getD j 0 else if j = p then x else L.getD (j - 1) 0 := by
  have ht : (L.take p).length = p := by simp; omega
  rw [List.getD_eq_getElem?_getD, List.getElem?_append]
  by_cases q : j < p
  · rw [if_pos (by omega), if_pos q, List.getElem?_take_of_lt q, List.getD_eq_getElem?_getD]
  · rw [if_neg (by omega), if_neg q, ht]
    by_cases e : j = p
    · subst e
      simp
    · rw [if_neg e, show j - p = (j - p - 1) + 1 by omega, List.getElem?_cons_succ, List.getElem?_drop, show p + (j - p - 1) = j - 1 by omega, List.getD_eq_getElem?_getD]
theorem len_ins {L : List Int} {x : Int} {p : Nat} (hp : p ≤ L.length) : (L.take p ++ x :: L.drop p).length = L.length + 1 := by
  simp
  omega
theorem srt_ins {L : List Int} {x : Int} (h : srt L) : srt (insL x L) := by
  unfold insL
  split
  · exact h
  · rename_i hne
    have hp := plc_le x L
    have hgt : plc x L < L.length → x < L.getD (plc x L) 0 := by
      intro q
      have := plc_ge x L q
      have hn : L.getD (plc x L) 0 ≠ x := by
        intro w
        apply hne
        rw [List.getD_eq_getElem?_getD, List.getElem?_eq_getElem q] at w
        rw [List.getElem?_eq_getElem q]
        exact congrArg some w
      omega
    intro i j hij hj
    rw [len_ins hp] at hj
    rw [getD_ins hp (by omega), getD_ins hp hj]
    by_cases c1 : j < plc x L
    · rw [if_pos (by omega), if_pos c1]
      exact h i j hij (by omega)
    · rw [if_neg c1]
      by_cases c2 : j = plc x L
      · rw [if_pos c2, if_pos (by omega)]
        exact plc_lt x L i (by omega)
      · rw [if_neg c2]
        by_cases c3 : i < plc x L
        · rw [if_pos c3]
          exact h i (j - 1) (by omega) (by omega)
        · rw [if_neg c3]
          by_cases c4 : i = plc x L
          · rw [if_pos c4]
            have := hgt (by omega)
            by_cases c5 : j - 1 = plc x L
            · rw [c5]; exact this
            · have := h (plc x L) (j - 1) (by omega) (by omega)
              omega
          · rw [if_neg c4]
            exact h (i - 1) (j - 1) (by omega) (by omega)
theorem mem_ins {L : List Int} {x y : Int} (h : y ∈ insL x L) : y = x ∨ y ∈ L := by
  unfold insL at h
  split at h
  · exact Or.inr h
  · rcases List.mem_append.mp h with q | q
    · exact Or.inr (List.mem_of_mem_take q)
    · rcases List.mem_cons.mp q with w | w
      · exact Or.inl w
      · exact Or.inr (List.mem_of_mem_drop w)
theorem len_insL (L : List Int) (x : Int) : (insL x L).length ≤ L.length + 1 := by
  unfold insL
  split
  · omega
  · rw [len_ins (plc_le x L)]; omega
theorem gatL_srt (fd : Nat → Nat → Int) (mk wo : Int) : ∀ n, srt (gatL fd mk wo n)
  | 0 => fun i j _ h => by simp [gatL] at h
  | n + 1 => by
    unfold gatL
    split
    · exact srt_ins (gatL_srt fd mk wo n)
    · exact gatL_srt fd mk wo n
theorem gatL_len (fd : Nat → Nat → Int) (mk wo : Int) : ∀ n, (gatL fd mk wo n).length ≤ n
  | 0 => Nat.le_refl 0
  | n + 1 => by
    have ih := gatL_len fd mk wo n
    unfold gatL
    split
    · have := len_insL (gatL fd mk wo n) (fd 1 n); omega
    · omega
theorem gatL_rng {fd : Nat → Nat → Int} {mk wo : Int} : ∀ {n : Nat}, finR n fd → ∀ y ∈ gatL fd mk wo n, 0 ≤ y ∧ y ≤ 9999
  | 0, _, y, h => by simp [gatL] at h
  | n + 1, hr, y, h => by
    have ih := gatL_rng (mk := mk) (wo := wo) (n := n) (fun i hi => hr i (by omega)) y
    unfold gatL at h
    split at h
    · rcases mem_ins h with q | q
      · rw [q]; exact (hr n (by omega)).2.1
      · exact ih q
    · exact ih h
theorem getD_mem {L : List Int} {i : Nat} (h : i < L.length) : L.getD i 0 ∈ L := by
  rw [List.getD_eq_getElem?_getD, List.getElem?_eq_getElem h]
  exact List.getElem_mem h
-- a row at a size and a row cell: the class's cells 8, 9; the reference's 88 (field 6), 92
def marksAt (mem : Mem) (L : List Int) : Prop := mem 8 1 = (L.length : Int) ∧ L.length ≤ 60 ∧ rowIs (mem 9) L
def numsAt (mem : Mem) (L : List Int) : Prop := mem 88 6 = (L.length : Int) ∧ L.length ≤ 60 ∧ rowIs (mem 92) L
def onMk (mem m : Mem) : Prop := ∀ a, a ≠ 8 → a ≠ 9 → m a = mem a
theorem onMk.tr {m1 m2 m3 : Mem} (h1 : onMk m1 m2) (h2 : onMk m2 m3) : onMk m1 m3 := fun a ha hb => (h2 a ha hb).trans (h1 a ha hb)
def onNm (mem m : Mem) : Prop := (∀ a, a ≠ 88 → a ≠ 92 → m a = mem a) ∧ ∀ j, j ≠ 6 → m 88 j = mem 88 j
theorem onNm.tr {m1 m2 m3 : Mem} (h1 : onNm m1 m2) (h2 : onNm m2 m3) : onNm m1 m3 := ⟨fun a ha hb => (h2.1 a ha hb).trans (h1.1 a ha hb), fun j hj => (h2.2 j hj).trans (h1.2 j hj)⟩
theorem onNm.rf {m : Mem} : onNm m m := ⟨fun _ _ _ => rfl, fun _ _ => rfl⟩
section Marks
variable {X : Nat × (Int → Int)} {mem : Mem} {nf : Nat} {fd : Nat → Nat → Int}
theorem cm_X6_clear : CM X (0, 0) 0 mX6_clear G0 [vr 8] mem (pV G0 fun m => marksAt m [] ∧ onMk mem m) := by
  refine CM.of (by decide +kernel) 0 (Nat.le_of_ble_eq_true rfl) ?_
  show ZZ X (0, 0) 0 mX6_clear G0 0 [vr 8] [] mem _
  refine z_aload_n dX6_clear_0 rfl ?_
  refine z_iconst dX6_clear_1 (by decide) ?_
  refine z_pI 1 dX6_clear_2 fm_X6_17 (by first | rfl | assumption) rfl rfl ?_
  refine z_vret dX6_clear_5 rfl ?_
  exact ⟨rfl, rfl, ⟨mset_eq _ _ _ _, by simp, fun i h => by simp at h⟩, fun a ha hb => mset_ne _ ha _ _⟩
theorem cm_X6_put {L : List Int} {x : Int} (hL : marksAt mem L) (hlen : L.length < 60) : CM X (0, 0) 0 mX6_put G0 [vr 8, vi x] mem (pV G0 fun m => marksAt m (insL x L) ∧ onMk mem m) := by
  obtain ⟨hs, -, hrow⟩ := hL
  have hpl := plc_le x L
  refine CM.of (by decide +kernel) 2 (Nat.le_of_ble_eq_true rfl) ?_
  show ZZ X (0, 0) 0 mX6_put G0 0 [vr 8, vi x, vd, vd] [] mem _
  -- behind the search
  have shift : ∀ (k i : Nat) (m : Mem), k + plc x L = i → i ≤ L.length → ¬ L[plc x L]? = some x → onMk mem m → m 8 1 = (L.length : Int) → (∀ j : Nat, j < i → j < L.length → m 9 (j : Int) = L.getD j 0) → (∀ j : Nat, i < j → j ≤ L.length → m 9 (j : Int) = L.getD (j - 1) 0) →
      ZZ X (0, 0) 0 mX6_put G0 62 [vr 8, vi x, vi ((plc x L : Nat) : Int), vi (i : Int)] [] m (pV G0 fun m => marksAt m (insL x L) ∧ onMk mem m) := by
    intro k
    induction k with
    | zero =>
      intro i m hk hi hne hon hsz hlo hhi
      have hii : i = plc x L := by omega
      subst hii
      refine z_iload_n dX6_put_62 rfl ?_
      refine z_iload_n dX6_put_63 rfl ?_
      refine z_icmp_le 87 dX6_put_64 (by decide) (fun h64 => ?_) (fun h64 => ?_)
      · refine z_aload_n dX6_put_87 rfl ?_
        refine z_getR (ty := .int) dX6_put_88 fl_X6_11 (by first | rfl | assumption) rfl rfl ?_
        refine z_iload_n dX6_put_91 rfl ?_
        refine z_iload_n dX6_put_92 rfl ?_
        refine z_iast dX6_put_93 (by first | rfl | assumption) (by omega) (by omega) ?_
        refine z_aload_n dX6_put_94 rfl ?_
        refine z_dup dX6_put_95 (by intro z q; cases q) ?_
        refine z_gI 1 dX6_put_96 fl_X6_17 (by first | rfl | assumption) rfl rfl ?_
        rw [mset_ne _ (by decide), hsz]
        refine z_iconst dX6_put_99 (by decide) ?_
        refine z_iadd dX6_put_100 (by omega) ?_
        refine z_pI 1 dX6_put_101 fm_X6_17 (by first | rfl | assumption) rfl rfl ?_
        refine z_vret dX6_put_104 rfl ?_
        have hins : insL x L = L.take (plc x L) ++ x :: L.drop (plc x L) := if_neg hne
        refine ⟨rfl, rfl, ⟨?_, ?_, ?_⟩, hon.tr (fun a ha hb => by rw [mset_ne _ ha, mset_ne _ hb])⟩
        · rw [mset_eq, hins, len_ins hpl]; omega
        · rw [hins, len_ins hpl]; omega
        · rw [hins]
          intro j hj
          rw [len_ins hpl] at hj
          rw [getD_ins hpl hj, mset_ne _ (by decide)]
          by_cases c1 : j < plc x L
          · rw [if_pos c1, mset_nej _ _ (by omega)]
            exact hlo j c1 (by omega)
          · rw [if_neg c1]
            by_cases c2 : j = plc x L
            · rw [if_pos c2, c2, mset_eq]
            · rw [if_neg c2, mset_nej _ _ (by omega)]
              exact hhi j (by omega) (by omega)
      · omega
    | succ k ih =>
      intro i m hk hi hne hon hsz hlo hhi
      have e1 : (i : Int) - 1 = ((i - 1 : Nat) : Int) := by omega
      refine z_iload_n dX6_put_62 rfl ?_
      refine z_iload_n dX6_put_63 rfl ?_
      refine z_icmp_le 87 dX6_put_64 (by decide) (fun h64 => ?_) (fun h64 => ?_)
      · omega
      · refine z_aload_n dX6_put_67 rfl ?_
        refine z_getR (ty := .int) dX6_put_68 fl_X6_11 (by first | rfl | assumption) rfl rfl ?_
        refine z_iload_n dX6_put_71 rfl ?_
        refine z_aload_n dX6_put_72 rfl ?_
        refine z_getR (ty := .int) dX6_put_73 fl_X6_11 (by first | rfl | assumption) rfl rfl ?_
        refine z_iload_n dX6_put_76 rfl ?_
        refine z_iconst dX6_put_77 (by decide) ?_
        refine z_isub dX6_put_78 (by omega) ?_
        rw [e1]
        refine z_iald dX6_put_79 (by first | rfl | assumption) (by omega) (by omega) ?_
        rw [hlo (i - 1) (by omega) (by omega)]
        refine z_iast dX6_put_80 (by first | rfl | assumption) (by omega) (by omega) ?_
        refine z_iinc dX6_put_81 rfl (by omega) (by decide) rfl ?_
        dsimp only [List.set]
        refine z_goto 62 dX6_put_84 (by decide) ?_
        rw [show (i : Int) + -1 = ((i - 1 : Nat) : Int) by omega]
        refine ih (i - 1) _ (by omega) (by omega) hne (hon.tr (fun a ha hb => mset_ne _ hb _ _)) (by rw [mset_ne _ (by decide)]; exact hsz) (fun j a b => ?_) (fun j a b => ?_)
        · rw [mset_nej _ _ (by omega)]
          exact hlo j (by omega) b
        · by_cases e : j = i
          · subst e; rw [mset_eq]
          · rw [mset_nej _ _ (by omega)]
            exact hhi j (by omega) b
  have look : ∀ (k i : Nat), k + i = L.length → (∀ j : Nat, j < i → L.getD j 0 < x) →
      ZZ X (0, 0) 0 mX6_put G0 2 [vr 8, vi x, vi (i : Int), vd] [] mem (pV G0 fun m => marksAt m (insL x L) ∧ onMk mem m) := by
    intro k
    induction k with
    | zero =>
      intro i hk hlt
      have hii : i = L.length := by omega
      have hp : i = plc x L := plc_uniq hlt (by omega) (fun w => by omega)
      have hne : ¬ L[plc x L]? = some x := by rw [← hp, List.getElem?_eq_none (by omega)]; intro q; cases q
      refine z_iload_n dX6_put_2 rfl ?_
      refine z_aload_n dX6_put_3 rfl ?_
      refine z_gI 1 dX6_put_4 fl_X6_17 (by first | rfl | assumption) rfl rfl ?_
      rw [hs]
      refine z_icmp_ge 26 dX6_put_7 (by decide) (fun h7 => ?_) (fun h7 => ?_)
      · refine z_aload_n dX6_put_26 rfl ?_
        refine z_gI 1 dX6_put_27 fl_X6_17 (by first | rfl | assumption) rfl rfl ?_
        rw [hs]
        refine z_aload_n dX6_put_30 rfl ?_
        refine z_getR (ty := .int) dX6_put_31 fl_X6_11 (by first | rfl | assumption) rfl rfl ?_
        refine z_alen dX6_put_34 (by first | rfl | assumption) (by decide) ?_
        refine z_icmp_ge 56 dX6_put_35 (by decide) (fun h35 => ?_) (fun h35 => ?_)
        · omega
        · refine z_iload_n dX6_put_38 rfl ?_
          refine z_aload_n dX6_put_39 rfl ?_
          refine z_gI 1 dX6_put_40 fl_X6_17 (by first | rfl | assumption) rfl rfl ?_
          rw [hs]
          refine z_icmp_ge 57 dX6_put_43 (by decide) (fun h43 => ?_) (fun h43 => ?_)
          · refine z_aload_n dX6_put_57 rfl ?_
            refine z_gI 1 dX6_put_58 fl_X6_17 (by first | rfl | assumption) rfl rfl ?_
            rw [hs]
            refine z_istore_n dX6_put_61 (by decide) rfl ?_
            dsimp only [List.set]
            rw [hp]
            exact shift (L.length - plc x L) L.length mem (by omega) (Nat.le_refl _) hne (fun _ _ _ => rfl) hs (fun j _ b => hrow j b) (fun j a b => by omega)
          · omega
      · omega
    | succ k ih =>
      intro i hk hlt
      have hil : i < L.length := by omega
      have fnd : ¬ L.getD i 0 < x → i = plc x L := fun q => plc_uniq hlt (by omega) (fun _ => by omega)
      refine z_iload_n dX6_put_2 rfl ?_
      refine z_aload_n dX6_put_3 rfl ?_
      refine z_gI 1 dX6_put_4 fl_X6_17 (by first | rfl | assumption) rfl rfl ?_
      rw [hs]
      refine z_icmp_ge 26 dX6_put_7 (by decide) (fun h7 => ?_) (fun h7 => ?_)
      · omega
      · refine z_aload_n dX6_put_10 rfl ?_
        refine z_getR (ty := .int) dX6_put_11 fl_X6_11 (by first | rfl | assumption) rfl rfl ?_
        refine z_iload_n dX6_put_14 rfl ?_
        refine z_iald dX6_put_15 (by first | rfl | assumption) (by omega) (by omega) ?_
        rw [hrow i hil]
        refine z_iload_n dX6_put_16 rfl ?_
        refine z_icmp_ge 26 dX6_put_17 (by decide) (fun h17 => ?_) (fun h17 => ?_)
        · have hp : i = plc x L := fnd (by omega)
          refine z_aload_n dX6_put_26 rfl ?_
          refine z_gI 1 dX6_put_27 fl_X6_17 (by first | rfl | assumption) rfl rfl ?_
          rw [hs]
          refine z_aload_n dX6_put_30 rfl ?_
          refine z_getR (ty := .int) dX6_put_31 fl_X6_11 (by first | rfl | assumption) rfl rfl ?_
          refine z_alen dX6_put_34 (by first | rfl | assumption) (by decide) ?_
          refine z_icmp_ge 56 dX6_put_35 (by decide) (fun h35 => ?_) (fun h35 => ?_)
          · omega
          · refine z_iload_n dX6_put_38 rfl ?_
            refine z_aload_n dX6_put_39 rfl ?_
            refine z_gI 1 dX6_put_40 fl_X6_17 (by first | rfl | assumption) rfl rfl ?_
            rw [hs]
            refine z_icmp_ge 57 dX6_put_43 (by decide) (fun h43 => ?_) (fun h43 => ?_)
            · omega
            · refine z_aload_n dX6_put_46 rfl ?_
              refine z_getR (ty := .int) dX6_put_47 fl_X6_11 (by first | rfl | assumption) rfl rfl ?_
              refine z_iload_n dX6_put_50 rfl ?_
              refine z_iald dX6_put_51 (by first | rfl | assumption) (by omega) (by omega) ?_
              rw [hrow i hil]
              refine z_iload_n dX6_put_52 rfl ?_
              refine z_icmp_ne 57 dX6_put_53 (by decide) (fun h53 => ?_) (fun h53 => ?_)
              · have hne : ¬ L[plc x L]? = some x := by
                  intro w
                  apply h53
                  rw [← hp] at w
                  rw [List.getD_eq_getElem?_getD, w]
                  rfl
                refine z_aload_n dX6_put_57 rfl ?_
                refine z_gI 1 dX6_put_58 fl_X6_17 (by first | rfl | assumption) rfl rfl ?_
                rw [hs]
                refine z_istore_n dX6_put_61 (by decide) rfl ?_
                dsimp only [List.set]
                rw [hp]
                exact shift (L.length - plc x L) L.length mem (by omega) (Nat.le_refl _) hne (fun _ _ _ => rfl) hs (fun j _ b => hrow j b) (fun j a b => by omega)
              · have hin : insL x L = L := if_pos (by rw [← hp, ← h53, List.getD_eq_getElem?_getD, List.getElem?_eq_getElem hil]; rfl)
                refine z_vret dX6_put_56 rfl ?_
                exact ⟨rfl, rfl, by rw [hin]; exact ⟨hs, by omega, hrow⟩, fun _ _ _ => rfl⟩
        · refine z_iinc dX6_put_20 rfl (by omega) (by decide) rfl ?_
          dsimp only [List.set]
          refine z_goto 2 dX6_put_23 (by decide) ?_
          exact ih (i + 1) (by omega) (fun j hj => by by_cases e : j = i; rw [e]; omega; exact hlt j (by omega))
  refine z_iconst dX6_put_0 (by decide) ?_
  refine z_istore_n dX6_put_1 (by decide) rfl ?_
  dsimp only [List.set]
  exact look L.length 0 (by omega) (fun j hj => by omega)
theorem finC.off {m : Mem} (h : finC mem nf fd) (ho : ∀ a, a ≤ 7 → 1 ≤ a → m a = mem a) : finC m nf fd := by
  obtain ⟨h1, h2, h3, h4⟩ := h
  exact ⟨h1, by rw [ho 1 (by decide) (by decide)]; exact h2, fun k i a b => by rw [ho (2 + k) (by omega) (by omega)]; exact h3 k i a b, fun i a b => by rw [ho 7 (by decide) (by decide)]; exact h4 i a b⟩
theorem cm_X3_gather {mk wo : Int} (hf : finC mem nf fd) : CM X (0, 0) 1 mX3_gather G0 [vr 1, vi mk, vi wo, vr 8] mem (pV G0 fun m => marksAt m (gatL fd mk wo nf) ∧ onMk mem m) := by
  have hn := hf.1
  refine CM.of (by decide +kernel) 1 (Nat.le_of_ble_eq_true rfl) ?_
  show ZZ X (0, 0) 1 mX3_gather G0 0 [vr 1, vi mk, vi wo, vr 8, vd] [] mem _
  have loop : ∀ (k i : Nat) (m : Mem), k + i = nf → marksAt m (gatL fd mk wo i) → onMk mem m →
      ZZ X (0, 0) 1 mX3_gather G0 7 [vr 1, vi mk, vi wo, vr 8, vi (i : Int)] [] m (pV G0 fun m => marksAt m (gatL fd mk wo nf) ∧ onMk mem m) := by
    intro k
    induction k with
    | zero =>
      intro i m hk hm hon
      have hii : i = nf := by omega
      subst hii
      have hfm : finC m i fd := hf.off (fun a h1 h2 => hon a (by omega) (by omega))
      refine z_iload dX3_gather_7 rfl ?_
      refine z_aload_n dX3_gather_9 rfl ?_
      refine z_gI 6 dX3_gather_10 fl_X3_31 (by first | rfl | assumption) rfl rfl ?_
      rw [hfm.2.1]
      refine z_icmp_ge 49 dX3_gather_13 (by decide) (fun h13 => ?_) (fun h13 => ?_)
      · refine z_vret dX3_gather_49 rfl ?_
        exact ⟨rfl, rfl, hm, hon⟩
      · omega
    | succ k ih =>
      intro i m hk hm hon
      have hfm : finC m nf fd := hf.off (fun a h1 h2 => hon a (by omega) (by omega))
      have hlen := gatL_len fd mk wo i
      have skip : ¬ (fd 0 i = mk ∧ fd 5 i = 0 ∧ (i : Int) ≠ wo) → ZZ X (0, 0) 1 mX3_gather G0 43 [vr 1, vi mk, vi wo, vr 8, vi (i : Int)] [] m (pV G0 fun m => marksAt m (gatL fd mk wo nf) ∧ onMk mem m) := by
        intro q
        refine z_iinc dX3_gather_43 rfl (by omega) (by decide) rfl ?_
        dsimp only [List.set]
        refine z_goto 7 dX3_gather_46 (by decide) ?_
        exact ih (i + 1) m (by omega) (by show marksAt m (if _ then _ else _); rw [if_neg q]; exact hm) hon
      have took : ∀ m2 : Mem, marksAt m2 (insL (fd 1 i) (gatL fd mk wo i)) → onMk m m2 → (fd 0 i = mk ∧ fd 5 i = 0 ∧ (i : Int) ≠ wo) → ZZ X (0, 0) 1 mX3_gather G0 43 [vr 1, vi mk, vi wo, vr 8, vi (i : Int)] [] m2 (pV G0 fun m => marksAt m (gatL fd mk wo nf) ∧ onMk mem m) := by
        intro m2 l1 l2 q
        refine z_iinc dX3_gather_43 rfl (by omega) (by decide) rfl ?_
        dsimp only [List.set]
        refine z_goto 7 dX3_gather_46 (by decide) ?_
        exact ih (i + 1) m2 (by omega) (by show marksAt m2 (if _ then _ else _); rw [if_pos q]; exact l1) (hon.tr l2)
      refine z_iload dX3_gather_7 rfl ?_
      refine z_aload_n dX3_gather_9 rfl ?_
      refine z_gI 6 dX3_gather_10 fl_X3_31 (by first | rfl | assumption) rfl rfl ?_
      rw [hfm.2.1]
      refine z_icmp_ge 49 dX3_gather_13 (by decide) (fun h13 => ?_) (fun h13 => ?_)
      · omega
      · refine z_iload dX3_gather_16 rfl ?_
        refine z_iload_n dX3_gather_18 rfl ?_
        refine z_icmp_eq 43 dX3_gather_19 (by decide) (fun h19 => ?_) (fun h19 => ?_)
        · first | exact skip (by omega) | exact took _ l1 l2 (by omega)
        · refine z_aload_n dX3_gather_22 rfl ?_
          refine z_iload dX3_gather_23 rfl ?_
          refine z_iload_n dX3_gather_25 rfl ?_
          refine z_V2i dX3_gather_26 ok_X3_countsFor lk_X3_40 (by first | rfl | assumption) rfl rfl (Nat.le_of_ble_eq_true rfl) (by decide) (cm_X3_countsFor hfm (show i < nf by omega)) (fun z1 m1 hm1 => ?_)
          obtain ⟨hz1, rfl⟩ := hm1
          refine z_if_eq 43 dX3_gather_29 (by decide) (fun h29 => ?_) (fun h29 => ?_)
          · first | exact skip (by omega) | exact took _ l1 l2 (by omega)
          · refine z_aload_n dX3_gather_32 rfl ?_
            refine z_aload_n dX3_gather_33 rfl ?_
            refine z_getR (ty := .int) dX3_gather_34 fl_X3_15 (by first | rfl | assumption) rfl rfl ?_
            refine z_iload dX3_gather_37 rfl ?_
            refine z_iald dX3_gather_39 (by first | rfl | assumption) (by omega) (by omega) ?_
            rw [show m1 3 (i : Int) = fd 1 i from hfm.2.2.1 1 i (by decide) (by omega)]
            refine z_V1v dX3_gather_40 ok_X6_put lk_X3_44 (by first | rfl | assumption) rfl rfl (Nat.le_of_ble_eq_true rfl) (by decide) (cm_X6_put hm (by omega)) (fun m2 hm2 => ?_)
            obtain ⟨l1, l2⟩ := hm2
            first | exact skip (by omega) | exact took _ l1 l2 (by omega)
  refine z_aload_n dX3_gather_0 rfl ?_
  refine z_V0v dX3_gather_1 ok_X6_clear lk_X3_35 (by first | rfl | assumption) rfl rfl (Nat.le_of_ble_eq_true rfl) (by decide) (cm_X6_clear) (fun m1 hm1 => ?_)
  obtain ⟨l1, l2⟩ := hm1
  refine z_iconst dX3_gather_4 (by decide) ?_
  refine z_istore dX3_gather_5 (by decide) rfl ?_
  dsimp only [List.set]
  exact loop nf 0 m1 (by omega) l1 l2
end Marks
