/-! ===== the least and the greatest: pure ===== -/
/-- a row's letters come first in the order, the highest first -/
def rowD (T : List Nat) (b c n : Nat) : Prop := ∀ j, j < n → (∀ j', j < j' → j' < n → ltr c j' ∈ T) → ltr c j ∉ T → ltr c j = b
theorem lexval {g k : Int → Int} (hg : figR g) (hk : figR k) {T : List Nat} {b c : Nat} (hT : ∀ a ∈ T, g (a : Int) = k (a : Int)) (hb : g (b : Int) < k (b : Int)) : ∀ n : Nat, rowD T b c n → valN g c n ≤ valN k c n
  | 0, _ => Int.le_refl _
  | n + 1, h => by
    show valN g c n + ((10 ^ n : Nat) : Int) * g ((ltr c n : Nat) : Int) ≤ valN k c n + ((10 ^ n : Nat) : Int) * k ((ltr c n : Nat) : Int)
    by_cases q : ltr c n ∈ T
    · rw [hT _ q]
      have := lexval hg hk hT hb n (fun j hj h1 h2 => h j (by omega) (fun j' a1 a2 => by
        by_cases t : j' = n
        · rw [t]; exact q
        · exact h1 j' a1 (by omega)) h2)
      omega
    · have e := h n (by omega) (fun j' a1 a2 => by omega) q
      have h1 := (valN_bd hg c n).2
      have h2 := (valN_bd hk c n).1
      rw [e]
      have h3 : ((10 ^ n : Nat) : Int) * (g (b : Int) + 1) ≤ ((10 ^ n : Nat) : Int) * k (b : Int) := Int.mul_le_mul_of_nonneg_left (by omega) (Int.natCast_nonneg _)
      rw [Int.mul_add, Int.mul_one] at h3
      omega
theorem ordT_of (c l : Nat) : ∀ i : Nat, ∀ x ∈ ordT [] c l i, ∃ p, p < i ∧ x = ltr c (l - 1 - p)
  | 0, x, h => absurd h List.not_mem_nil
  | i + 1, x, h => by
    have h' : x ∈ if ltr c (l - 1 - i) ∈ ordT [] c l i then ordT [] c l i else ordT [] c l i ++ [ltr c (l - 1 - i)] := h
    have key : x ∈ ordT [] c l i ∨ x = ltr c (l - 1 - i) := by
      split at h'
      · exact Or.inl h'
      · rcases List.mem_append.mp h' with q | q
        · exact Or.inl q
        · exact Or.inr (List.mem_singleton.mp q)
    rcases key with q | q
    · obtain ⟨p, h1, h2⟩ := ordT_of c l i x q
      exact ⟨p, by omega, h2⟩
    · exact ⟨i, by omega, q⟩
theorem ordT_nd (c l : Nat) : ∀ i : Nat, (ordT [] c l i).Nodup
  | 0 => List.nodup_nil
  | i + 1 => by
    have ih := ordT_nd c l i
    show (if ltr c (l - 1 - i) ∈ ordT [] c l i then ordT [] c l i else ordT [] c l i ++ [ltr c (l - 1 - i)]).Nodup
    split
    · exact ih
    · rename_i q
      refine List.nodup_append.mpr ⟨ih, List.nodup_cons.mpr ⟨List.not_mem_nil, List.nodup_nil⟩, fun a ha b hb e => ?_⟩
      rw [List.mem_singleton] at hb
      exact q (by rw [← hb, ← e]; exact ha)
theorem nd_take {T : List Nat} (h : T.Nodup) {d : Nat} (hd : d < T.length) : T.getD d 0 ∉ T.take d := by
  intro q
  obtain ⟨j, hj, he⟩ := List.getElem_of_mem q
  rw [List.length_take] at hj
  rw [List.getElem_take, List.getD_eq_getElem?_getD, List.getElem?_eq_getElem hd, Option.getD_some] at he
  exact (List.pairwise_iff_getElem.mp h) j d (by omega) hd (by omega) he
theorem ordT_row (c l : Nat) : ∀ i : Nat, ∀ d, d < (ordT [] c l i).length → ∀ p, p < i → (∀ p', p' < p → ltr c (l - 1 - p') ∈ (ordT [] c l i).take d) → ltr c (l - 1 - p) ∉ (ordT [] c l i).take d → ltr c (l - 1 - p) = (ordT [] c l i).getD d 0
  | 0, d, hd, p, hp, _, _ => by omega
  | i + 1, d, hd, p, hp, h1, h2 => by
    have ih := ordT_row c l i
    have hof := ordT_of c l i
    have hnd := ordT_nd c l i
    have hs : ordT [] c l (i + 1) = if ltr c (l - 1 - i) ∈ ordT [] c l i then ordT [] c l i else ordT [] c l i ++ [ltr c (l - 1 - i)] := rfl
    have hmem := ordT_mem [] c l i
    rw [hs] at hd h1 h2 ⊢
    generalize ordT [] c l i = T at *
    have bad : ∀ d, d < T.length → (∀ p', p' < i → ltr c (l - 1 - p') ∈ T.take d) → False := by
      intro d hd h
      obtain ⟨p', a1, a2⟩ := hof _ (getD_memN hd)
      exact nd_take hnd hd (by rw [a2]; exact h p' a1)
    by_cases q : ltr c (l - 1 - i) ∈ T
    · rw [if_pos q] at hd h1 h2 ⊢
      by_cases t : p = i
      · subst t
        exact absurd h1 (bad d hd)
      · exact ih d hd p (by omega) h1 h2
    · rw [if_neg q] at hd h1 h2 ⊢
      rw [List.length_append] at hd
      have hl1 : [ltr c (l - 1 - i)].length = 1 := rfl
      by_cases w : d < T.length
      · rw [List.take_append_of_le_length (by omega)] at h1 h2
        rw [getD_snoc (by omega), if_pos w]
        by_cases t : p = i
        · subst t
          exact absurd h1 (bad d w)
        · exact ih d w p (by omega) h1 h2
      · have hdl : d = T.length := by omega
        rw [getD_snoc (by omega), if_neg w]
        rw [List.take_append_of_le_length (by omega), hdl, List.take_length] at h2
        by_cases t : p = i
        · rw [t]
        · exact absurd (hmem p (by omega)) h2
/-- the order that begins with a row -/
theorem row_ord (c l : Nat) (S : List Nat) {d : Nat} (hd : d < (ordT [] c l l ++ S).length) : rowD ((ordT [] c l l ++ S).take d) ((ordT [] c l l ++ S).getD d 0) c l := by
  intro j hj h1 h2
  by_cases w : d < (ordT [] c l l).length
  · rw [List.take_append_of_le_length (by omega)] at h1 h2
    rw [List.getD_eq_getElem?_getD, List.getElem?_append_left w, ← List.getD_eq_getElem?_getD]
    have := ordT_row c l l d w (l - 1 - j) (by omega) (fun p' hp' => h1 (l - 1 - p') (by omega) (by omega))
    rw [show l - 1 - (l - 1 - j) = j by omega] at this
    exact this h2
  · refine absurd ?_ h2
    rw [List.take_append]
    rw [List.take_of_length_le (by omega)]
    exact List.mem_append.mpr (Or.inl (ordT_all [] hj))
/-- figures for the rest of the letters -/
theorem ext_more {R : List Nat} : ∀ (O : List Nat) (g : Int → Int) (U : Nat) (k0 : Int → Int), (O ++ R).Nodup → (∀ a ∈ O ++ R, a < 6) → crd U + O.length + R.length ≤ 10 → ext O g U k0 → ∃ k, ext (O ++ R) g U k ∧ ∀ a : Nat, a < 6 → a ∉ R → k (a : Int) = k0 (a : Int)
  | [], g, U, k0, hn, h6, hl, he => by
    rw [List.nil_append] at hn
    have h6' : ∀ a ∈ R, a < 6 := fun a ha => h6 a (by rw [List.nil_append]; exact ha)
    have hp : 0 < cnt (fun _ => true) R g U := by
      rw [cnt_true]
      exact fallN_pos _ _ (by have : ([] : List Nat).length = 0 := rfl; omega)
    obtain ⟨k, hk, -⟩ := (cnt_pos (P := fun _ => true) (fun _ _ _ => rfl) R hn h6' g U).mp hp
    exact ⟨k, by rw [List.nil_append]; exact hk, fun a ha hr => by rw [hk.1 a ha hr, he.1 a ha List.not_mem_nil]⟩
  | b :: t, g, U, k0, hn, h6, hl, he => by
    rw [List.cons_append] at hn h6
    obtain ⟨hb, hn'⟩ := List.nodup_cons.mp hn
    have hb6 := h6 b List.mem_cons_self
    have hbt : b ∉ t := fun q => hb (List.mem_append.mpr (Or.inl q))
    obtain ⟨f, hf, hU, he'⟩ := (ext_cons hbt hb6).mp he
    rw [List.length_cons] at hl
    obtain ⟨k, hk, hk2⟩ := ext_more t (updF g (b : Int) (f : Int)) (U ||| 2 ^ f) k0 hn' (fun a ha => h6 a (List.mem_cons_of_mem _ ha)) (by rw [crd_or hU hf]; omega) he'
    exact ⟨k, by rw [List.cons_append]; exact (ext_cons hb hb6).mpr ⟨f, hf, hU, hk⟩, hk2⟩
/-! ===== seek ===== -/
section Seek
variable {X : Nat × (Int → Int)} {mem : Mem} {nw : Nat} {wd : Nat → Nat → Int} {O R : List Nat} {rp : Nat → Nat} {c n : Nat}
def leD (dn x y : Int) : Prop := (dn = 0 → x ≤ y) ∧ (¬ dn = 0 → y ≤ x)
theorem take_drop {d : Nat} (hP : ordP O R) {a : Nat} (ha : a ∈ O.take d) : a < 6 ∧ a ∉ O.drop d := by
  obtain ⟨i, hi, he⟩ := List.getElem_of_mem ha
  rw [List.length_take] at hi
  rw [List.getElem_take] at he
  have hg : O.getD i 0 = a := by rw [List.getD_eq_getElem?_getD, List.getElem?_eq_getElem (by omega), Option.getD_some]; exact he
  rw [← hg]
  exact ⟨hP.lt (List.mem_append.mpr (Or.inl (getD_memN (by omega)))), fun q => ord_take hP (by omega : i < d) (by omega) (List.mem_append.mpr (Or.inl q))⟩
theorem ext_fig {l : List Nat} {g k : Int → Int} {U : Nat} (hg : figR g) (h : ext l g U k) : figR k := by
  intro a ha
  by_cases q : a ∈ l
  · obtain ⟨f, h1, -, h3⟩ := h.2.1 a q
    rw [h3]
    omega
  · rw [h.1 a ha q]
    exact hg a ha
theorem cm_X10_seek {dn : Int} (hdn : dn = 0 ∨ dn = 1) (hrow : ∀ d, d < O.length → rowD (O.take d) (O.getD d 0) c n) : ∀ (r d U : Nat) (mem : Mem), d + r = O.length → stW mem nw wd O R rp → U < 1024 → figR (mem 30) → (∀ w : Nat, w < nw → rp w < d → okWP wd (mem 30) w) → CM X (0, 0) (r + 2) mX10_seek G0 [vr 22, vi (d : Int), vi (U : Int), vi dn] mem (pI G0 fun z m => (∀ x, x ≠ 30 → m x = mem x) ∧ figR (m 30) ∧ (∀ a : Nat, a < 6 → a ∉ O.drop d → m 30 (a : Int) = mem 30 (a : Int)) ∧ (z = 0 → ∀ k, ext (O.drop d) (mem 30) U k → ¬ okK nw wd k = true) ∧ (¬ z = 0 → ext (O.drop d) (mem 30) U (m 30) ∧ okK nw wd (m 30) = true ∧ ∀ k, ext (O.drop d) (mem 30) U k → okK nw wd k = true → leD dn (valN (m 30) c n) (valN k c n))) := by
  intro r
  induction r with
  | zero =>
    intro d U mem hd hs hU hg hw
    have hdO : d = O.length := by omega
    subst hdO
    rw [List.drop_length]
    have hall : ∀ w : Nat, w < nw → okWP wd (mem 30) w := fun w hw' => hw w hw' (hs.2.2.2.2.2 w hw').1
    have hself : ext [] (mem 30) U (mem 30) := ⟨fun _ _ _ => rfl, fun a ha => absurd ha List.not_mem_nil, fun a ha => absurd ha List.not_mem_nil⟩
    refine CM.of (by decide +kernel) 2 (Nat.le_of_ble_eq_true rfl) ?_
    show ZZ X (0, 0) 2 mX10_seek G0 0 [vr 22, vi (O.length : Int), vi (U : Int), vi dn, vd, vd] [] mem _
    refine z_iload_n dX10_seek_0 rfl ?_
    refine z_aload_n dX10_seek_1 rfl ?_
    refine z_gI 10 dX10_seek_2 fl_X10_91 (by first | rfl | assumption) rfl rfl ?_
    rw [hs.2.2.1.1]
    refine z_icmp_ge 14 dX10_seek_5 (by decide) (fun h5 => ?_) (fun h5 => ?_)
    · refine z_iconst dX10_seek_14 (by decide) ?_
      refine z_zret dX10_seek_15 rfl (by first | exact Or.inl rfl | exact Or.inr rfl | assumption | (split <;> simp) | omega) ?_
      refine ⟨rfl, _, rfl, fun _ _ => rfl, hg, fun _ _ _ => rfl, fun q => absurd q (by decide), fun _ => ⟨hself, okK_iff.mpr hall, fun k hk _ => ?_⟩⟩
      rw [valN_congr (g := mem 30) (k := k) fun j _ => (hk.1 _ (ltr_lt c j) List.not_mem_nil).symm]
      exact ⟨fun _ => Int.le_refl _, fun _ => Int.le_refl _⟩
    · omega
  | succ r ihr =>
    intro d U mem hd hs hU hg hw
    have hdl : d < O.length := by omega
    have hlen := hs.2.2.2.1.len
    have hP := hs.2.2.2.1
    obtain ⟨a, ha⟩ : ∃ a, a = O.getD d 0 := ⟨_, rfl⟩
    have haO : a ∈ O := by rw [ha]; exact getD_memN hdl
    have ha6 : a < 6 := hP.lt (List.mem_append.mpr (Or.inl haO))
    have hdr : O.drop d = a :: O.drop (d + 1) := by rw [ha]; exact drop_at hdl
    have had : a ∉ O.drop (d + 1) := fun q => ord_take hP (by omega : d < d + 1) hdl (by rw [← ha]; exact List.mem_append.mpr (Or.inl q))
    have hrd := hrow d hdl
    rw [← ha] at hrd
    have loop : ∀ (e i : Nat) (m : Mem) (u5 : VV), i + e = 10 → (∀ x, x ≠ 30 → m x = mem x) → figR (m 30) → (∀ b : Nat, b < 6 → b ∉ O.drop d → m 30 (b : Int) = mem 30 (b : Int)) → (∀ k, ext (O.drop d) (mem 30) U k → okK nw wd k = true → ∀ i' : Nat, i' < i → ¬ k (a : Int) = (if dn = 0 then (i' : Int) else 9 - (i' : Int))) → ZZ X (0, 0) (r + 1 + 2) mX10_seek G0 19 [vr 22, vi (d : Int), vi (U : Int), vi dn, vi (i : Int), u5] [] m (pI G0 fun z m => (∀ x, x ≠ 30 → m x = mem x) ∧ figR (m 30) ∧ (∀ a : Nat, a < 6 → a ∉ O.drop d → m 30 (a : Int) = mem 30 (a : Int)) ∧ (z = 0 → ∀ k, ext (O.drop d) (mem 30) U k → ¬ okK nw wd k = true) ∧ (¬ z = 0 → ext (O.drop d) (mem 30) U (m 30) ∧ okK nw wd (m 30) = true ∧ ∀ k, ext (O.drop d) (mem 30) U k → okK nw wd k = true → leD dn (valN (m 30) c n) (valN k c n))) := by
      intro e
      induction e with
      | zero =>
        intro i m u5 hi ho hgm hag hdone
        have : i = 10 := by omega
        subst this
        refine z_iload dX10_seek_19 rfl ?_
        refine z_bipush dX10_seek_21 (by decide) ?_
        refine z_icmp_ge 97 dX10_seek_23 (by decide) (fun h23 => ?_) (fun h23 => ?_)
        · refine z_iconst dX10_seek_97 (by decide) ?_
          refine z_zret dX10_seek_98 rfl (by first | exact Or.inl rfl | exact Or.inr rfl | assumption | (split <;> simp) | omega) ?_
          refine ⟨rfl, _, rfl, ho, hgm, hag, fun _ k hk hok => ?_, fun q => absurd rfl q⟩
          obtain ⟨f, h1, h2, h3⟩ := hk.2.1 a (by rw [hdr]; exact List.mem_cons_self)
          rcases hdn with t | t
          · have := hdone k hk hok f h1
            rw [if_pos t] at this
            exact this h3
          · have := hdone k hk hok (9 - f) (by omega)
            rw [if_neg (by omega)] at this
            exact this (by omega)
        · omega
      | succ e ih =>
        intro i m u5 hi ho hgm hag hdone
        have hsm := hs.off (m := m) ⟨fun x _ _ h3 => ho x h3, fun j _ => by rw [ho 22 (by decide)]⟩
        have h28 : m 28 (d : Int) = (a : Int) := by rw [ha]; exact hsm.2.2.1.2.1 d hdl
        have body : ∀ (f : Nat), f < 10 → (f : Int) = (if dn = 0 then (i : Int) else 9 - (i : Int)) → ZZ X (0, 0) (r + 1 + 2) mX10_seek G0 40 [vr 22, vi (d : Int), vi (U : Int), vi dn, vi (i : Int), vd] [vi (f : Int)] m (pI G0 fun z m => (∀ x, x ≠ 30 → m x = mem x) ∧ figR (m 30) ∧ (∀ a : Nat, a < 6 → a ∉ O.drop d → m 30 (a : Int) = mem 30 (a : Int)) ∧ (z = 0 → ∀ k, ext (O.drop d) (mem 30) U k → ¬ okK nw wd k = true) ∧ (¬ z = 0 → ext (O.drop d) (mem 30) U (m 30) ∧ okK nw wd (m 30) = true ∧ ∀ k, ext (O.drop d) (mem 30) U k → okK nw wd k = true → leD dn (valN (m 30) c n) (valN k c n))) := by
          intro f hf10 hfi
          have hbit := bit_at (n := U) (w := f) (by omega) (by omega)
          have nxt : ∀ (m' : Mem) (u5 : VV), (∀ x, x ≠ 30 → m' x = m x) → figR (m' 30) → (∀ b : Nat, b < 6 → b ∉ O.drop d → m' 30 (b : Int) = m 30 (b : Int)) → (∀ k, ext (O.drop d) (mem 30) U k → okK nw wd k = true → ¬ k (a : Int) = (f : Int)) → ZZ X (0, 0) (r + 1 + 2) mX10_seek G0 91 [vr 22, vi (d : Int), vi (U : Int), vi dn, vi (i : Int), u5] [] m' (pI G0 fun z m => (∀ x, x ≠ 30 → m x = mem x) ∧ figR (m 30) ∧ (∀ a : Nat, a < 6 → a ∉ O.drop d → m 30 (a : Int) = mem 30 (a : Int)) ∧ (z = 0 → ∀ k, ext (O.drop d) (mem 30) U k → ¬ okK nw wd k = true) ∧ (¬ z = 0 → ext (O.drop d) (mem 30) U (m 30) ∧ okK nw wd (m 30) = true ∧ ∀ k, ext (O.drop d) (mem 30) U k → okK nw wd k = true → leD dn (valN (m 30) c n) (valN k c n))) := by
            intro m' u5 ho' hgm' hag' hno'
            refine z_iinc dX10_seek_91 rfl (by omega) (by decide) rfl ?_
            dsimp only [List.set]
            refine z_goto 19 dX10_seek_94 (by decide) ?_
            refine ih (i + 1) m' u5 (by omega) (fun x hx => (ho' x hx).trans (ho x hx)) hgm' (fun b hb hn => (hag' b hb hn).trans (hag b hb hn)) (fun k hk hok i' hi' => ?_)
            by_cases t : i' = i
            · subst t
              rw [← hfi]
              exact hno' k hk hok
            · exact hdone k hk hok i' (by omega)
          refine z_istore dX10_seek_40 (by decide) rfl ?_
          dsimp only [List.set]
          refine z_iload_n dX10_seek_42 rfl ?_
          refine z_iload dX10_seek_43 rfl ?_
          refine z_ishr dX10_seek_45 ?_
          refine z_iconst dX10_seek_46 (by decide) ?_
          refine z_iand dX10_seek_47 ?_
          rw [hbit]
          refine z_if_ne 91 dX10_seek_48 (by decide) (fun h48 => ?_) (fun h48 => ?_)
          · have htb : U.testBit f = true := by rw [tb_dm]; exact decide_eq_true (by omega)
            have noK : ∀ k, ext (O.drop d) (mem 30) U k → okK nw wd k = true → ¬ k (a : Int) = (f : Int) := by
              intro k hk _ hka
              obtain ⟨f', h1, h2, h3⟩ := hk.2.1 a (by rw [hdr]; exact List.mem_cons_self)
              have hff : f' = f := by omega
              rw [hff, htb] at h2
              cases h2
            first
            | exact nxt _ _ (fun _ _ => rfl) hgm (fun _ _ _ => rfl) noK
            | exact nxt _ _ (fun x hx => (o3 x hx).trans (o1 x hx)) fr3 ag3' noK
            | exact nxt _ _ o1 fr1 ag1 noK
          · have htb : U.testBit f = false := by rw [tb_dm]; exact decide_eq_false (by omega)
            refine z_aload_n dX10_seek_51 rfl ?_
            refine z_getR (ty := .int) dX10_seek_52 fl_X10_33 (by first | rfl | assumption) rfl rfl ?_
            refine z_aload_n dX10_seek_55 rfl ?_
            refine z_getR (ty := .int) dX10_seek_56 fl_X10_27 (by first | rfl | assumption) rfl rfl ?_
            refine z_iload_n dX10_seek_59 rfl ?_
            refine z_iald dX10_seek_60 (by first | rfl | assumption) (by omega) (by omega) ?_
            rw [h28]
            refine z_iload dX10_seek_61 rfl ?_
            refine z_iast dX10_seek_63 (by first | rfl | assumption) (by omega) (by omega) ?_
            generalize hm1 : mset m 30 (a : Int) (f : Int) = m1
            have o1 : ∀ x, x ≠ 30 → m1 x = m x := fun x hx => by rw [← hm1, mset_ne _ hx]
            have g1 : m1 30 = updF (m 30) (a : Int) (f : Int) := by rw [← hm1, mset_at]; rfl
            have fr1 : figR (m1 30) := by
              intro b hb6
              rw [g1]
              by_cases q : b = a
              · subst q; rw [updF_eq]; omega
              · rw [updF_ne _ _ (by omega)]; exact hgm b hb6
            have hs1 := hsm.off (m := m1) ⟨fun x _ _ h3 => o1 x h3, fun j _ => by rw [o1 22 (by decide)]⟩
            have ag1 : ∀ b : Nat, b < 6 → b ∉ O.drop d → m1 30 (b : Int) = m 30 (b : Int) := by
              intro b hb6 hn
              rw [g1, updF_ne _ _ (by intro t; exact hn (by rw [hdr, show b = a by omega]; exact List.mem_cons_self))]
            have hex : ∀ k, ext (O.drop d) (mem 30) U k → k (a : Int) = (f : Int) → ext (O.drop (d + 1)) (m1 30) (U ||| 2 ^ f) k := by
              intro k hk hka
              rw [hdr] at hk
              obtain ⟨f', h1, h2, h3⟩ := (ext_cons had ha6).mp hk
              have hff : f' = f := by
                have := h3.1 a ha6 had
                rw [updF_eq] at this
                omega
              subst hff
              refine ⟨fun b hb hn => ?_, h3.2⟩
              rw [h3.1 b hb hn, g1]
              by_cases q : b = a
              · subst q; rw [updF_eq, updF_eq]
              · rw [updF_ne _ _ (by omega), updF_ne _ _ (by omega)]
                refine (hag b hb fun t => ?_).symm
                rw [hdr] at t
                rcases List.mem_cons.mp t with t | t
                · exact q t
                · exact hn t
            refine z_aload_n dX10_seek_64 rfl ?_
            refine z_iload_n dX10_seek_65 rfl ?_
            refine z_V1i dX10_seek_66 ok_X10_holdAt lk_X10_111 (by first | rfl | assumption) rfl rfl (Nat.le_of_ble_eq_true rfl) (by omega) (cm_X10_holdAt hs1.1 hs1.2.1 fr1 (by omega : d < 6) (hs1.2.2.2.2.1 d (by omega))) (fun z1 m2 hm2 => ?_)
            obtain ⟨hz1, hmm⟩ := hm2
            subst hmm
            refine z_if_eq 91 dX10_seek_69 (by decide) (fun h69 => ?_) (fun h69 => ?_)
            · have hno := hz1.no h69
              have noK : ∀ k, ext (O.drop d) (mem 30) U k → okK nw wd k = true → ¬ k (a : Int) = (f : Int) := by
                intro k hk hok hka
                have hk1 := hex k hk hka
                refine hno fun w hw' hrw => ?_
                refine (okWP_congr fun j hj => ?_).mp (okK_iff.mp hok w hw')
                obtain ⟨i0, i1, i2, i3⟩ := (hs.2.2.2.2.2 w hw').2 j hj
                rw [i3]
                exact hk1.1 _ (hP.lt (List.mem_append.mpr (Or.inl (getD_memN i2)))) (fun t => ord_take hP (by omega : i0 < d + 1) i2 (List.mem_append.mpr (Or.inl t)))
              first
              | exact nxt _ _ (fun _ _ => rfl) hgm (fun _ _ _ => rfl) noK
              | exact nxt _ _ (fun x hx => (o3 x hx).trans (o1 x hx)) fr3 ag3' noK
              | exact nxt _ _ o1 fr1 ag1 noK
            · have hyes := hz1.yes h69
              have hw1 : ∀ w : Nat, w < nw → rp w < d + 1 → okWP wd (m2 30) w := by
                intro w hw' hrw
                by_cases q : rp w = d
                · exact hyes w hw' q
                · refine (okWP_congr fun j hj => ?_).mp (hw w hw' (by omega))
                  obtain ⟨i0, i1, i2, i3⟩ := (hs.2.2.2.2.2 w hw').2 j hj
                  have hi6 := hP.lt (List.mem_append.mpr (Or.inl (getD_memN i2)))
                  have hnn : O.getD i0 0 ∉ O.drop d := fun t => ord_take hP (by omega : i0 < d) i2 (List.mem_append.mpr (Or.inl t))
                  rw [i3, ag1 _ hi6 hnn, hag _ hi6 hnn]
              refine z_aload_n dX10_seek_72 rfl ?_
              refine z_iload_n dX10_seek_73 rfl ?_
              refine z_iconst dX10_seek_74 (by decide) ?_
              refine z_iadd dX10_seek_75 (by omega) ?_
              rw [show (d : Int) + 1 = ((d + 1 : Nat) : Int) by omega]
              refine z_iload_n dX10_seek_76 rfl ?_
              refine z_iconst dX10_seek_77 (by decide) ?_
              refine z_iload dX10_seek_78 rfl ?_
              refine z_ishl dX10_seek_80 ?_
              rw [shl1' (by omega)]
              refine z_ior dX10_seek_81 ?_
              rw [ior_nat (by omega) (by have : 2 ^ f ≤ 2 ^ 9 := Nat.pow_le_pow_right (by decide) (by omega); omega)]
              refine z_iload_n dX10_seek_82 rfl ?_
              refine z_S4i dX10_seek_83 ok_X10_seek lk_X10_73 (Nat.le_of_ble_eq_true rfl) (by omega) (ihr (d + 1) (U ||| 2 ^ f) _ (by omega) hs1 (or_lt ⟨U, hU⟩ ⟨f, by omega⟩) fr1 hw1) (fun z3 m3 hm3 => ?_)
              obtain ⟨o3, fr3, ag3, no3, yes3⟩ := hm3
              have ag3' : ∀ b : Nat, b < 6 → b ∉ O.drop d → m3 30 (b : Int) = m 30 (b : Int) := fun b hb6 hn => (ag3 b hb6 (fun t => hn (by rw [hdr]; exact List.mem_cons_of_mem _ t))).trans (ag1 b hb6 hn)
              refine z_if_eq 91 dX10_seek_86 (by decide) (fun h86 => ?_) (fun h86 => ?_)
              · have noK : ∀ k, ext (O.drop d) (mem 30) U k → okK nw wd k = true → ¬ k (a : Int) = (f : Int) := fun k hk hok hka => no3 h86 k (hex k hk hka) hok
                first
                | exact nxt _ _ (fun _ _ => rfl) hgm (fun _ _ _ => rfl) noK
                | exact nxt _ _ (fun x hx => (o3 x hx).trans (o1 x hx)) fr3 ag3' noK
                | exact nxt _ _ o1 fr1 ag1 noK
              · obtain ⟨x1, x2, x3⟩ := yes3 h86
                have hka : m3 30 (a : Int) = (f : Int) := by
                  rw [ag3 a ha6 had, g1, updF_eq]
                refine z_iconst dX10_seek_89 (by decide) ?_
                refine z_zret dX10_seek_90 rfl (by first | exact Or.inl rfl | exact Or.inr rfl | assumption | (split <;> simp) | omega) ?_
                refine ⟨rfl, _, rfl, fun x hx => ((o3 x hx).trans (o1 x hx)).trans (ho x hx), fr3, fun b hb6 hn => (ag3' b hb6 hn).trans (hag b hb6 hn), fun q => absurd q (by decide), fun _ => ⟨?_, x2, fun k hk hok => ?_⟩⟩
                · rw [hdr]
                  refine (ext_cons had ha6).mpr ⟨f, hf10, htb, fun b hb hn => ?_, x1.2⟩
                  rw [x1.1 b hb hn, g1]
                  by_cases q : b = a
                  · subst q; rw [updF_eq, updF_eq]
                  · rw [updF_ne _ _ (by omega), updF_ne _ _ (by omega)]
                    refine hag b hb fun t => ?_
                    rw [hdr] at t
                    rcases List.mem_cons.mp t with t | t
                    · exact q t
                    · exact hn t
                · by_cases q : k (a : Int) = (f : Int)
                  · exact x3 k (hex k hk q) hok
                  · have hkf := ext_fig hg hk
                    have hT : ∀ b ∈ O.take d, m3 30 (b : Int) = k (b : Int) := by
                      intro b hb
                      obtain ⟨b6, bd⟩ := take_drop hP hb
                      rw [ag3' b b6 bd, hag b b6 bd, hk.1 b b6 bd]
                    obtain ⟨fk, h1, h2, h3⟩ := hk.2.1 a (by rw [hdr]; exact List.mem_cons_self)
                    refine ⟨fun t => ?_, fun t => ?_⟩
                    · rw [if_pos t] at hfi
                      have hge : ¬ fk < i := fun s => by have := hdone k hk hok fk s; rw [if_pos t] at this; exact this h3
                      exact lexval fr3 hkf hT (by rw [hka, h3]; omega) n hrd
                    · rw [if_neg t] at hfi
                      have hge : ¬ 9 - fk < i := fun s => by have := hdone k hk hok (9 - fk) s; rw [if_neg t] at this; exact this (by omega)
                      exact lexval hkf fr3 (fun b hb => (hT b hb).symm) (by rw [hka, h3]; omega) n hrd
        refine z_kill 5 ?_
        dsimp only [List.set]
        refine z_iload dX10_seek_19 rfl ?_
        refine z_bipush dX10_seek_21 (by decide) ?_
        refine z_icmp_ge 97 dX10_seek_23 (by decide) (fun h23 => ?_) (fun h23 => ?_)
        · omega
        · refine z_iload_n dX10_seek_26 rfl ?_
          refine z_if_eq 38 dX10_seek_27 (by decide) (fun h27 => ?_) (fun h27 => ?_)
          · have hfi : (i : Int) = (if dn = 0 then (i : Int) else 9 - (i : Int)) := (if_pos h27).symm
            refine z_iload dX10_seek_38 rfl ?_
            first
            | exact body i (by omega) hfi
            | (rw [show (9 : Int) - (i : Int) = ((9 - i : Nat) : Int) by omega]; exact body (9 - i) (by omega) hfi)
          · have hfi : ((9 - i : Nat) : Int) = (if dn = 0 then (i : Int) else 9 - (i : Int)) := by rw [if_neg h27]; omega
            refine z_bipush dX10_seek_30 (by decide) ?_
            refine z_iload dX10_seek_32 rfl ?_
            refine z_isub dX10_seek_34 (by omega) ?_
            refine z_goto 40 dX10_seek_35 (by decide) ?_
            first
            | exact body i (by omega) hfi
            | (rw [show (9 : Int) - (i : Int) = ((9 - i : Nat) : Int) by omega]; exact body (9 - i) (by omega) hfi)
    refine CM.of (by decide +kernel) 2 (Nat.le_of_ble_eq_true rfl) ?_
    show ZZ X (0, 0) (r + 1 + 2) mX10_seek G0 0 [vr 22, vi (d : Int), vi (U : Int), vi dn, vd, vd] [] mem _
    refine z_iload_n dX10_seek_0 rfl ?_
    refine z_aload_n dX10_seek_1 rfl ?_
    refine z_gI 10 dX10_seek_2 fl_X10_91 (by first | rfl | assumption) rfl rfl ?_
    rw [hs.2.2.1.1]
    refine z_icmp_ge 14 dX10_seek_5 (by decide) (fun h5 => ?_) (fun h5 => ?_)
    · omega
    · refine z_iload_n dX10_seek_8 rfl ?_
      refine z_bipush dX10_seek_9 (by decide) ?_
      refine z_icmp_lt 16 dX10_seek_11 (by decide) (fun h11 => ?_) (fun h11 => ?_)
      · refine z_iconst dX10_seek_16 (by decide) ?_
        refine z_istore dX10_seek_17 (by decide) rfl ?_
        dsimp only [List.set]
        exact loop 10 0 _ _ (by omega) (fun _ _ => rfl) hg (fun _ _ _ => rfl) (fun k _ _ i' hi' => by omega)
      · omega
end Seek
