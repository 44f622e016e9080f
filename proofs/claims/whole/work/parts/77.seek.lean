/-! ===== the least and the greatest: pure ===== -/
/-- of a row's letters that are not in T the highest is b -/
def rowD (T : List Nat) (b c n : Nat) : Prop := ∀ j, j < n → (∀ j', j < j' → j' < n → ltr c j' ∈ T) → ltr c j ∉ T → ltr c j = b
theorem lexval {g k : Int → Int} (hg : figR g) (hk : figR k) {T : List Nat} {b c : Nat} (hT : ∀ a ∈ T, g (a : Int) = k (a : Int)) (hb : g (b : Int) < k (b : Int)) : ∀ n : Nat, rowD T b c n → valN g c n ≤ valN k c n
  | 0, _ => Int.le_refl _
  | n + 1, h => by
    show valN g c n + ((10 ^ n : Nat) : Int) * g ((ltr c n : Nat) : Int) ≤ valN k c n + ((10 ^ n : Nat) : Int) * k ((ltr c n : Nat) : Int)
    by_cases q : ltr c n ∈ T
    · rw [hT _ q]
      have := lexval hg hk hT hb n (fun j hj h1 h2 => h j (by omega) (fun j' a1 a2 => by
        by_cases t : j' = n
        · rw [t]; exact q
        · exact h1 j' a1 (by omega)) h2)
      omega
    · have e := h n (by omega) (fun j' a1 a2 => by omega) q
      have h1 := (valN_bd hg c n).2
      have h2 := (valN_bd hk c n).1
      rw [e]
      have h3 : ((10 ^ n : Nat) : Int) * (g (b : Int) + 1) ≤ ((10 ^ n : Nat) : Int) * k (b : Int) := Int.mul_le_mul_of_nonneg_left (by omega) (Int.natCast_nonneg _)
      rw [Int.mul_add, Int.mul_one] at h3
      omega
/-! ===== seek ===== -/
section Seek
variable {X : Nat × (Int → Int)} {nw : Nat} {wd : Nat → Nat → Int} {c n : Nat}
def leD (dn x y : Int) : Prop := (dn = 0 → x ≤ y) ∧ (¬ dn = 0 → y ≤ x)
theorem row_none {O R : List Nat} (hP : ordP O R) (h : ∀ j, j < n → ltr c j ∉ R) (a : Nat) : rowD O a c n := by
  intro j hj _ h2
  rcases hP.all (ltr_lt c j) with q | q
  · exact absurd q h2
  · exact absurd q (h j hj)
theorem row_some {O R : List Nat} (hP : ordP O R) {j0 : Nat} (hj0 : j0 < n) (h0 : ltr c j0 ∈ R) (h : ∀ j', j0 < j' → j' < n → ltr c j' ∉ R) : rowD O (ltr c j0) c n := by
  intro j hj h1 h2
  by_cases q1 : j0 < j
  · rcases hP.all (ltr_lt c j) with q | q
    · exact absurd q h2
    · exact absurd q (h j q1 hj)
  · by_cases q2 : j < j0
    · exact absurd h0 (fun t => hP.dj (h1 j0 q2 hj0) t)
    · rw [show j = j0 by omega]
/-- the least or greatest is met, or there is no key -/
def skP (nw : Nat) (wd : Nat → Nat → Int) (c n : Nat) (dn : Int) (mem : Mem) (R : List Nat) (U : Nat) (z : Int) (m : Mem) : Prop := (z = 0 → m = mem ∧ ∀ k, ext R (mem 28) U k → ¬ okK nw wd k = true) ∧ (¬ z = 0 → onSk mem m ∧ figR (m 28) ∧ ∃ k0, ext R (mem 28) U k0 ∧ okK nw wd k0 = true ∧ valN (m 28) c n = valN k0 c n ∧ ∀ k, ext R (mem 28) U k → okK nw wd k = true → leD dn (valN k0 c n) (valN k c n))
abbrev skQ (nw : Nat) (wd : Nat → Nat → Int) (c n : Nat) (dn : Int) (mem : Mem) (R : List Nat) (U : Nat) : zPost := pI G0 fun z m => skP nw wd c n dn mem R U z m
theorem sk_yes {dn : Int} {mem : Mem} {O R : List Nat} {U : Nat} (hs : frS mem O R U) (hop : opI nw wd (mem 28) R U 0) (hrow : ∀ j, j < n → ltr c j ∉ R) : skP nw wd c n dn mem R U 1 mem := by
  have hlen := hs.1.len
  have hp : 0 < cnt (fun _ => true) R (mem 28) U := by
    rw [cnt_true, hs.2.2.2.2.2.1]
    exact fallN_pos _ _ (by omega)
  obtain ⟨k0, hk0, -⟩ := (cnt_pos (P := fun _ => true) (fun _ _ _ => rfl) R hs.nd (fun a ha => hs.lt ha) (mem 28) U).mp hp
  have hv : ∀ k, ext R (mem 28) U k → valN (mem 28) c n = valN k c n := fun k hk => valN_congr fun j hj => (hk.1 _ (ltr_lt c j) (hrow j hj)).symm
  refine ⟨fun q => absurd q (by decide), fun _ => ⟨onSk.rf, hs.2.2.2.2.2.2, k0, hk0, hop.all hk0, hv k0 hk0, fun k hk _ => ?_⟩⟩
  rw [← hv k0 hk0, ← hv k hk]
  exact ⟨fun _ => Int.le_refl _, fun _ => Int.le_refl _⟩
theorem cm_X10_seek {dn : Int} (hdn : dn = 0 ∨ dn = 1) (hn4 : n ≤ 4) (hc : c < 1296) : ∀ (r : Nat) (O R : List Nat) (U S : Nat) (mem : Mem), R.length = r → wdC mem nw wd → wdR nw wd → frS mem O R U → opI nw wd (mem 28) R U S → CM X (0, 0) (r + 2) mX10_seek G0 [vr 22, vi (O.length : Int), vi (S : Int), vi (n : Int), vi (c : Int), vi dn] mem (skQ nw wd c n dn mem R U) := by
  intro r
  induction r with
  | zero =>
    intro O R U S mem hr0 hf hr hs hop
    have hR0 := List.length_eq_zero_iff.mp hr0
    have h0 : S = 0 := by
      refine Classical.byContradiction fun q => ?_
      obtain ⟨a, ha⟩ := hop.some q
      rw [hR0] at ha
      exact absurd ha List.not_mem_nil
    subst h0
    have hrow : ∀ j, j < n → ltr c j ∉ R := fun j _ => by rw [hR0]; exact List.not_mem_nil
    refine CM.of (by decide +kernel) 4 (Nat.le_of_ble_eq_true rfl) ?_
    show ZZ X (0, 0) (0 + 2) mX10_seek G0 0 [vr 22, vi (O.length : Int), vi ((0 : Nat) : Int), vi (n : Int), vi (c : Int), vi dn, vd, vd, vd, vd] [] mem _
    refine z_aload_n dX10_seek_0 rfl ?_
    refine z_iload_n dX10_seek_1 rfl ?_
    refine z_iload dX10_seek_2 rfl ?_
    refine z_V2i dX10_seek_4 ok_X10_freeLetterIn lk_X10_106 (by first | rfl | assumption) rfl rfl (Nat.le_of_ble_eq_true rfl) (by omega) (cm_X10_freeLetterIn hs hn4 hc) (fun z1 m1 hm1 => ?_)
    obtain ⟨hz1, hmm⟩ := hm1
    subst m1
    have hz : z1 = -1 := by
      rcases hz1 with q | ⟨j, -, -, q, -⟩
      · exact q.1
      · rw [hR0] at q
        exact absurd q List.not_mem_nil
    refine z_istore dX10_seek_7 (by decide) rfl ?_
    dsimp only [List.set]
    refine z_iload dX10_seek_9 rfl ?_
    refine z_iconst dX10_seek_11 (by decide) ?_
    refine z_icmp_ne 21 dX10_seek_12 (by decide) (fun h12 => ?_) (fun h12 => ?_)
    · exact absurd hz h12
    · refine z_iload_n dX10_seek_15 rfl ?_
      refine z_if_ne 21 dX10_seek_16 (by decide) (fun h16 => ?_) (fun h16 => ?_)
      · omega
      · refine z_iconst dX10_seek_19 (by decide) ?_
        refine z_zret dX10_seek_20 rfl (by first | exact Or.inl rfl | exact Or.inr rfl | assumption | (split <;> simp) | omega) ?_
        exact ⟨rfl, _, rfl, sk_yes hs hop hrow⟩
  | succ r ihr =>
    intro O R U S mem hr1 hf hr hs hop
    have hlen := hs.1.len
    have hU := hs.2.2.2.2.1
    have h22 : mem 22 10 = (U : Int) := hs.2.2.2.1
    have go : ∀ (a : Nat), a ∈ R → rowD O a c n → ∀ (u6 u7 u8 u9 : VV), ZZ X (0, 0) (r + 1 + 2) mX10_seek G0 37 [vr 22, vi (O.length : Int), vi (S : Int), vi (n : Int), vi (c : Int), vi dn, u6, u7, u8, u9] [vi (a : Int)] mem (skQ nw wd c n dn mem R U) := by
      intro a ha hrd
      have ha6 := hs.lt ha
      have hpe := List.perm_cons_erase ha
      have hEl : (R.erase a).length = r := by
        have := hpe.length_eq
        rw [List.length_cons] at this
        omega
      have loop : ∀ (e i : Nat) (u8 u9 : VV), i + e = 10 → (∀ k, ext R (mem 28) U k → okK nw wd k = true → ∀ i' : Nat, i' < i → ¬ k (a : Int) = (if dn = 0 then (i' : Int) else 9 - (i' : Int))) → ZZ X (0, 0) (r + 1 + 2) mX10_seek G0 42 [vr 22, vi (O.length : Int), vi (S : Int), vi (n : Int), vi (c : Int), vi dn, vi (a : Int), vi (i : Int), u8, u9] [] mem (skQ nw wd c n dn mem R U) := by
        intro e
        induction e with
        | zero =>
          intro i u8 u9 hi hdone
          have : i = 10 := by omega
          subst this
          refine z_iload dX10_seek_42 rfl ?_
          refine z_bipush dX10_seek_44 (by decide) ?_
          refine z_icmp_ge 142 dX10_seek_46 (by decide) (fun h46 => ?_) (fun h46 => ?_)
          · refine z_iconst dX10_seek_142 (by decide) ?_
            refine z_zret dX10_seek_143 rfl (by first | exact Or.inl rfl | exact Or.inr rfl | assumption | (split <;> simp) | omega) ?_
            refine ⟨rfl, _, rfl, fun _ => ⟨rfl, fun k hk hok => ?_⟩, fun q => absurd rfl q⟩
            obtain ⟨f, h1, h2, h3⟩ := hk.2.1 a ha
            rcases hdn with t | t
            · have := hdone k hk hok f h1
              rw [if_pos t] at this
              exact this h3
            · have := hdone k hk hok (9 - f) (by omega)
              rw [if_neg (by omega)] at this
              exact this (by omega)
          · omega
        | succ e ih =>
          intro i u8 u9 hi hdone
          have body : ∀ (f : Nat), f < 10 → (f : Int) = (if dn = 0 then (i : Int) else 9 - (i : Int)) → ZZ X (0, 0) (r + 1 + 2) mX10_seek G0 76 [vr 22, vi (O.length : Int), vi (S : Int), vi (n : Int), vi (c : Int), vi dn, vi (a : Int), vi (i : Int), vd, vd] [vi (f : Int)] mem (skQ nw wd c n dn mem R U) := by
            intro f hf10 hfi
            have hbit := bit_at (n := U) (w := f) (by omega) (by omega)
            have nxt : ∀ (u8 u9 : VV), (∀ k, ext R (mem 28) U k → okK nw wd k = true → ¬ k (a : Int) = (f : Int)) → ZZ X (0, 0) (r + 1 + 2) mX10_seek G0 136 [vr 22, vi (O.length : Int), vi (S : Int), vi (n : Int), vi (c : Int), vi dn, vi (a : Int), vi (i : Int), u8, u9] [] mem (skQ nw wd c n dn mem R U) := by
              intro u8 u9 hno'
              refine z_iinc dX10_seek_136 rfl (by omega) (by decide) rfl ?_
              dsimp only [List.set]
              refine z_goto 42 dX10_seek_139 (by decide) ?_
              refine ih (i + 1) u8 u9 (by omega) (fun k hk hok i' hi' => ?_)
              by_cases t : i' = i
              · subst t
                rw [← hfi]
                exact hno' k hk hok
              · exact hdone k hk hok i' (by omega)
            have back : U.testBit f = false → ∀ (u8 u9 : VV), (∀ k, ext R (mem 28) U k → okK nw wd k = true → ¬ k (a : Int) = (f : Int)) → ZZ X (0, 0) (r + 1 + 2) mX10_seek G0 130 [vr 22, vi (O.length : Int), vi (S : Int), vi (n : Int), vi (c : Int), vi dn, vi (a : Int), vi (i : Int), u8, u9] [] (gvM mem a f U) (skQ nw wd c n dn mem R U) := by
              intro htb u8 u9 hno'
              have hmm : tbM (gvM mem a f U) a U = mem := funext fun x => tb_gv hs ha (fun _ => True) (fun _ _ => rfl) x trivial
              refine z_aload_n dX10_seek_130 rfl ?_
              refine z_iload dX10_seek_131 rfl ?_
              refine z_V1v dX10_seek_133 ok_X10_takeBack lk_X10_93 (by first | rfl | assumption) rfl rfl (Nat.le_of_ble_eq_true rfl) (by omega) (cm_X10_takeBack (U := U) ha6 hf10 hU htb (by rw [gv28, updF_eq]) (gv22 _ _ _ _)) (fun m2 hm2 => ?_)
              rw [hmm] at hm2
              subst m2
              exact nxt _ _ hno'
            refine z_istore dX10_seek_76 (by decide) rfl ?_
            dsimp only [List.set]
            refine z_aload_n dX10_seek_78 rfl ?_
            refine z_gI 10 dX10_seek_79 fl_X10_76 (by first | rfl | assumption) rfl rfl ?_
            rw [h22]
            refine z_iload dX10_seek_82 rfl ?_
            refine z_ishr dX10_seek_84 ?_
            refine z_iconst dX10_seek_85 (by decide) ?_
            refine z_iand dX10_seek_86 ?_
            rw [hbit]
            refine z_if_ne 136 dX10_seek_87 (by decide) (fun h87 => ?_) (fun h87 => ?_)
            · have htb : U.testBit f = true := by rw [tb_dm]; exact decide_eq_true (by omega)
              have noK : ∀ k, ext R (mem 28) U k → okK nw wd k = true → ¬ k (a : Int) = (f : Int) := by
                intro k hk _ hka
                obtain ⟨f', h1, h2, h3⟩ := hk.2.1 a ha
                have hff : f' = f := by omega
                rw [hff, htb] at h2
                cases h2
              exact nxt _ _ noK
            · have htb : U.testBit f = false := by rw [tb_dm]; exact decide_eq_false (by omega)
              have hgs := hs.give ha hf10 htb
              have hfg : wdC (gvM mem a f U) nw wd := hf.os (onSk.gv a f U)
              have g28 := gv28 mem a f U
              refine z_aload_n dX10_seek_90 rfl ?_
              refine z_iload dX10_seek_91 rfl ?_
              refine z_iload dX10_seek_93 rfl ?_
              refine z_V2v dX10_seek_95 ok_X10_give lk_X10_89 (by first | rfl | assumption) rfl rfl (Nat.le_of_ble_eq_true rfl) (by omega) (cm_X10_give (U := U) ha6 hf10 h22 hU) (fun m1 hm1 => ?_)
              subst hm1
              refine z_aload_n dX10_seek_98 rfl ?_
              refine z_iload_n dX10_seek_99 rfl ?_
              refine z_V1i dX10_seek_100 ok_X10_undecided lk_X10_79 (by first | rfl | assumption) rfl rfl (Nat.le_of_ble_eq_true rfl) (by omega) (cm_X10_undecided hfg hr hgs hop.1 (fun w hw hb k hk => hop.2.1 w hw hb k (ext_put hs ha hf10 htb (by rw [gv28] at hk; exact hk)))) (fun z2 m2 hm2 => ?_)
              obtain ⟨q2, hmm⟩ := hm2
              subst hmm
              refine z_istore dX10_seek_103 (by decide) rfl ?_
              dsimp only [List.set]
              refine z_iload dX10_seek_105 rfl ?_
              refine z_iconst dX10_seek_107 (by decide) ?_
              refine z_icmp_eq 130 dX10_seek_108 (by decide) (fun h108 => ?_) (fun h108 => ?_)
              · have noK : ∀ k, ext R (mem 28) U k → okK nw wd k = true → ¬ k (a : Int) = (f : Int) := by
                  intro k hk hok hka
                  have hk1 := ext_get hs ha hk hka
                  rcases q2 with q | ⟨S', q, -⟩
                  · rw [g28] at q
                    exact q.2 k hk1 hok
                  · omega
                exact back htb _ _ noK
              · obtain ⟨S', hS', hop'⟩ : ∃ S' : Nat, z2 = (S' : Int) ∧ opI nw wd (gvM mem a f U 28) (R.erase a) (U ||| 2 ^ f) S' := by
                  rcases q2 with q | q
                  · exact absurd q.1 h108
                  · exact q
                subst hS'
                refine z_aload_n dX10_seek_111 rfl ?_
                refine z_iload_n dX10_seek_112 rfl ?_
                refine z_iconst dX10_seek_113 (by decide) ?_
                refine z_iadd dX10_seek_114 (by omega) ?_
                rw [show (O.length : Int) + 1 = (((O ++ [a]).length : Nat) : Int) by rw [List.length_append]; rfl]
                refine z_iload dX10_seek_115 rfl ?_
                refine z_iload_n dX10_seek_117 rfl ?_
                refine z_iload dX10_seek_118 rfl ?_
                refine z_iload dX10_seek_120 rfl ?_
                refine z_S6i dX10_seek_122 ok_X10_seek lk_X10_68 (Nat.le_of_ble_eq_true rfl) (by omega) (ihr (O ++ [a]) (R.erase a) (U ||| 2 ^ f) S' _ hEl hfg hr hgs hop') (fun z3 m3 hm3 => ?_)
                unfold skP at hm3
                rw [g28] at hm3
                obtain ⟨no3, yes3⟩ := hm3
                refine z_if_eq 130 dX10_seek_125 (by decide) (fun h125 => ?_) (fun h125 => ?_)
                · obtain ⟨hmm3, no4⟩ := no3 h125
                  subst hmm3
                  have noK : ∀ k, ext R (mem 28) U k → okK nw wd k = true → ¬ k (a : Int) = (f : Int) := fun k hk hok hka => no4 k (ext_get hs ha hk hka) hok
                  exact back htb _ _ noK
                · obtain ⟨x1, x2, k0, x3, x4, x5, x6⟩ := yes3 h125
                  have x3' := ext_put hs ha hf10 htb x3
                  have hna : a ∉ R.erase a := (List.nodup_cons.mp ((List.Perm.nodup_iff hpe).mp hs.nd)).1
                  have hk0a : k0 (a : Int) = (f : Int) := by rw [x3.1 a ha6 hna, updF_eq]
                  refine z_iconst dX10_seek_128 (by decide) ?_
                  refine z_zret dX10_seek_129 rfl (by first | exact Or.inl rfl | exact Or.inr rfl | assumption | (split <;> simp) | omega) ?_
                  refine ⟨rfl, _, rfl, fun q => absurd q (by decide), fun _ => ⟨onSk.tr (onSk.gv a f U) x1, x2, k0, x3', x4, x5, fun k hk hok => ?_⟩⟩
                  by_cases q : k (a : Int) = (f : Int)
                  · exact x6 k (ext_get hs ha hk q) hok
                  · have hkf := ext_fig hs.2.2.2.2.2.2 hk
                    have hk0f := ext_fig hs.2.2.2.2.2.2 x3'
                    have hT : ∀ b ∈ O, k0 (b : Int) = k (b : Int) := by
                      intro b hb
                      have hbR : b ∉ R := fun t => hs.1.dj hb t
                      have hb6 := hs.1.lt (List.mem_append.mpr (Or.inl hb))
                      rw [x3'.1 b hb6 hbR, hk.1 b hb6 hbR]
                    obtain ⟨fk, h1, h2, h3⟩ := hk.2.1 a ha
                    refine ⟨fun t => ?_, fun t => ?_⟩
                    · rw [if_pos t] at hfi
                      have hge : ¬ fk < i := fun s => by have := hdone k hk hok fk s; rw [if_pos t] at this; exact this h3
                      exact lexval hk0f hkf hT (by rw [hk0a, h3]; omega) n hrd
                    · rw [if_neg t] at hfi
                      have hge : ¬ 9 - fk < i := fun s => by have := hdone k hk hok (9 - fk) s; rw [if_neg t] at this; exact this (by omega)
                      exact lexval hkf hk0f (fun b hb => (hT b hb).symm) (by rw [hk0a, h3]; omega) n hrd
          refine z_kill 8 ?_
          refine z_kill 9 ?_
          dsimp only [List.set]
          have hRl : 0 < R.length := by omega
          refine z_iload dX10_seek_42 rfl ?_
          refine z_bipush dX10_seek_44 (by decide) ?_
          refine z_icmp_ge 142 dX10_seek_46 (by decide) (fun h46 => ?_) (fun h46 => ?_)
          · omega
          · refine z_iload dX10_seek_49 rfl ?_
            refine z_iconst dX10_seek_51 (by decide) ?_
            refine z_icmp_eq 142 dX10_seek_52 (by decide) (fun h52 => ?_) (fun h52 => ?_)
            · omega
            · refine z_iload_n dX10_seek_55 rfl ?_
              refine z_bipush dX10_seek_56 (by decide) ?_
              refine z_icmp_ge 142 dX10_seek_58 (by decide) (fun h58 => ?_) (fun h58 => ?_)
              · omega
              · refine z_iload dX10_seek_61 rfl ?_
                refine z_if_eq 74 dX10_seek_63 (by decide) (fun h63 => ?_) (fun h63 => ?_)
                · have hfi : (i : Int) = (if dn = 0 then (i : Int) else 9 - (i : Int)) := (if_pos h63).symm
                  refine z_iload dX10_seek_74 rfl ?_
                  first
                  | exact body i (by omega) hfi
                  | (rw [show (9 : Int) - (i : Int) = ((9 - i : Nat) : Int) by omega]; exact body (9 - i) (by omega) hfi)
                · have hfi : ((9 - i : Nat) : Int) = (if dn = 0 then (i : Int) else 9 - (i : Int)) := by rw [if_neg h63]; omega
                  refine z_bipush dX10_seek_66 (by decide) ?_
                  refine z_iload dX10_seek_68 rfl ?_
                  refine z_isub dX10_seek_70 (by omega) ?_
                  refine z_goto 76 dX10_seek_71 (by decide) ?_
                  first
                  | exact body i (by omega) hfi
                  | (rw [show (9 : Int) - (i : Int) = ((9 - i : Nat) : Int) by omega]; exact body (9 - i) (by omega) hfi)
      intro u6 u7 u8 u9
      refine z_istore dX10_seek_37 (by decide) rfl ?_
      dsimp only [List.set]
      refine z_iconst dX10_seek_39 (by decide) ?_
      refine z_istore dX10_seek_40 (by decide) rfl ?_
      dsimp only [List.set]
      exact loop 10 0 _ _ (by omega) (fun k _ _ i' hi' => by omega)
    have at21 : ∀ (z1 : Int) (u7 u8 u9 : VV), frL R c n z1 → ¬ (z1 = -1 ∧ S = 0) → ZZ X (0, 0) (r + 1 + 2) mX10_seek G0 21 [vr 22, vi (O.length : Int), vi (S : Int), vi (n : Int), vi (c : Int), vi dn, vi z1, u7, u8, u9] [] mem (skQ nw wd c n dn mem R U) := by
      intro z1 u7 u8 u9 hz1 hne
      by_cases hz : z1 = -1
      · have hS0 : ¬ S = 0 := fun q => hne ⟨hz, q⟩
        have hrow : ∀ j, j < n → ltr c j ∉ R := by
          rcases hz1 with q | ⟨j, -, q, -⟩
          · exact q.2
          · omega
        refine z_iload dX10_seek_21 rfl ?_
        refine z_iconst dX10_seek_23 (by decide) ?_
        refine z_icmp_ne 35 dX10_seek_24 (by decide) (fun h24 => ?_) (fun h24 => ?_)
        · exact absurd hz h24
        · refine z_aload_n dX10_seek_27 rfl ?_
          refine z_iload_n dX10_seek_28 rfl ?_
          refine z_V1i dX10_seek_29 ok_X10_freeLetterOf lk_X10_86 (by first | rfl | assumption) rfl rfl (Nat.le_of_ble_eq_true rfl) (by omega) (cm_X10_freeLetterOf hf hr hs hop hS0) (fun z2 m2 hm2 => ?_)
          obtain ⟨⟨a, ha, hz2⟩, hmm⟩ := hm2
          subst m2
          subst hz2
          refine z_goto 37 dX10_seek_32 (by decide) ?_
          exact go a ha (row_none hs.1 hrow a) _ _ _ _
      · obtain ⟨j, j1, j2, j3, j4⟩ := hz1.resolve_left fun q => hz q.1
        refine z_iload dX10_seek_21 rfl ?_
        refine z_iconst dX10_seek_23 (by decide) ?_
        refine z_icmp_ne 35 dX10_seek_24 (by decide) (fun h24 => ?_) (fun h24 => ?_)
        · refine z_iload dX10_seek_35 rfl ?_
          rw [j2]
          exact go _ j3 (row_some hs.1 j1 j3 j4) _ _ _ _
        · exact absurd h24 hz
    refine CM.of (by decide +kernel) 4 (Nat.le_of_ble_eq_true rfl) ?_
    show ZZ X (0, 0) (r + 1 + 2) mX10_seek G0 0 [vr 22, vi (O.length : Int), vi (S : Int), vi (n : Int), vi (c : Int), vi dn, vd, vd, vd, vd] [] mem _
    refine z_aload_n dX10_seek_0 rfl ?_
    refine z_iload_n dX10_seek_1 rfl ?_
    refine z_iload dX10_seek_2 rfl ?_
    refine z_V2i dX10_seek_4 ok_X10_freeLetterIn lk_X10_106 (by first | rfl | assumption) rfl rfl (Nat.le_of_ble_eq_true rfl) (by omega) (cm_X10_freeLetterIn hs hn4 hc) (fun z1 m1 hm1 => ?_)
    obtain ⟨hz1, hmm⟩ := hm1
    subst m1
    refine z_istore dX10_seek_7 (by decide) rfl ?_
    dsimp only [List.set]
    refine z_iload dX10_seek_9 rfl ?_
    refine z_iconst dX10_seek_11 (by decide) ?_
    refine z_icmp_ne 21 dX10_seek_12 (by decide) (fun h12 => ?_) (fun h12 => ?_)
    · exact at21 _ _ _ _ hz1 (by omega)
    · refine z_iload_n dX10_seek_15 rfl ?_
      refine z_if_ne 21 dX10_seek_16 (by decide) (fun h16 => ?_) (fun h16 => ?_)
      · exact at21 _ _ _ _ hz1 (by omega)
      · have hS0 : S = 0 := by omega
        subst hS0
        have hrow : ∀ j, j < n → ltr c j ∉ R := by
          rcases hz1 with q | ⟨j, -, q, -⟩
          · exact q.2
          · omega
        refine z_iconst dX10_seek_19 (by decide) ?_
        refine z_zret dX10_seek_20 rfl (by first | exact Or.inl rfl | exact Or.inr rfl | assumption | (split <;> simp) | omega) ?_
        exact ⟨rfl, _, rfl, sk_yes hs hop hrow⟩
end Seek
/-! ===== reads: the class ===== -/
section Reads
variable {X : Nat × (Int → Int)} {mem : Mem} {nw : Nat} {wd : Nat → Nat → Int}
theorem keyC_pos {P : KP} (hP : resp P) : 0 < keyC nw wd P ↔ ∃ K, ext six (fun _ => 0) 0 K ∧ okK nw wd K = true ∧ P K = true := by
  unfold keyC
  rw [cnt_pos (resp_and (okK_resp nw wd) hP) six six_nd six_lt]
  constructor
  · rintro ⟨K, h1, h2⟩
    unfold andP at h2
    rw [Bool.and_eq_true] at h2
    exact ⟨K, h1, h2.1, h2.2⟩
  · rintro ⟨K, h1, h2, h3⟩
    refine ⟨K, h1, ?_⟩
    unfold andP
    rw [h2, h3]
    rfl
theorem ext_six {g g' k : Int → Int} {U : Nat} (h : ext six g U k) : ext six g' U k := ⟨fun a ha hn => absurd (six_mem ha) hn, h.2⟩
theorem rd_of {g k0 : Int → Int} {c n : Nat} {dn : Int} (he : ext six g 0 k0) (hok : okK nw wd k0 = true) (hb : ∀ k, ext six g 0 k → okK nw wd k = true → leD dn (valN k0 c n) (valN k c n)) : rdR nw wd c n dn (valN k0 c n) := by
  have hfull : ∀ v : Int, 0 < keyC nw wd (vlP c n v) → leD dn (valN k0 c n) v := by
    intro v hv
    obtain ⟨K, k1, k2, k3⟩ := (keyC_pos (vlP_resp c n v)).mp hv
    have h1 := hb K (ext_six k1) k2
    rw [of_decide_eq_true k3] at h1
    exact h1
  have hpos : 0 < keyC nw wd (vlP c n (valN k0 c n)) := (keyC_pos (vlP_resp c n _)).mpr ⟨k0, ext_six he, hok, decide_eq_true rfl⟩
  refine ⟨fun q => ?_, fun _ => ⟨hpos, fun w v hv => ?_, fun w v hv => ?_⟩⟩
  · have : 0 < keyC nw wd trP := (keyC_pos trP_resp).mpr ⟨k0, ext_six he, hok, rfl⟩
    omega
  · refine Nat.eq_zero_of_not_pos fun t => ?_
    have := (hfull v t).1 w
    omega
  · refine Nat.eq_zero_of_not_pos fun t => ?_
    have := (hfull v t).2 w
    omega
theorem rd_no {g : Int → Int} {c n : Nat} {dn : Int} (h : ∀ k, ext six g 0 k → ¬ okK nw wd k = true) : rdR nw wd c n dn (-1) := by
  have h0 : keyC nw wd trP = 0 := by
    rw [← key_any g trP_resp]
    exact cnt_no six_nd six_lt h trP
  exact ⟨fun _ => rfl, fun q => by omega⟩
theorem okRow_nat {l c : Int} (h : okRow l c) : ∃ l' c' : Nat, l = (l' : Int) ∧ c = (c' : Int) ∧ 1 ≤ l' ∧ l' ≤ 4 ∧ c' < 1296 := by
  obtain ⟨⟨h1, h2⟩, h3, h4⟩ := h
  refine ⟨l.toNat, c.toNat, by omega, by omega, by omega, by omega, ?_⟩
  unfold rowsOf at h4
  split at h4
  · omega
  · split at h4
    · omega
    · split at h4 <;> omega
theorem wcI.sk {m : Mem} (h : wcI mem nw wd) (ho : onSk mem m) : wcI m nw wd := by
  unfold wcI
  rw [ho.2 5 (by decide), ho.2 6 (by decide), ho.1 27 (by decide) (by decide) (by decide)]
  exact h
theorem cm_X10_extreme {l c : Nat} {dn : Int} (hl : l ≤ 4) (hc' : c < 1296) (hdn : dn = 0 ∨ dn = 1) (hf : wdC mem nw wd) (hr : wdR nw wd) (hc : wcI mem nw wd) : CM X (0, 0) 10 mX10_extreme G0 [vr 22, vi (l : Int), vi (c : Int), vi dn] mem (pI G0 fun z m => rdR nw wd c l dn z ∧ wcI m nw wd ∧ onSA mem m) := by
  refine CM.of (by decide +kernel) 2 (Nat.le_of_ble_eq_true rfl) ?_
  show ZZ X (0, 0) 10 mX10_extreme G0 0 [vr 22, vi (l : Int), vi (c : Int), vi dn, vd, vd] [] mem _
  have no : ∀ (m : Mem) (z4 : Int) (g : Int → Int), (∀ k, ext six g 0 k → ¬ okK nw wd k = true) → onSk mem m → ZZ X (0, 0) 10 mX10_extreme G0 29 [vr 22, vi (l : Int), vi (c : Int), vi dn, vi z4, vd] [] m (pI G0 fun z m => rdR nw wd c l dn z ∧ wcI m nw wd ∧ onSA mem m) := by
    intro m z4 g hno ho
    refine z_iconst dX10_extreme_29 (by decide) ?_
    refine z_istore dX10_extreme_30 (by decide) rfl ?_
    dsimp only [List.set]
    refine z_iload dX10_extreme_32 rfl ?_
    refine z_if_eq 49 dX10_extreme_34 (by decide) (fun h34 => ?_) (fun h34 => ?_)
    · refine z_iconst dX10_extreme_49 (by decide) ?_
      refine z_iret dX10_extreme_50 rfl ?_
      exact ⟨rfl, _, rfl, rd_no hno, hc.sk ho, ho.sa⟩
    · omega
  refine z_aload_n dX10_extreme_0 rfl ?_
  refine z_V0i dX10_extreme_1 ok_X10_startSearch lk_X10_60 (by first | rfl | assumption) rfl rfl (Nat.le_of_ble_eq_true rfl) (by omega) (cm_X10_startSearch hf hr) (fun z1 m1 hm1 => ?_)
  obtain ⟨f1, q1, o1⟩ := hm1
  refine z_istore dX10_extreme_4 (by decide) rfl ?_
  dsimp only [List.set]
  refine z_iload dX10_extreme_6 rfl ?_
  refine z_iconst dX10_extreme_8 (by decide) ?_
  refine z_icmp_eq 29 dX10_extreme_9 (by decide) (fun h9 => ?_) (fun h9 => ?_)
  · have hno : ∀ k, ext six (m1 28) 0 k → ¬ okK nw wd k = true := by
      rcases q1 with q | ⟨S', q, -⟩
      · exact q.2
      · omega
    exact no _ _ _ hno o1
  · obtain ⟨S', hS', hop'⟩ : ∃ S' : Nat, z1 = (S' : Int) ∧ opI nw wd (m1 28) six 0 S' := by
      rcases q1 with q | q
      · exact absurd q.1 h9
      · exact q
    subst hS'
    refine z_aload_n dX10_extreme_12 rfl ?_
    refine z_iconst dX10_extreme_13 (by decide) ?_
    refine z_iload dX10_extreme_14 rfl ?_
    refine z_iload_n dX10_extreme_16 rfl ?_
    refine z_iload_n dX10_extreme_17 rfl ?_
    refine z_iload_n dX10_extreme_18 rfl ?_
    refine z_S6i dX10_extreme_19 ok_X10_seek lk_X10_68 (Nat.le_of_ble_eq_true rfl) (by omega) (cm_X10_seek hdn hl hc' 6 [] six 0 S' m1 rfl (hf.os o1) hr f1 hop') (fun z2 m2 hm2 => ?_)
    obtain ⟨n2, y2⟩ := hm2
    refine z_if_eq 29 dX10_extreme_22 (by decide) (fun h22 => ?_) (fun h22 => ?_)
    · obtain ⟨hmm, n3⟩ := n2 h22
      subst hmm
      exact no _ _ _ n3 o1
    · obtain ⟨x1, x2, k0, x3, x4, x5, x6⟩ := y2 h22
      have oo2 := o1.tr x1
      refine z_iconst dX10_extreme_25 (by decide) ?_
      refine z_goto 30 dX10_extreme_26 (by decide) ?_
      refine z_istore dX10_extreme_30 (by decide) rfl ?_
      dsimp only [List.set]
      refine z_iload dX10_extreme_32 rfl ?_
      refine z_if_eq 49 dX10_extreme_34 (by decide) (fun h34 => ?_) (fun h34 => ?_)
      · omega
      · refine z_aload_n dX10_extreme_37 rfl ?_
        refine z_getR (ty := .int) dX10_extreme_38 fl_X10_27 (by first | rfl | assumption) rfl rfl ?_
        refine z_iload_n dX10_extreme_41 rfl ?_
        refine z_iload_n dX10_extreme_42 rfl ?_
        refine z_S3i dX10_extreme_43 ok_X10_valueOf lk_X10_72 (Nat.le_of_ble_eq_true rfl) (by omega) (cm_X10_valueOf (q := 28) rfl x2 hl hc') (fun z3 m3 hm3 => ?_)
        obtain ⟨hz3, hmm⟩ := hm3
        subst m3
        rw [x5] at hz3
        subst hz3
        refine z_goto 50 dX10_extreme_46 (by decide) ?_
        refine z_iret dX10_extreme_50 rfl ?_
        exact ⟨rfl, _, rfl, rd_of x3 x4 x6, hc.sk oo2, oo2.sa⟩
def rsA (nw : Nat) (wd : Nat → Nat → Int) (l c wh z : Int) : Prop := (¬ (okRow l c ∧ 0 ≤ wh ∧ wh ≤ 1) → z = -2) ∧ (okRow l c ∧ 0 ≤ wh ∧ wh ≤ 1 → rdR nw wd c.toNat l.toNat wh z)
theorem cm_X11_reads {l c wh : Int} (hf : wdC mem nw wd) (hr : wdR nw wd) (hc : wcI mem nw wd) : CM X (0, 0) 11 mX11_reads G0 [vr 0, vi l, vi c, vi wh] mem (pI G0 fun z m => rsA nw wd l c wh z ∧ wcI m nw wd ∧ onSA mem m) := by
  refine CM.of (by decide +kernel) 0 (Nat.le_of_ble_eq_true rfl) ?_
  show ZZ X (0, 0) 11 mX11_reads G0 0 [vr 0, vi l, vi c, vi wh] [] mem _
  refine z_iload_n dX11_reads_0 rfl ?_
  refine z_iload_n dX11_reads_1 rfl ?_
  refine z_S2i dX11_reads_2 ok_X10_isRow lk_X11_159 (Nat.le_of_ble_eq_true rfl) (by decide) (cm_X10_isRow) (fun z1 m1 hm1 => ?_)
  obtain ⟨hz1, hmm⟩ := hm1
  subst hmm
  refine z_if_eq 17 dX11_reads_5 (by decide) (fun h5 => ?_) (fun h5 => ?_)
  · have no1 := hz1.no h5
    refine z_bipush dX11_reads_17 (by decide) ?_
    refine z_iret dX11_reads_19 rfl ?_
    first
    | exact ⟨rfl, _, rfl, ⟨fun _ => rfl, fun q => absurd q.1 no1⟩, hc, onSA.rf⟩
    | exact ⟨rfl, _, rfl, ⟨fun _ => rfl, fun q => absurd q.2 no2⟩, hc, onSA.rf⟩
  · have yes1 := hz1.yes h5
    obtain ⟨l', c', rfl, rfl, a1, a2, a3⟩ := okRow_nat yes1
    refine z_iload_n dX11_reads_8 rfl ?_
    refine z_iconst dX11_reads_9 (by decide) ?_
    refine z_iconst dX11_reads_10 (by decide) ?_
    refine z_S3i dX11_reads_11 ok_X11_within lk_X11_83 (Nat.le_of_ble_eq_true rfl) (by decide) (cm_X11_within) (fun z2 m2 hm2 => ?_)
    obtain ⟨hz2, hmm⟩ := hm2
    subst hmm
    refine z_if_ne 20 dX11_reads_14 (by decide) (fun h14 => ?_) (fun h14 => ?_)
    · have yes2 := hz2.yes h14
      refine z_aload_n dX11_reads_20 rfl ?_
      refine z_getR (ty := .int) dX11_reads_21 fl_X11_40 (by first | rfl | assumption) rfl rfl ?_
      refine z_iload_n dX11_reads_24 rfl ?_
      refine z_iload_n dX11_reads_25 rfl ?_
      refine z_iload_n dX11_reads_26 rfl ?_
      refine z_iconst dX11_reads_27 (by decide) ?_
      refine z_icmp_ne 35 dX11_reads_28 (by decide) (fun h28 => ?_) (fun h28 => ?_)
      · have hwh : wh = 0 := by omega
        refine z_iconst dX11_reads_35 (by decide) ?_
        refine z_V3i dX11_reads_36 ok_X10_extreme lk_X11_174 (by first | rfl | assumption) rfl rfl (Nat.le_of_ble_eq_true rfl) (by decide) (cm_X10_extreme a2 a3 (by omega) hf hr hc) (fun z3 m3 hm3 => ?_)
        refine z_iret dX11_reads_39 rfl ?_
        refine ⟨rfl, _, rfl, ⟨fun q => absurd ⟨yes1, yes2⟩ q, fun _ => ?_⟩, hm3.2⟩
        rw [Int.toNat_natCast, Int.toNat_natCast, hwh]
        exact hm3.1
      · have hwh : wh = 1 := by omega
        refine z_iconst dX11_reads_31 (by decide) ?_
        refine z_goto 36 dX11_reads_32 (by decide) ?_
        refine z_V3i dX11_reads_36 ok_X10_extreme lk_X11_174 (by first | rfl | assumption) rfl rfl (Nat.le_of_ble_eq_true rfl) (by decide) (cm_X10_extreme a2 a3 (by omega) hf hr hc) (fun z3 m3 hm3 => ?_)
        refine z_iret dX11_reads_39 rfl ?_
        refine ⟨rfl, _, rfl, ⟨fun q => absurd ⟨yes1, yes2⟩ q, fun _ => ?_⟩, hm3.2⟩
        rw [Int.toNat_natCast, Int.toNat_natCast, hwh]
        exact hm3.1
    · have no2 := hz2.no h14
      refine z_bipush dX11_reads_17 (by decide) ?_
      refine z_iret dX11_reads_19 rfl ?_
      first
      | exact ⟨rfl, _, rfl, ⟨fun _ => rfl, fun q => absurd q.1 no1⟩, hc, onSA.rf⟩
      | exact ⟨rfl, _, rfl, ⟨fun _ => rfl, fun q => absurd q.2 no2⟩, hc, onSA.rf⟩
end Reads
