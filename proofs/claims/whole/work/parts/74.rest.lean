/-! ===== what is left when every word holds ===== -/
theorem s10_mono {F : Nat → Nat} {a : Nat} : ∀ {b : Nat}, a ≤ b → s10 F a ≤ s10 F b
  | 0, h => by rw [show a = 0 by omega]; exact Nat.le_refl _
  | b + 1, h => by
    by_cases q : a = b + 1
    · rw [q]; exact Nat.le_refl _
    · exact Nat.le_trans (s10_mono (b := b) (by omega)) (Nat.le_add_right _ _)
theorem s10_pw {F H : Nat → Nat} : ∀ {n : Nat}, (∀ i, i < n → F i ≤ H i) → s10 F n ≤ s10 H n
  | 0, _ => Nat.le_refl _
  | n + 1, h => Nat.add_le_add (s10_pw fun i hi => h i (by omega)) (h n (by omega))
theorem cnt_le (P : KP) : ∀ (l : List Nat) (g : Int → Int) (U : Nat), cnt P l g U ≤ fallN (crd U) l.length := by
  intro l g U
  rw [← cnt_true l g U]
  induction l generalizing g U with
  | nil =>
    show (if P g = true then 1 else 0) ≤ 1
    split <;> omega
  | cons b t ih =>
    refine s10_pw fun f _ => ?_
    split
    · exact Nat.le_refl _
    · exact ih _ _
theorem bc_crd : ∀ U : Fin 1024, bcN U.val = crd U.val := by decide +kernel
/-- how many of the letters below l are free -/
def fcN (R : List Nat) (l : Nat) : Nat := s10 (fun a => if a ∈ R then 1 else 0) l
theorem s10_ind {b : Nat} (hb : b < 6) : s10 (fun a => if a = b then 1 else 0) 6 = 1 := by
  have : ∀ b : Fin 6, s10 (fun a => if a = b.val then 1 else 0) 6 = 1 := by decide +kernel
  exact this ⟨b, hb⟩
theorem fcN_six : ∀ {R : List Nat}, R.Nodup → (∀ a ∈ R, a < 6) → fcN R 6 = R.length
  | [], _, _ => by
    unfold fcN
    rw [s10_congr (H := fun _ => 0) fun i _ => if_neg List.not_mem_nil, s10_zero]
    rfl
  | b :: t, hn, h6 => by
    have ih := fcN_six (List.nodup_cons.mp hn).2 (fun a ha => h6 a (List.mem_cons_of_mem _ ha))
    unfold fcN at ih ⊢
    have e : ∀ i, i < 6 → (if i ∈ b :: t then 1 else 0) = (if i = b then 1 else 0) + (if i ∈ t then 1 else 0) := by
      intro i _
      by_cases q : i = b
      · subst q
        rw [if_pos List.mem_cons_self, if_pos rfl, if_neg (List.nodup_cons.mp hn).1]
      · rw [if_neg q]
        by_cases w : i ∈ t
        · rw [if_pos w, if_pos (List.mem_cons_of_mem _ w)]
        · rw [if_neg w, if_neg (fun s => by rcases List.mem_cons.mp s with s | s; exact q s; exact w s)]
    rw [s10_congr e, s10_add, s10_ind (h6 b List.mem_cons_self), ih, List.length_cons]
    omega
theorem fcN_s (R : List Nat) (l : Nat) : fcN R (l + 1) = fcN R l + (if l ∈ R then 1 else 0) := rfl
section Rest
variable {X : Nat × (Int → Int)} {mem : Mem} {O R : List Nat} {U : Nat}
def bitsR (mem : Mem) : Prop := ∀ l : Nat, l < 6 → ∃ a : Nat, mem 27 (l : Int) = (a : Int) ∧ a < 1024
theorem cm_X10_countRest (hs : frS mem O R U) (hb : bitsR mem) : CM X (0, 0) 1 mX10_countRest G0 [vr 22] mem (pI G0 fun z m => z = (fallN O.length R.length : Int) ∧ (∀ l ∈ R, bOr (mem 27 (l : Int)) (m 27 (l : Int)) (fun f => !U.testBit f)) ∧ (∀ l : Nat, l < 6 → l ∉ R → m 27 (l : Int) = mem 27 (l : Int)) ∧ ∀ x, x ≠ 27 → m x = mem x) := by
  have hlen := hs.1.len
  have hU := hs.2.2.2.2.1
  have hc := hs.2.2.2.2.2.1
  have h6 := fcN_six hs.nd (fun a ha => hs.lt ha)
  refine CM.of (by decide +kernel) 3 (Nat.le_of_ble_eq_true rfl) ?_
  show ZZ X (0, 0) 1 mX10_countRest G0 0 [vr 22, vd, vd, vd] [] mem _
  have loop : ∀ (e l : Nat) (m : Mem), l + e = 6 → (∀ x, x ≠ 27 → m x = mem x) → (∀ l' : Nat, l' < l → l' ∈ R → bOr (mem 27 (l' : Int)) (m 27 (l' : Int)) (fun f => !U.testBit f)) → (∀ l' : Nat, l' < 6 → l ≤ l' ∨ l' ∉ R → m 27 (l' : Int) = mem 27 (l' : Int)) → ZZ X (0, 0) 1 mX10_countRest G0 15 [vr 22, vi (fallN O.length (fcN R l) : Int), vi (10 - (O.length : Int) - (fcN R l : Int)), vi (l : Int)] [] m (pI G0 fun z m => z = (fallN O.length R.length : Int) ∧ (∀ l ∈ R, bOr (mem 27 (l : Int)) (m 27 (l : Int)) (fun f => !U.testBit f)) ∧ (∀ l : Nat, l < 6 → l ∉ R → m 27 (l : Int) = mem 27 (l : Int)) ∧ ∀ x, x ≠ 27 → m x = mem x) := by
    intro e
    induction e with
    | zero =>
      intro l m hl ho hd hn
      have : l = 6 := by omega
      subst this
      refine z_iload_n dX10_countRest_15 rfl ?_
      refine z_bipush dX10_countRest_16 (by decide) ?_
      refine z_icmp_ge 66 dX10_countRest_18 (by decide) (fun h18 => ?_) (fun h18 => ?_)
      · refine z_iload_n dX10_countRest_66 rfl ?_
        refine z_iret dX10_countRest_67 rfl ?_
        exact ⟨rfl, _, rfl, by rw [h6], fun l' hl' => hd l' (hs.lt hl') hl', fun l' h1 h2 => hn l' h1 (Or.inr h2), ho⟩
      · omega
    | succ e ih =>
      intro l m hl ho hd hn
      have hmono : fcN R l ≤ fcN R 6 := s10_mono (by omega)
      have hsl := fcN_s R l
      have hmon1 : fcN R (l + 1) ≤ fcN R 6 := s10_mono (by omega)
      have hsm := hs.off (ho 28 (by decide)) (ho 29 (by decide)) (by rw [ho 22 (by decide)])
      obtain ⟨a, ha, ha2⟩ := hb l (by omega)
      have hml : m 27 (l : Int) = (a : Int) := by rw [hn l (by omega) (Or.inl (Nat.le_refl _))]; exact ha
      have h22 : m 22 10 = (U : Int) := hsm.2.2.2.1
      have hfl := fallN_le (fcN R l) O.length
      have hfl1 := fallN_le (fcN R l + 1) O.length
      have hp : 10 ^ (fcN R l + 1) ≤ 10 ^ 7 := Nat.pow_le_pow_right (by decide) (by omega)
      refine z_iload_n dX10_countRest_15 rfl ?_
      refine z_bipush dX10_countRest_16 (by decide) ?_
      refine z_icmp_ge 66 dX10_countRest_18 (by decide) (fun h18 => ?_) (fun h18 => ?_)
      · omega
      · refine z_iload_n dX10_countRest_21 rfl ?_
        refine z_iconst dX10_countRest_22 (by decide) ?_
        refine z_icmp_le 66 dX10_countRest_23 (by decide) (fun h23 => ?_) (fun h23 => ?_)
        · have hfull : fcN R l = R.length := by omega
          have hall : ∀ l' ∈ R, l' < l := by
            intro l' hl'
            refine Classical.byContradiction fun q => ?_
            have h1 : fcN R l ≤ fcN R l' := s10_mono (by omega)
            have h2 := fcN_s R l'
            rw [if_pos hl'] at h2
            have h3 : fcN R (l' + 1) ≤ fcN R 6 := s10_mono (by have := hs.lt hl'; omega)
            omega
          refine z_iload_n dX10_countRest_66 rfl ?_
          refine z_iret dX10_countRest_67 rfl ?_
          refine ⟨rfl, _, rfl, by rw [hfull], fun l' hl' => hd l' (hall l' hl') hl', fun l' h1 h2 => hn l' h1 (Or.inr h2), ho⟩
        · refine z_aload_n dX10_countRest_26 rfl ?_
          refine z_iload_n dX10_countRest_27 rfl ?_
          refine z_V1i dX10_countRest_28 ok_X10_isFree lk_X10_102 (by first | rfl | assumption) rfl rfl (Nat.le_of_ble_eq_true rfl) (by decide) (cm_X10_isFree hsm (by omega)) (fun z1 m1 hm1 => ?_)
          obtain ⟨hz1, rfl⟩ := hm1
          refine z_if_eq 60 dX10_countRest_31 (by decide) (fun h31 => ?_) (fun h31 => ?_)
          · have no := hz1.no h31
            rw [if_neg no] at hsl
            refine z_iinc dX10_countRest_60 rfl (by omega) (by decide) rfl ?_
            dsimp only [List.set]
            refine z_goto 15 dX10_countRest_63 (by decide) ?_
            first
            | (have ih' := ih (l + 1) m1 (by omega) ho (fun l' h1 h2 => hd l' (by by_cases q : l' = l; (exact absurd (q ▸ h2) no); omega) h2) (fun l' h1 h2 => hn l' h1 (h2.imp (fun q => by omega) id))
               rw [hsl, Nat.add_zero] at ih'
               exact ih')
            | (have ih' := ih (l + 1) (mset m1 27 (l : Int) ((a ||| (1023 - U) : Nat) : Int)) (by omega) (fun x hx => by rw [mset_ne _ hx]; exact ho x hx) (fun l' h1 h2 => by
                 by_cases q : l' = l
                 · subst q
                   rw [mset_eq, ha]
                   exact ⟨a, a ||| (1023 - U), rfl, ha2, rfl, or_lt2 ha2 (by omega), fun f hf => by rw [Nat.testBit_or, tb_not ⟨U, hU⟩ ⟨f, hf⟩]⟩
                 · rw [mset_nej _ _ (by omega)]
                   exact hd l' (by omega) h2) (fun l' h1 h2 => by
                 by_cases q : l' = l
                 · subst q
                   rcases h2 with w | w
                   · omega
                   · exact absurd yes w
                 · rw [mset_nej _ _ (by omega)]
                   exact hn l' h1 (h2.imp (fun t => by omega) id))
               rw [hsl, show 10 - (O.length : Int) - ((fcN R l + 1 : Nat) : Int) = 10 - (O.length : Int) - (fcN R l : Int) + -1 by omega] at ih'
               exact ih')
          · have yes := hz1.yes h31
            rw [if_pos yes] at hsl
            have hm : (fallN O.length (fcN R l) : Int) * (10 - (O.length : Int) - (fcN R l : Int)) = (fallN O.length (fcN R l + 1) : Int) := by
              rw [fallN_top, Int.natCast_mul]
              congr 1
              omega
            refine z_aload_n dX10_countRest_34 rfl ?_
            refine z_getR (ty := .int) dX10_countRest_35 fl_X10_24 (by first | rfl | assumption) rfl rfl ?_
            refine z_iload_n dX10_countRest_38 rfl ?_
            refine z_dup2 dX10_countRest_39 (by intro z q; cases q) (by intro z q; cases q) ?_
            refine z_iald dX10_countRest_40 (by first | rfl | assumption) (by omega) (by omega) ?_
            rw [hml]
            refine z_sipush dX10_countRest_41 (by decide) ?_
            refine z_aload_n dX10_countRest_44 rfl ?_
            refine z_gI 10 dX10_countRest_45 fl_X10_76 (by first | rfl | assumption) rfl rfl ?_
            rw [h22]
            refine z_iconst dX10_countRest_48 (by decide) ?_
            refine z_ixor dX10_countRest_49 ?_
            rw [ixor_m1 ⟨U, hU⟩]
            refine z_iand dX10_countRest_50 ?_
            rw [iand_all ⟨U, hU⟩]
            refine z_ior dX10_countRest_51 ?_
            rw [ior_nat (by omega) (by omega)]
            refine z_iast dX10_countRest_52 (by first | rfl | assumption) (by omega) (by omega) ?_
            refine z_iload_n dX10_countRest_53 rfl ?_
            refine z_iload_n dX10_countRest_54 rfl ?_
            refine z_imul dX10_countRest_55 (by rw [hm]; omega) ?_
            rw [hm]
            refine z_istore_n dX10_countRest_56 (by decide) rfl ?_
            dsimp only [List.set]
            refine z_iinc dX10_countRest_57 rfl (by omega) (by decide) rfl ?_
            dsimp only [List.set]
            refine z_iinc dX10_countRest_60 rfl (by omega) (by decide) rfl ?_
            dsimp only [List.set]
            refine z_goto 15 dX10_countRest_63 (by decide) ?_
            first
            | (have ih' := ih (l + 1) m1 (by omega) ho (fun l' h1 h2 => hd l' (by by_cases q : l' = l; (exact absurd (q ▸ h2) no); omega) h2) (fun l' h1 h2 => hn l' h1 (h2.imp (fun q => by omega) id))
               rw [hsl, Nat.add_zero] at ih'
               exact ih')
            | (have ih' := ih (l + 1) (mset m1 27 (l : Int) ((a ||| (1023 - U) : Nat) : Int)) (by omega) (fun x hx => by rw [mset_ne _ hx]; exact ho x hx) (fun l' h1 h2 => by
                 by_cases q : l' = l
                 · subst q
                   rw [mset_eq, ha]
                   exact ⟨a, a ||| (1023 - U), rfl, ha2, rfl, or_lt2 ha2 (by omega), fun f hf => by rw [Nat.testBit_or, tb_not ⟨U, hU⟩ ⟨f, hf⟩]⟩
                 · rw [mset_nej _ _ (by omega)]
                   exact hd l' (by omega) h2) (fun l' h1 h2 => by
                 by_cases q : l' = l
                 · subst q
                   rcases h2 with w | w
                   · omega
                   · exact absurd yes w
                 · rw [mset_nej _ _ (by omega)]
                   exact hn l' h1 (h2.imp (fun t => by omega) id))
               rw [hsl, show 10 - (O.length : Int) - ((fcN R l + 1 : Nat) : Int) = 10 - (O.length : Int) - (fcN R l : Int) + -1 by omega] at ih'
               exact ih')
  refine z_iconst dX10_countRest_0 (by decide) ?_
  refine z_istore_n dX10_countRest_1 (by decide) rfl ?_
  dsimp only [List.set]
  refine z_bipush dX10_countRest_2 (by decide) ?_
  refine z_aload_n dX10_countRest_4 rfl ?_
  refine z_gI 10 dX10_countRest_5 fl_X10_76 (by first | rfl | assumption) rfl rfl ?_
  rw [hs.2.2.2.1]
  refine z_S1i dX10_countRest_8 ok_J6_bitCount_0f7a4 lk_X10_97 (Nat.le_of_ble_eq_true rfl) (by decide) (cm_J6_bitCount) (fun z1 m1 hm1 => ?_)
  obtain ⟨hz1, hmm⟩ := hm1
  rw [bc_eq (by omega), bc_crd ⟨U, hU⟩] at hz1
  dsimp only at hz1
  rw [hc] at hz1
  subst hmm
  subst hz1
  refine z_isub dX10_countRest_11 (by omega) ?_
  refine z_istore_n dX10_countRest_12 (by decide) rfl ?_
  dsimp only [List.set]
  refine z_iconst dX10_countRest_13 (by decide) ?_
  refine z_istore_n dX10_countRest_14 (by decide) rfl ?_
  dsimp only [List.set]
  have h0 := loop 6 0 m1 (by omega) (fun _ _ => rfl) (fun l' hl' => by omega) (fun _ _ _ => rfl)
  rw [show (fcN R 0 : Nat) = 0 from rfl, show 10 - (O.length : Int) - ((0 : Nat) : Int) = 10 - (O.length : Int) by omega] at h0
  exact h0
end Rest
