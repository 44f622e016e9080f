/-! ===== bits of figures; note ===== -/
theorem ixor_m1 : ∀ U : Fin 1024, ixorV ((U.val : Nat) : Int) (-1) = -((U.val : Nat) : Int) - 1 := by decide +kernel
theorem iand_all : ∀ U : Fin 1024, iandV 1023 (-((U.val : Nat) : Int) - 1) = ((1023 - U.val : Nat) : Int) := by decide +kernel
theorem tb_not : ∀ (U : Fin 1024) (f : Fin 10), (1023 - U.val).testBit f.val = !U.val.testBit f.val := by decide +kernel
theorem or_lt : ∀ (U : Fin 1024) (f : Fin 10), U.val ||| 2 ^ f.val < 1024 := by decide +kernel
theorem or_lt2 {a b : Nat} (ha : a < 1024) (hb : b < 1024) : a ||| b < 1024 := Nat.or_lt_two_pow (n := 10) ha hb
theorem tb_dm (U f : Nat) : U.testBit f = decide (U / 2 ^ f % 2 = 1) := Nat.testBit_eq_decide_div_mod_eq
/-- bits that were there, and those of p -/
def bOr (x y : Int) (p : Nat → Bool) : Prop := ∃ a b : Nat, x = (a : Int) ∧ a < 1024 ∧ y = (b : Int) ∧ b < 1024 ∧ ∀ f : Nat, f < 10 → b.testBit f = (a.testBit f || p f)
theorem bOr.rf {x : Int} (h : ∃ a : Nat, x = (a : Int) ∧ a < 1024) {p : Nat → Bool} (hp : ∀ f : Nat, f < 10 → p f = false) : bOr x x p := by
  obtain ⟨a, h1, h2⟩ := h
  exact ⟨a, a, h1, h2, h1, h2, fun f hf => by rw [hp f hf, Bool.or_false]⟩
theorem bOr.tr {x y z : Int} {p q r : Nat → Bool} (h1 : bOr x y p) (h2 : bOr y z q) (hr : ∀ f : Nat, f < 10 → r f = (p f || q f)) : bOr x z r := by
  obtain ⟨a, b, e1, e2, e3, e4, e5⟩ := h1
  obtain ⟨b', c, f1, f2, f3, f4, f5⟩ := h2
  have : b' = b := by omega
  subst this
  exact ⟨a, c, e1, e2, f3, f4, fun f hf => by rw [f5 f hf, e5 f hf, hr f hf, Bool.or_assoc]⟩
theorem fallN_le : ∀ (n c : Nat), fallN c n ≤ 10 ^ n
  | 0, _ => Nat.le_refl _
  | n + 1, c => by
    have := fallN_le n (c + 1)
    show (10 - c) * fallN (c + 1) n ≤ 10 ^ (n + 1)
    rw [Nat.pow_succ, Nat.mul_comm (10 ^ n) 10]
    exact Nat.mul_le_mul (by omega) this
section Note
variable {X : Nat × (Int → Int)} {mem : Mem}
def bitsR (mem : Mem) : Prop := ∀ l : Nat, l < 6 → ∃ a : Nat, mem 27 (l : Int) = (a : Int) ∧ a < 1024
def noteP (O : List Nat) (g : Int → Int) (U l : Nat) (f : Nat) : Bool := if l ∈ O then decide (g (l : Int) = (f : Int)) else !U.testBit f
theorem cm_X10_note {O R : List Nat} {U : Nat} (hO : ordAt mem O) (hP : ordP O R) (hU : U < 1024) (hg : figR (mem 30)) (hb : bitsR mem) (h0 : 0 ≤ mem 22 6) (h1 : mem 22 6 ≤ 1000000000) : CM X (0, 0) 0 mX10_note G0 [vr 22, vi (U : Int)] mem (pV G0 fun m => m 22 6 = mem 22 6 + (fallN O.length R.length : Int) ∧ (∀ l : Nat, l < 6 → bOr (mem 27 (l : Int)) (m 27 (l : Int)) (noteP O (mem 30) U l)) ∧ (∀ x, x ≠ 22 → x ≠ 27 → m x = mem x) ∧ ∀ j : Int, j ≠ 6 → m 22 j = mem 22 j) := by
  have hlen := hP.len
  refine CM.of (by decide +kernel) 2 (Nat.le_of_ble_eq_true rfl) ?_
  show ZZ X (0, 0) 0 mX10_note G0 0 [vr 22, vi (U : Int), vd, vd] [] mem _
  have two : ∀ (e l : Nat) (m : Mem) (u2 : Int), l + e = 6 → m 22 6 = mem 22 6 + (fallN O.length R.length : Int) → (∀ x, x ≠ 22 → x ≠ 27 → m x = mem x) → (∀ j : Int, j ≠ 6 → m 22 j = mem 22 j) → (∀ l' : Nat, l' < l → bOr (mem 27 (l' : Int)) (m 27 (l' : Int)) (noteP O (mem 30) U l')) → (∀ l' : Nat, l ≤ l' → m 27 (l' : Int) = mem 27 (l' : Int)) → ZZ X (0, 0) 0 mX10_note G0 38 [vr 22, vi (U : Int), vi u2, vi (l : Int)] [] m (pV G0 fun m => m 22 6 = mem 22 6 + (fallN O.length R.length : Int) ∧ (∀ l : Nat, l < 6 → bOr (mem 27 (l : Int)) (m 27 (l : Int)) (noteP O (mem 30) U l)) ∧ (∀ x, x ≠ 22 → x ≠ 27 → m x = mem x) ∧ ∀ j : Int, j ≠ 6 → m 22 j = mem 22 j) := by
    intro e
    induction e with
    | zero =>
      intro l m u2 hl h6 ho1 ho2 hd hn
      have : l = 6 := by omega
      subst this
      refine z_iload_n dX10_note_38 rfl ?_
      refine z_bipush dX10_note_39 (by decide) ?_
      refine z_icmp_ge 87 dX10_note_41 (by decide) (fun h41 => ?_) (fun h41 => ?_)
      · refine z_vret dX10_note_87 rfl ?_
        exact ⟨rfl, rfl, h6, hd, ho1, ho2⟩
      · omega
    | succ e ih =>
      intro l m u2 hl h6 ho1 ho2 hd hn
      obtain ⟨a, ha, ha2⟩ := hb l (by omega)
      have hml : m 27 (l : Int) = (a : Int) := by rw [hn l (Nat.le_refl _)]; exact ha
      have e29 : m 29 = mem 29 := ho1 29 (by decide) (by decide)
      have e30 : m 30 = mem 30 := ho1 30 (by decide) (by decide)
      have hgl := hg l (by omega)
      have nxt : ∀ b : Nat, b < 1024 → (∀ f : Nat, f < 10 → b.testBit f = noteP O (mem 30) U l f) → ZZ X (0, 0) 0 mX10_note G0 79 [vr 22, vi (U : Int), vi u2, vi (l : Int)] [vi (b : Int), vi (a : Int), vi (l : Int), vr 27] m (pV G0 fun m => m 22 6 = mem 22 6 + (fallN O.length R.length : Int) ∧ (∀ l : Nat, l < 6 → bOr (mem 27 (l : Int)) (m 27 (l : Int)) (noteP O (mem 30) U l)) ∧ (∀ x, x ≠ 22 → x ≠ 27 → m x = mem x) ∧ ∀ j : Int, j ≠ 6 → m 22 j = mem 22 j) := by
        intro b hb1 hbp
        refine z_ior dX10_note_79 ?_
        rw [ior_nat (by omega) (by omega)]
        refine z_iast dX10_note_80 (by first | rfl | assumption) (by omega) (by omega) ?_
        refine z_iinc dX10_note_81 rfl (by omega) (by decide) rfl ?_
        dsimp only [List.set]
        refine z_goto 38 dX10_note_84 (by decide) ?_
        refine ih (l + 1) _ _ (by omega) (by rw [mset_ne _ (by decide)]; exact h6) (fun x q1 q2 => by rw [mset_ne _ q2]; exact ho1 x q1 q2) (fun j hj => by rw [mset_ne _ (by decide)]; exact ho2 j hj) (fun l' hl' => ?_) (fun l' hl' => by rw [mset_nej _ _ (by omega)]; exact hn l' (by omega))
        by_cases q : l' = l
        · subst q
          rw [mset_eq, ha]
          exact ⟨a, a ||| b, rfl, ha2, rfl, or_lt2 ha2 hb1, fun f hf => by rw [Nat.testBit_or, hbp f hf]⟩
        · rw [mset_nej _ _ (by omega)]
          exact hd l' (by omega)
      refine z_iload_n dX10_note_38 rfl ?_
      refine z_bipush dX10_note_39 (by decide) ?_
      refine z_icmp_ge 87 dX10_note_41 (by decide) (fun h41 => ?_) (fun h41 => ?_)
      · omega
      · refine z_aload_n dX10_note_44 rfl ?_
        refine z_getR (ty := .int) dX10_note_45 fl_X10_24 (by first | rfl | assumption) rfl rfl ?_
        refine z_iload_n dX10_note_48 rfl ?_
        refine z_dup2 dX10_note_49 (by intro z q; cases q) (by intro z q; cases q) ?_
        refine z_iald dX10_note_50 (by first | rfl | assumption) (by omega) (by omega) ?_
        rw [hml]
        refine z_aload_n dX10_note_51 rfl ?_
        refine z_getR (ty := .int) dX10_note_52 fl_X10_30 (by first | rfl | assumption) rfl rfl ?_
        refine z_iload_n dX10_note_55 rfl ?_
        refine z_iald dX10_note_56 (by first | rfl | assumption) (by omega) (by omega) ?_
        refine z_iconst dX10_note_57 (by decide) ?_
        by_cases q : l ∈ O
        · obtain ⟨k, hk, hka⟩ := mem_getD q
          have h29 := hO.2.2.1 k hk
          rw [hka] at h29
          rw [e29, h29]
          refine z_icmp_ne 71 dX10_note_58 (by decide) (fun h58 => ?_) (fun h58 => ?_)
          · obtain ⟨f0, hf0⟩ : ∃ f0 : Nat, mem 30 (l : Int) = (f0 : Int) := ⟨(mem 30 (l : Int)).toNat, by omega⟩
            refine z_iconst dX10_note_71 (by decide) ?_
            refine z_aload_n dX10_note_72 rfl ?_
            refine z_getR (ty := .int) dX10_note_73 fl_X10_33 (by first | rfl | assumption) rfl rfl ?_
            refine z_iload_n dX10_note_76 rfl ?_
            refine z_iald dX10_note_77 (by first | rfl | assumption) (by omega) (by omega) ?_
            rw [e30, hf0]
            refine z_ishl dX10_note_78 ?_
            rw [shl1' (by omega)]
            refine nxt (2 ^ f0) (by have : 2 ^ f0 ≤ 2 ^ 9 := Nat.pow_le_pow_right (by decide) (by omega); omega) (fun f hf => ?_)
            unfold noteP
            rw [if_pos q, Nat.testBit_two_pow, hf0]
            by_cases t : f0 = f
            · subst t; simp
            · rw [decide_eq_false t, decide_eq_false (by omega)]
          · omega
        rw [e29, hO.2.2.2 l (by omega) q]
        refine z_icmp_ne 71 dX10_note_58 (by decide) (fun h58 => ?_) (fun h58 => ?_)
        · omega
        · refine z_sipush dX10_note_61 (by decide) ?_
          refine z_iload_n dX10_note_64 rfl ?_
          refine z_iconst dX10_note_65 (by decide) ?_
          refine z_ixor dX10_note_66 ?_
          refine z_iand dX10_note_67 ?_
          refine z_goto 79 dX10_note_68 (by decide) ?_
          rw [ixor_m1 ⟨U, hU⟩, iand_all ⟨U, hU⟩]
          refine nxt (1023 - U) (by omega) (fun f hf => ?_)
          unfold noteP
          rw [if_neg q]
          exact tb_not ⟨U, hU⟩ ⟨f, hf⟩
  have one : ∀ (e i : Nat), O.length + i + e = 6 → ZZ X (0, 0) 0 mX10_note G0 7 [vr 22, vi (U : Int), vi (fallN O.length i : Int), vi ((O.length + i : Nat) : Int)] [] mem (pV G0 fun m => m 22 6 = mem 22 6 + (fallN O.length R.length : Int) ∧ (∀ l : Nat, l < 6 → bOr (mem 27 (l : Int)) (m 27 (l : Int)) (noteP O (mem 30) U l)) ∧ (∀ x, x ≠ 22 → x ≠ 27 → m x = mem x) ∧ ∀ j : Int, j ≠ 6 → m 22 j = mem 22 j) := by
    intro e
    induction e with
    | zero =>
      intro i hi
      have : i = R.length := by omega
      subst this
      have hfl := fallN_le R.length O.length
      have hp : 10 ^ R.length ≤ 10 ^ 6 := Nat.pow_le_pow_right (by decide) (by omega)
      refine z_iload_n dX10_note_7 rfl ?_
      refine z_bipush dX10_note_8 (by decide) ?_
      refine z_icmp_ge 26 dX10_note_10 (by decide) (fun h10 => ?_) (fun h10 => ?_)
      · refine z_aload_n dX10_note_26 rfl ?_
        refine z_dup dX10_note_27 (by intro z q; cases q) ?_
        refine z_gI 6 dX10_note_28 fl_X10_60 (by first | rfl | assumption) rfl rfl ?_
        refine z_iload_n dX10_note_31 rfl ?_
        refine z_iadd dX10_note_32 (by omega) ?_
        refine z_pI 6 dX10_note_33 fm_X10_60 (by first | rfl | assumption) rfl rfl ?_
        refine z_iconst dX10_note_36 (by decide) ?_
        refine z_istore_n dX10_note_37 (by decide) rfl ?_
        dsimp only [List.set]
        refine two 6 0 _ _ (by omega) (mset_eq _ _ _ _) (fun x q1 q2 => mset_ne _ q1 _ _) (fun j hj => mset_nej _ _ hj _) (fun l' hl' => by omega) (fun l' _ => by rw [mset_ne _ (by decide)])
      · omega
    | succ e ih =>
      intro i hi
      have ih' := ih (i + 1) (by omega)
      have hfl := fallN_le (i + 1) O.length
      have hp : 10 ^ (i + 1) ≤ 10 ^ 6 := Nat.pow_le_pow_right (by decide) (by omega)
      have hm : (fallN O.length i : Int) * (10 - ((O.length + i : Nat) : Int)) = (fallN O.length (i + 1) : Int) := by
        rw [fallN_top, Int.natCast_mul]
        congr 1
        omega
      rw [← hm] at ih'
      refine z_iload_n dX10_note_7 rfl ?_
      refine z_bipush dX10_note_8 (by decide) ?_
      refine z_icmp_ge 26 dX10_note_10 (by decide) (fun h10 => ?_) (fun h10 => ?_)
      · omega
      · refine z_iload_n dX10_note_13 rfl ?_
        refine z_bipush dX10_note_14 (by decide) ?_
        refine z_iload_n dX10_note_16 rfl ?_
        refine z_isub dX10_note_17 (by omega) ?_
        refine z_imul dX10_note_18 (by omega) ?_
        refine z_istore_n dX10_note_19 (by decide) rfl ?_
        dsimp only [List.set]
        refine z_iinc dX10_note_20 rfl (by omega) (by decide) rfl ?_
        dsimp only [List.set]
        refine z_goto 7 dX10_note_23 (by decide) ?_
        exact ih'
  refine z_iconst dX10_note_0 (by decide) ?_
  refine z_istore_n dX10_note_1 (by decide) rfl ?_
  dsimp only [List.set]
  refine z_aload_n dX10_note_2 rfl ?_
  refine z_gI 10 dX10_note_3 fl_X10_91 (by first | rfl | assumption) rfl rfl ?_
  rw [hO.1]
  refine z_istore_n dX10_note_6 (by decide) rfl ?_
  dsimp only [List.set]
  exact one (6 - O.length) 0 (by omega)
end Note
