/-! ===== the reference's keys: leaves ===== -/
theorem iand_m1 : ∀ U : Fin 1024, iandV ((U.val : Nat) : Int) (-1) = ((U.val : Nat) : Int) := by decide +kernel
section KeysM
variable {X : Nat × (Int → Int)} {mem : Mem} {nw : Nat} {wd : Nat → Nat → Int}
theorem cm_X12_valueOf {l c : Nat} (hg : figR (mem 96)) (hl : l ≤ 4) (hc : c < 1296) : CM X (0, 0) 0 mX12_valueOf G0 [vr 88, vi (l : Int), vi (c : Int)] mem (pI G0 fun z m => z = valN (mem 96) c l ∧ m = mem) := by
  refine CM.of (by decide +kernel) 4 (Nat.le_of_ble_eq_true rfl) ?_
  show ZZ X (0, 0) 0 mX12_valueOf G0 0 [vr 88, vi (l : Int), vi (c : Int), vd, vd, vd, vd] [] mem _
  have loop : ∀ (e i : Nat), i + e = l → ZZ X (0, 0) 0 mX12_valueOf G0 11 [vr 88, vi (l : Int), vi (c : Int), vi (valN (mem 96) c i), vi ((10 ^ i : Nat) : Int), vi ((c / 6 ^ i : Nat) : Int), vi (i : Int)] [] mem (pI G0 fun z m => z = valN (mem 96) c l ∧ m = mem) := by
    intro e
    induction e with
    | zero =>
      intro i hi
      have : i = l := by omega
      subst this
      refine z_iload dX12_valueOf_11 rfl ?_
      refine z_iload_n dX12_valueOf_13 rfl ?_
      refine z_icmp_ge 53 dX12_valueOf_14 (by decide) (fun h14 => ?_) (fun h14 => ?_)
      · refine z_iload_n dX12_valueOf_53 rfl ?_
        refine z_iret dX12_valueOf_54 rfl ?_
        exact ⟨rfl, _, rfl, rfl, rfl⟩
      · omega
    | succ e ih =>
      intro i hi
      have ih' := ih (i + 1) (by omega)
      have h6 := ltr_lt c i
      have hf := hg (ltr c i) h6
      have hv := valN_bd hg c i
      have hp : 10 ^ i ≤ 10 ^ 4 := Nat.pow_le_pow_right (by decide) (by omega)
      have hp0 : 0 < 10 ^ i := Nat.pow_pos (by decide)
      have hcd : c / 6 ^ i ≤ c := Nat.div_le_self _ _
      have e1 : ((c / 6 ^ i : Nat) : Int) % 6 = ((ltr c i : Nat) : Int) := rfl
      have e2 : ((c / 6 ^ i : Nat) : Int) / 6 = ((c / 6 ^ (i + 1) : Nat) : Int) := by
        rw [Nat.pow_succ, ← Nat.div_div_eq_div_mul]
        rfl
      have e3 : ((10 ^ i : Nat) : Int) * 10 = ((10 ^ (i + 1) : Nat) : Int) := by
        rw [Nat.pow_succ]
        omega
      have m1 := Int.mul_nonneg (show (0 : Int) ≤ ((10 ^ i : Nat) : Int) by omega) hf.1
      have m2 := Int.mul_le_mul_of_nonneg_left hf.2 (show (0 : Int) ≤ ((10 ^ i : Nat) : Int) by omega)
      have hvn : valN (mem 96) c (i + 1) = valN (mem 96) c i + ((10 ^ i : Nat) : Int) * mem 96 ((ltr c i : Nat) : Int) := rfl
      rw [hvn, ← e2, ← e3] at ih'
      have hC0 : (0 : Int) ≤ ((c / 6 ^ i : Nat) : Int) := Int.natCast_nonneg _
      generalize hP : ((10 ^ i : Nat) : Int) = P at *
      generalize hC : ((c / 6 ^ i : Nat) : Int) = C at *
      refine z_iload dX12_valueOf_11 rfl ?_
      refine z_iload_n dX12_valueOf_13 rfl ?_
      refine z_icmp_ge 53 dX12_valueOf_14 (by decide) (fun h14 => ?_) (fun h14 => ?_)
      · omega
      · refine z_iload_n dX12_valueOf_17 rfl ?_
        refine z_iload dX12_valueOf_18 rfl ?_
        refine z_aload_n dX12_valueOf_20 rfl ?_
        refine z_getR (ty := .int) dX12_valueOf_21 fl_X12_31 (by first | rfl | assumption) rfl rfl ?_
        refine z_iload dX12_valueOf_24 rfl ?_
        refine z_bipush dX12_valueOf_26 (by decide) ?_
        refine z_iremp dX12_valueOf_28 (by omega) (by omega) ?_
        rw [e1]
        refine z_iald dX12_valueOf_29 (by first | rfl | assumption) (by omega) (by omega) ?_
        refine z_imul dX12_valueOf_30 (by omega) ?_
        refine z_iadd dX12_valueOf_31 (by omega) ?_
        refine z_istore_n dX12_valueOf_32 (by decide) rfl ?_
        dsimp only [List.set]
        refine z_iload dX12_valueOf_33 rfl ?_
        refine z_bipush dX12_valueOf_35 (by decide) ?_
        refine z_idiv dX12_valueOf_37 (by omega) (by omega) ?_
        refine z_istore dX12_valueOf_38 (by decide) rfl ?_
        dsimp only [List.set]
        refine z_iload dX12_valueOf_40 rfl ?_
        refine z_bipush dX12_valueOf_42 (by decide) ?_
        refine z_imul dX12_valueOf_44 (by omega) ?_
        refine z_istore dX12_valueOf_45 (by decide) rfl ?_
        dsimp only [List.set]
        refine z_iinc dX12_valueOf_47 rfl (by omega) (by decide) rfl ?_
        dsimp only [List.set]
        refine z_goto 11 dX12_valueOf_50 (by decide) ?_
        exact ih'
  refine z_iconst dX12_valueOf_0 (by decide) ?_
  refine z_istore_n dX12_valueOf_1 (by decide) rfl ?_
  dsimp only [List.set]
  refine z_iconst dX12_valueOf_2 (by decide) ?_
  refine z_istore dX12_valueOf_3 (by decide) rfl ?_
  dsimp only [List.set]
  refine z_iload_n dX12_valueOf_5 rfl ?_
  refine z_istore dX12_valueOf_6 (by decide) rfl ?_
  dsimp only [List.set]
  refine z_iconst dX12_valueOf_8 (by decide) ?_
  refine z_istore dX12_valueOf_9 (by decide) rfl ?_
  dsimp only [List.set]
  refine (show (c : Int) = ((c / 6 ^ 0 : Nat) : Int) by rw [Nat.pow_zero, Nat.div_one]) ▸ loop l 0 (by omega)
theorem cm_X12_holds (hf : wdM mem nw wd) (hr : wdR nw wd) (hg : figR (mem 96)) : CM X (0, 0) 1 mX12_holds G0 [vr 88] mem (pI G0 fun z m => bT z (okK nw wd (mem 96) = true) ∧ m = mem) := by
  have hn := hf.1
  rw [okK_iff]
  refine CM.of (by decide +kernel) 1 (Nat.le_of_ble_eq_true rfl) ?_
  show ZZ X (0, 0) 1 mX12_holds G0 0 [vr 88, vd] [] mem _
  have loop : ∀ (e w : Nat), w + e = nw → (∀ v : Nat, v < w → okWP wd (mem 96) v) → ZZ X (0, 0) 1 mX12_holds G0 2 [vr 88, vi (w : Int)] [] mem (pI G0 fun z m => bT z (∀ w : Nat, w < nw → okWP wd (mem 96) w) ∧ m = mem) := by
    intro e
    induction e with
    | zero =>
      intro w hw hd
      have : w = nw := by omega
      subst this
      refine z_iload_n dX12_holds_2 rfl ?_
      refine z_aload_n dX12_holds_3 rfl ?_
      refine z_gI 13 dX12_holds_4 fl_X12_223 (by first | rfl | assumption) rfl rfl ?_
      rw [hf.2.1]
      refine z_icmp_ge 69 dX12_holds_7 (by decide) (fun h7 => ?_) (fun h7 => ?_)
      · refine z_iconst dX12_holds_69 (by decide) ?_
        refine z_zret dX12_holds_70 rfl (by first | exact Or.inl rfl | exact Or.inr rfl | assumption | (split <;> simp) | omega) ?_
        exact ⟨rfl, _, rfl, Or.inl ⟨rfl, hd⟩, rfl⟩
      · omega
    | succ e ih =>
      intro w hw hd
      obtain ⟨l, c, e0, e1, hl1, hl4, hc⟩ := hr.at (show w < nw by omega)
      have c0 := hf.2.2 0 w (by decide) (by omega)
      have c1 := hf.2.2 1 w (by decide) (by omega)
      have c2 := hf.2.2 2 w (by decide) (by omega)
      have c3 := hf.2.2 3 w (by decide) (by omega)
      rw [show 4 * (w : Int) + ((0 : Nat) : Int) = 4 * (w : Int) by omega] at c0
      rw [show ((1 : Nat) : Int) = 1 from rfl] at c1
      rw [show ((2 : Nat) : Int) = 2 from rfl] at c2
      rw [show ((3 : Nat) : Int) = 3 from rfl] at c3
      refine z_iload_n dX12_holds_2 rfl ?_
      refine z_aload_n dX12_holds_3 rfl ?_
      refine z_gI 13 dX12_holds_4 fl_X12_223 (by first | rfl | assumption) rfl rfl ?_
      rw [hf.2.1]
      refine z_icmp_ge 69 dX12_holds_7 (by decide) (fun h7 => ?_) (fun h7 => ?_)
      · omega
      · refine z_aload_n dX12_holds_10 rfl ?_
        refine z_aload_n dX12_holds_11 rfl ?_
        refine z_getR (ty := .int) dX12_holds_12 fl_X12_28 (by first | rfl | assumption) rfl rfl ?_
        refine z_iconst dX12_holds_15 (by decide) ?_
        refine z_iload_n dX12_holds_16 rfl ?_
        refine z_imul dX12_holds_17 (by omega) ?_
        refine z_iald dX12_holds_18 (by first | rfl | assumption) (by omega) (by omega) ?_
        rw [c0, e0]
        refine z_aload_n dX12_holds_19 rfl ?_
        refine z_getR (ty := .int) dX12_holds_20 fl_X12_28 (by first | rfl | assumption) rfl rfl ?_
        refine z_iconst dX12_holds_23 (by decide) ?_
        refine z_iload_n dX12_holds_24 rfl ?_
        refine z_imul dX12_holds_25 (by omega) ?_
        refine z_iconst dX12_holds_26 (by decide) ?_
        refine z_iadd dX12_holds_27 (by omega) ?_
        refine z_iald dX12_holds_28 (by first | rfl | assumption) (by omega) (by omega) ?_
        rw [c1, e1]
        refine z_V2i dX12_holds_29 ok_X12_valueOf lk_X12_226 (by first | rfl | assumption) rfl rfl (Nat.le_of_ble_eq_true rfl) (by decide) (cm_X12_valueOf hg hl4 hc) (fun z1 m1 hm1 => ?_)
        obtain ⟨rfl, hmm⟩ := hm1
        subst hmm
        refine z_i2l dX12_holds_32 ?_
        refine z_aload_n dX12_holds_33 rfl ?_
        refine z_getR (ty := .int) dX12_holds_34 fl_X12_28 (by first | rfl | assumption) rfl rfl ?_
        refine z_iconst dX12_holds_37 (by decide) ?_
        refine z_iload_n dX12_holds_38 rfl ?_
        refine z_imul dX12_holds_39 (by omega) ?_
        refine z_iconst dX12_holds_40 (by decide) ?_
        refine z_iadd dX12_holds_41 (by omega) ?_
        refine z_iald dX12_holds_42 (by first | rfl | assumption) (by omega) (by omega) ?_
        rw [c2]
        refine z_i2l dX12_holds_43 ?_
        refine z_aload_n dX12_holds_44 rfl ?_
        refine z_getR (ty := .int) dX12_holds_45 fl_X12_28 (by first | rfl | assumption) rfl rfl ?_
        refine z_iconst dX12_holds_48 (by decide) ?_
        refine z_iload_n dX12_holds_49 rfl ?_
        refine z_imul dX12_holds_50 (by omega) ?_
        refine z_iconst dX12_holds_51 (by decide) ?_
        refine z_iadd dX12_holds_52 (by omega) ?_
        refine z_iald dX12_holds_53 (by first | rfl | assumption) (by omega) (by omega) ?_
        rw [c3]
        refine z_i2l dX12_holds_54 ?_
        refine z_S3i dX12_holds_55 ok_X12_in lk_X12_97 (Nat.le_of_ble_eq_true rfl) (by decide) (cm_X12_in) (fun z2 m2 hm2 => ?_)
        obtain ⟨hz2, hmm⟩ := hm2
        subst hmm
        refine z_if_ne 63 dX12_holds_58 (by decide) (fun h58 => ?_) (fun h58 => ?_)
        · have ok := hz2.yes h58
          refine z_iinc dX12_holds_63 rfl (by omega) (by decide) rfl ?_
          dsimp only [List.set]
          refine z_goto 2 dX12_holds_66 (by decide) ?_
          refine ih (w + 1) (by omega) (fun v hv => ?_)
          by_cases q : v = w
          · subst q
            unfold okWP
            rw [e0, e1, Int.toNat_natCast, Int.toNat_natCast]
            exact ok
          · exact hd v (by omega)
        · have no := hz2.no h58
          refine z_iconst dX12_holds_61 (by decide) ?_
          refine z_zret dX12_holds_62 rfl (by first | exact Or.inl rfl | exact Or.inr rfl | assumption | (split <;> simp) | omega) ?_
          refine ⟨rfl, _, rfl, Or.inr ⟨rfl, fun q => no ?_⟩, rfl⟩
          have := q w (by omega)
          unfold okWP at this
          rw [e0, e1, Int.toNat_natCast, Int.toNat_natCast] at this
          exact this
  refine z_iconst dX12_holds_0 (by decide) ?_
  refine z_istore_n dX12_holds_1 (by decide) rfl ?_
  dsimp only [List.set]
  exact loop nw 0 (by omega) (fun v hv => by omega)
/-- what the reference has noted of the keys K -/
def stR (m : Mem) (c n : Nat) (K : KP → Nat) : Prop := (m 88 17 = (n : Int) ∧ m 88 18 = (c : Int)) ∧ m 88 15 = (K trP : Int) ∧ (∀ l : Nat, l < 6 → ∃ x : Nat, m 97 (l : Int) = (x : Int) ∧ x < 1024 ∧ ∀ f : Nat, f < 10 → x.testBit f = decide (0 < K (fgP l f))) ∧ (∀ P, resp P → K P ≤ K trP) ∧ (0 < K trP → (0 < K (vlP c n (m 88 19)) ∧ ∀ v : Int, v < m 88 19 → K (vlP c n v) = 0) ∧ (0 < K (vlP c n (m 88 20)) ∧ ∀ v : Int, m 88 20 < v → K (vlP c n v) = 0))
theorem stR.congr {m : Mem} {c n : Nat} {K K' : KP → Nat} (h : stR m c n K) (hK : ∀ P, resp P → K' P = K P) : stR m c n K' := by
  obtain ⟨h1, h2, h3, h4, h5⟩ := h
  refine ⟨h1, by rw [hK _ trP_resp]; exact h2, fun l hl => ?_, fun P hP => by rw [hK P hP, hK _ trP_resp]; exact h4 P hP, fun q => ?_⟩
  · obtain ⟨x, a1, a2, a3⟩ := h3 l hl
    exact ⟨x, a1, a2, fun f hf => by rw [a3 f hf, hK _ (fgP_resp hl)]⟩
  · rw [hK _ trP_resp] at q
    obtain ⟨⟨a1, a2⟩, b1, b2⟩ := h5 q
    exact ⟨⟨by rw [hK _ (vlP_resp c n _)]; exact a1, fun v hv => by rw [hK _ (vlP_resp c n _)]; exact a2 v hv⟩, by rw [hK _ (vlP_resp c n _)]; exact b1, fun v hv => by rw [hK _ (vlP_resp c n _)]; exact b2 v hv⟩
theorem stR.off {m m' : Mem} {c n : Nat} {K : KP → Nat} (h : stR m c n K) (h88 : m' 88 = m 88) (h97 : m' 97 = m 97) : stR m' c n K := by
  unfold stR
  rw [h88, h97]
  exact h
def onKy (mem m : Mem) : Prop := (∀ x, x ≠ 88 → x ≠ 96 → x ≠ 97 → m x = mem x) ∧ ∀ j : Int, j ≠ 15 → j ≠ 17 → j ≠ 18 → j ≠ 19 → j ≠ 20 → m 88 j = mem 88 j
theorem onKy.tr {m1 m2 : Mem} (h : onKy mem m1) (h2 : onKy m1 m2) : onKy mem m2 := ⟨fun x a b c => (h2.1 x a b c).trans (h.1 x a b c), fun j a b c d e => (h2.2 j a b c d e).trans (h.2 j a b c d e)⟩
theorem onKy.rf : onKy mem mem := ⟨fun _ _ _ _ => rfl, fun _ _ _ _ _ _ => rfl⟩
theorem one_le (P : KP) (g : Int → Int) : (if P g = true then 1 else 0) ≤ 1 := by split <;> omega
theorem cm_X12_notes {c n : Nat} {K : KP → Nat} (hg : figR (mem 96)) (hl : n ≤ 4) (hc : c < 1296) (hK : K trP < 1000000) (h : stR mem c n K) : CM X (0, 0) 1 mX12_notes G0 [vr 88] mem (pV G0 fun m => stR m c n (fun P => K P + if P (mem 96) = true then 1 else 0) ∧ m 96 = mem 96 ∧ onKy mem m) := by
  obtain ⟨⟨i17, i18⟩, h15, hbit, hle, hrd⟩ := h
  refine CM.of (by decide +kernel) 1 (Nat.le_of_ble_eq_true rfl) ?_
  show ZZ X (0, 0) 1 mX12_notes G0 0 [vr 88, vd] [] mem _
  have last : ∀ (m : Mem), m 88 15 = (K trP : Int) + 1 → (∀ l : Nat, l < 6 → ∃ x : Nat, m 97 (l : Int) = (x : Int) ∧ x < 1024 ∧ ∀ f : Nat, f < 10 → x.testBit f = decide (0 < K (fgP l f) + if fgP l f (mem 96) = true then 1 else 0)) → (∀ x, x ≠ 88 → x ≠ 97 → m x = mem x) → (∀ j : Int, j ≠ 15 → m 88 j = mem 88 j) → ZZ X (0, 0) 1 mX12_notes G0 41 [vr 88, vi 6] [] m (pV G0 fun m => stR m c n (fun P => K P + if P (mem 96) = true then 1 else 0) ∧ m 96 = mem 96 ∧ onKy mem m) := by
    intro m m15 mb mo mj
    have e96 : m 96 = mem 96 := mo 96 (by decide) (by decide)
    have j17 : m 88 17 = (n : Int) := (mj 17 (by decide)).trans i17
    have j18 : m 88 18 = (c : Int) := (mj 18 (by decide)).trans i18
    have j19 : m 88 19 = mem 88 19 := mj 19 (by decide)
    have j20 : m 88 20 = mem 88 20 := mj 20 (by decide)
    obtain ⟨v, hv⟩ : ∃ v, v = valN (mem 96) c n := ⟨_, rfl⟩
    have hvv : vlP c n v (mem 96) = true := decide_eq_true hv.symm
    have hvn : ∀ t : Int, t ≠ v → vlP c n t (mem 96) = false := fun t ht => decide_eq_false (fun q => ht (by rw [hv]; exact q.symm))
    have end2 : ∀ (a b : Int), (if K trP = 0 ∨ v < mem 88 19 then a = v else a = mem 88 19) → (if K trP = 0 ∨ mem 88 20 < v then b = v else b = mem 88 20) → stR (mset (mset m 88 19 a) 88 20 b) c n (fun P => K P + if P (mem 96) = true then 1 else 0) ∧ (mset (mset m 88 19 a) 88 20 b) 96 = mem 96 ∧ onKy mem (mset (mset m 88 19 a) 88 20 b) := by
      intro a b ha hb
      have e19 : mset (mset m 88 19 a) 88 20 b 88 19 = a := by rw [mset_nej _ _ (by decide)]; exact mset_eq _ _ _ _
      have e20 : mset (mset m 88 19 a) 88 20 b 88 20 = b := mset_eq _ _ _ _
      refine ⟨⟨⟨?_, ?_⟩, ?_, fun l hl => ?_, fun P hP => ?_, fun _ => ⟨?_, ?_⟩⟩, ?_, fun x q1 q2 q3 => ?_, fun j q1 q2 q3 q4 q5 => ?_⟩
      · rw [mset_nej _ _ (by decide), mset_nej _ _ (by decide)]; exact j17
      · rw [mset_nej _ _ (by decide), mset_nej _ _ (by decide)]; exact j18
      · rw [mset_nej _ _ (by decide), mset_nej _ _ (by decide), m15]
        show _ = ((K trP + 1 : Nat) : Int)
        omega
      · rw [mset_ne _ (by decide), mset_ne _ (by decide)]; exact mb l hl
      · have := hle P hP
        have := one_le P (mem 96)
        show K P + _ ≤ K trP + 1
        omega
      · rw [e19]
        by_cases q : K trP = 0 ∨ v < mem 88 19
        · rw [if_pos q] at ha
          subst ha
          refine ⟨by dsimp only; rw [hvv]; show 0 < K (vlP c n a) + 1; omega, fun t ht => ?_⟩
          dsimp only
          rw [hvn t (by omega)]
          show K (vlP c n t) + 0 = 0
          rcases q with q | q
          · have := hle _ (vlP_resp c n t); omega
          · by_cases w : 0 < K trP
            · rw [(hrd w).1.2 t (by omega)]
            · have := hle _ (vlP_resp c n t); omega
        · rw [if_neg q] at ha
          have hd := (hrd (by omega)).1
          rw [ha]
          refine ⟨by have := hd.1; dsimp only; omega, fun t ht => ?_⟩
          dsimp only
          rw [hvn t (by omega), hd.2 t ht]
          rfl
      · rw [e20]
        by_cases q : K trP = 0 ∨ mem 88 20 < v
        · rw [if_pos q] at hb
          subst hb
          refine ⟨by dsimp only; rw [hvv]; show 0 < K (vlP c n b) + 1; omega, fun t ht => ?_⟩
          dsimp only
          rw [hvn t (by omega)]
          show K (vlP c n t) + 0 = 0
          rcases q with q | q
          · have := hle _ (vlP_resp c n t); omega
          · by_cases w : 0 < K trP
            · rw [(hrd w).2.2 t (by omega)]
            · have := hle _ (vlP_resp c n t); omega
        · rw [if_neg q] at hb
          have hd := (hrd (by omega)).2
          rw [hb]
          refine ⟨by have := hd.1; dsimp only; omega, fun t ht => ?_⟩
          dsimp only
          rw [hvn t (by omega), hd.2 t ht]
          rfl
      · rw [mset_ne _ (by decide), mset_ne _ (by decide)]; exact e96
      · rw [mset_ne _ q1, mset_ne _ q1]; exact mo x q1 q3
      · rw [mset_nej _ _ q5, mset_nej _ _ q4]; exact mj j q1
    have t2 : ∀ (a : Int) (x : Int), (if K trP = 0 ∨ v < mem 88 19 then a = v else a = mem 88 19) → x = v → ZZ X (0, 0) 1 mX12_notes G0 82 [vr 88, vi x] [] (mset m 88 19 a) (pV G0 fun m => stR m c n (fun P => K P + if P (mem 96) = true then 1 else 0) ∧ m 96 = mem 96 ∧ onKy mem m) := by
      intro a x ha hx
      subst hx
      have k15 : mset m 88 19 a 88 15 = (K trP : Int) + 1 := by rw [mset_nej _ _ (by decide)]; exact m15
      have k20 : mset m 88 19 a 88 20 = mem 88 20 := by rw [mset_nej _ _ (by decide)]; exact j20
      refine z_aload_n dX12_notes_82 rfl ?_
      refine z_aload_n dX12_notes_83 rfl ?_
      refine z_gI 15 dX12_notes_84 fl_X12_229 (by first | rfl | assumption) rfl rfl ?_
      rw [k15]
      refine z_iconst dX12_notes_87 (by decide) ?_
      refine z_icmp_eq 99 dX12_notes_88 (by decide) (fun h88 => ?_) (fun h88 => ?_)
      · refine z_iload_n dX12_notes_99 rfl ?_
        refine z_goto 107 dX12_notes_100 (by decide) ?_
        refine z_pI 20 dX12_notes_107 fm_X12_241 (by first | rfl | assumption) rfl rfl ?_
        refine z_vret dX12_notes_110 rfl ?_
        refine ⟨rfl, rfl, end2 _ _ ha ?_⟩
        first
        | (rw [if_pos (by omega)])
        | (rw [if_neg (by omega)])
      · refine z_iload_n dX12_notes_91 rfl ?_
        refine z_aload_n dX12_notes_92 rfl ?_
        refine z_gI 20 dX12_notes_93 fl_X12_241 (by first | rfl | assumption) rfl rfl ?_
        rw [k20]
        refine z_icmp_le 103 dX12_notes_96 (by decide) (fun h96 => ?_) (fun h96 => ?_)
        · refine z_aload_n dX12_notes_103 rfl ?_
          refine z_gI 20 dX12_notes_104 fl_X12_241 (by first | rfl | assumption) rfl rfl ?_
          rw [k20]
          refine z_pI 20 dX12_notes_107 fm_X12_241 (by first | rfl | assumption) rfl rfl ?_
          refine z_vret dX12_notes_110 rfl ?_
          refine ⟨rfl, rfl, end2 _ _ ha ?_⟩
          first
          | (rw [if_pos (by omega)])
          | (rw [if_neg (by omega)])
        · refine z_iload_n dX12_notes_99 rfl ?_
          refine z_goto 107 dX12_notes_100 (by decide) ?_
          refine z_pI 20 dX12_notes_107 fm_X12_241 (by first | rfl | assumption) rfl rfl ?_
          refine z_vret dX12_notes_110 rfl ?_
          refine ⟨rfl, rfl, end2 _ _ ha ?_⟩
          first
          | (rw [if_pos (by omega)])
          | (rw [if_neg (by omega)])
    refine z_aload_n dX12_notes_41 rfl ?_
    refine z_aload_n dX12_notes_42 rfl ?_
    refine z_gI 17 dX12_notes_43 fl_X12_232 (by first | rfl | assumption) rfl rfl ?_
    rw [j17]
    refine z_aload_n dX12_notes_46 rfl ?_
    refine z_gI 18 dX12_notes_47 fl_X12_235 (by first | rfl | assumption) rfl rfl ?_
    rw [j18]
    refine z_V2i dX12_notes_50 ok_X12_valueOf lk_X12_226 (by first | rfl | assumption) rfl rfl (Nat.le_of_ble_eq_true rfl) (by decide) (cm_X12_valueOf (by rw [e96]; exact hg) hl hc) (fun z1 m1 hm1 => ?_)
    obtain ⟨hz1, hmm⟩ := hm1
    subst hmm
    rw [e96, ← hv] at hz1
    refine z_istore_n dX12_notes_53 (by decide) rfl ?_
    dsimp only [List.set]
    refine z_aload_n dX12_notes_54 rfl ?_
    refine z_aload_n dX12_notes_55 rfl ?_
    refine z_gI 15 dX12_notes_56 fl_X12_229 (by first | rfl | assumption) rfl rfl ?_
    rw [m15]
    refine z_iconst dX12_notes_59 (by decide) ?_
    refine z_icmp_eq 71 dX12_notes_60 (by decide) (fun h60 => ?_) (fun h60 => ?_)
    · refine z_iload_n dX12_notes_71 rfl ?_
      refine z_goto 79 dX12_notes_72 (by decide) ?_
      refine z_pI 19 dX12_notes_79 fm_X12_238 (by first | rfl | assumption) rfl rfl ?_
      refine t2 _ _ ?_ hz1
      first
      | (rw [if_pos (by omega)]; exact hz1)
      | (rw [if_neg (by omega)])
    · refine z_iload_n dX12_notes_63 rfl ?_
      refine z_aload_n dX12_notes_64 rfl ?_
      refine z_gI 19 dX12_notes_65 fl_X12_238 (by first | rfl | assumption) rfl rfl ?_
      rw [j19]
      refine z_icmp_ge 75 dX12_notes_68 (by decide) (fun h68 => ?_) (fun h68 => ?_)
      · refine z_aload_n dX12_notes_75 rfl ?_
        refine z_gI 19 dX12_notes_76 fl_X12_238 (by first | rfl | assumption) rfl rfl ?_
        rw [j19]
        refine z_pI 19 dX12_notes_79 fm_X12_238 (by first | rfl | assumption) rfl rfl ?_
        refine t2 _ _ ?_ hz1
        first
        | (rw [if_pos (by omega)]; exact hz1)
        | (rw [if_neg (by omega)])
      · refine z_iload_n dX12_notes_71 rfl ?_
        refine z_goto 79 dX12_notes_72 (by decide) ?_
        refine z_pI 19 dX12_notes_79 fm_X12_238 (by first | rfl | assumption) rfl rfl ?_
        refine t2 _ _ ?_ hz1
        first
        | (rw [if_pos (by omega)]; exact hz1)
        | (rw [if_neg (by omega)])
  have loop : ∀ (e l : Nat) (m : Mem), l + e = 6 → m 88 15 = (K trP : Int) + 1 → (∀ l' : Nat, l' < l → ∃ x : Nat, m 97 (l' : Int) = (x : Int) ∧ x < 1024 ∧ ∀ f : Nat, f < 10 → x.testBit f = decide (0 < K (fgP l' f) + if fgP l' f (mem 96) = true then 1 else 0)) → (∀ l' : Nat, l ≤ l' → m 97 (l' : Int) = mem 97 (l' : Int)) → (∀ x, x ≠ 88 → x ≠ 97 → m x = mem x) → (∀ j : Int, j ≠ 15 → m 88 j = mem 88 j) → ZZ X (0, 0) 1 mX12_notes G0 12 [vr 88, vi (l : Int)] [] m (pV G0 fun m => stR m c n (fun P => K P + if P (mem 96) = true then 1 else 0) ∧ m 96 = mem 96 ∧ onKy mem m) := by
    intro e
    induction e with
    | zero =>
      intro l m hl' m15 hd hn mo mj
      have : l = 6 := by omega
      subst this
      refine z_iload_n dX12_notes_12 rfl ?_
      refine z_bipush dX12_notes_13 (by decide) ?_
      refine z_icmp_ge 41 dX12_notes_15 (by decide) (fun h15 => ?_) (fun h15 => ?_)
      · exact last m m15 hd mo mj
      · omega
    | succ e ih =>
      intro l m hl' m15 hd hn mo mj
      obtain ⟨a, a1, a2, a3⟩ := hbit l (by omega)
      have hml : m 97 (l : Int) = (a : Int) := by rw [hn l (Nat.le_refl _)]; exact a1
      have hgl := hg l (by omega)
      obtain ⟨f0, hf0⟩ : ∃ f0 : Nat, mem 96 (l : Int) = (f0 : Int) := ⟨(mem 96 (l : Int)).toNat, by omega⟩
      have hm96 : m 96 (l : Int) = (f0 : Int) := by rw [mo 96 (by decide) (by decide)]; exact hf0
      have h2f : 2 ^ f0 ≤ 2 ^ 9 := Nat.pow_le_pow_right (by decide) (by omega)
      refine z_iload_n dX12_notes_12 rfl ?_
      refine z_bipush dX12_notes_13 (by decide) ?_
      refine z_icmp_ge 41 dX12_notes_15 (by decide) (fun h15 => ?_) (fun h15 => ?_)
      · omega
      · refine z_aload_n dX12_notes_18 rfl ?_
        refine z_getR (ty := .int) dX12_notes_19 fl_X12_34 (by first | rfl | assumption) rfl rfl ?_
        refine z_iload_n dX12_notes_22 rfl ?_
        refine z_dup2 dX12_notes_23 (by intro z q; cases q) (by intro z q; cases q) ?_
        refine z_iald dX12_notes_24 (by first | rfl | assumption) (by omega) (by omega) ?_
        rw [hml]
        refine z_iconst dX12_notes_25 (by decide) ?_
        refine z_aload_n dX12_notes_26 rfl ?_
        refine z_getR (ty := .int) dX12_notes_27 fl_X12_31 (by first | rfl | assumption) rfl rfl ?_
        refine z_iload_n dX12_notes_30 rfl ?_
        refine z_iald dX12_notes_31 (by first | rfl | assumption) (by omega) (by omega) ?_
        rw [hm96]
        refine z_ishl dX12_notes_32 ?_
        rw [shl1' (by omega)]
        refine z_ior dX12_notes_33 ?_
        rw [ior_nat (by omega) (by omega)]
        refine z_iast dX12_notes_34 (by first | rfl | assumption) (by omega) (by omega) ?_
        refine z_iinc dX12_notes_35 rfl (by omega) (by decide) rfl ?_
        dsimp only [List.set]
        refine z_goto 12 dX12_notes_38 (by decide) ?_
        refine ih (l + 1) _ (by omega) (by rw [mset_ne _ (by decide)]; exact m15) (fun l' hl'' => ?_) (fun l' hl'' => by rw [mset_nej _ _ (by omega)]; exact hn l' (by omega)) (fun x q1 q2 => by rw [mset_ne _ q2]; exact mo x q1 q2) (fun j hj => by rw [mset_ne _ (by decide)]; exact mj j hj)
        by_cases q : l' = l
        · subst q
          refine ⟨a ||| 2 ^ f0, mset_eq _ _ _ _, or_lt2 a2 (by omega), fun f hf => ?_⟩
          rw [tb_or, a3 f hf]
          by_cases t : f0 = f
          · subst t
            rw [show fgP l' f0 (mem 96) = true from decide_eq_true hf0, decide_eq_true rfl, Bool.or_true]
            exact (decide_eq_true (show 0 < K (fgP l' f0) + 1 by omega)).symm
          · rw [show fgP l' f (mem 96) = false from decide_eq_false (by omega), decide_eq_false t, Bool.or_false]
            rfl
        · rw [mset_nej _ _ (by omega)]; exact hd l' (by omega)
  refine z_aload_n dX12_notes_0 rfl ?_
  refine z_dup dX12_notes_1 (by intro z q; cases q) ?_
  refine z_gI 15 dX12_notes_2 fl_X12_229 (by first | rfl | assumption) rfl rfl ?_
  rw [h15]
  refine z_iconst dX12_notes_5 (by decide) ?_
  refine z_iadd dX12_notes_6 (by omega) ?_
  refine z_pI 15 dX12_notes_7 fm_X12_229 (by first | rfl | assumption) rfl rfl ?_
  refine z_iconst dX12_notes_10 (by decide) ?_
  refine z_istore_n dX12_notes_11 (by decide) rfl ?_
  dsimp only [List.set]
  refine loop 6 0 _ (by omega) (mset_eq _ _ _ _) (fun l' hl' => by omega) (fun l' _ => by rw [mset_ne _ (by decide)]) (fun x q1 _ => mset_ne _ q1 _ _) (fun j hj => mset_nej _ _ hj _)
end KeysM
