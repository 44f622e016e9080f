/-! ===== sign, limb: both sides; agents; fronts ===== -/
def isSz (v n : Nat) : Prop := v < 1073741824 ^ n ∧ (n = 0 ∨ 1073741824 ^ (n - 1) ≤ v)
theorem isSz.uniq {v n n' : Nat} (h : isSz v n) (h' : isSz v n') : n = n' := by
  have key : ∀ {v n n' : Nat}, isSz v n → isSz v n' → n ≤ n' := by
    intro v n n' h h'
    by_cases q : n ≤ n'
    · exact q
    · rcases h.2 with w | w
      · omega
      · have : 1073741824 ^ n' ≤ 1073741824 ^ (n - 1) := Nat.pow_le_pow_right (by decide) (by omega)
        have := h'.1
        omega
  exact Nat.le_antisymm (key h h') (key h' h)
theorem isSz_of {f : Int → Int} {n v : Nat} (hd : dig f n) (hv : nv f n = (v : Int)) (ht : n = 0 ∨ f ((n : Int) - 1) ≠ 0) : isSz v n := by
  constructor
  · have h1 := nv_lt hd
    have : (v : Int) < ((1073741824 ^ n : Nat) : Int) := by rw [Int.natCast_pow, ← hv]; exact h1
    exact Int.ofNat_lt.mp this
  · rcases Nat.eq_zero_or_pos n with q | q
    · exact Or.inl q
    · refine Or.inr ?_
      by_cases w : 1073741824 ^ (n - 1) ≤ v
      · exact w
      · have : nv f n < zB ^ (n - 1) := by
          rw [hv]
          have : ((v : Nat) : Int) < ((1073741824 ^ (n - 1) : Nat) : Int) := Int.ofNat_lt.mpr (by omega)
          rw [Int.natCast_pow] at this
          exact this
        have := nv_top hd ht this
        omega
theorem natAt_sz {mem : Mem} {o v : Nat} (h : natAt mem o v) : ∃ n : Nat, mem o 1 = (n : Int) ∧ n ≤ 64 ∧ isSz v n ∧ ∀ j : Nat, j < n → mem (o + 1) (j : Int) = ((v / 1073741824 ^ j % 1073741824 : Nat) : Int) := by
  obtain ⟨n, h1, h2, h3, h4, h5⟩ := h
  refine ⟨n, h1, h2, isSz_of h3 h4 h5, fun j hj => ?_⟩
  have := nv_dig h3 h4 j
  unfold padR at this
  rw [if_pos (by omega)] at this
  exact this
theorem regAt_sz {mem : Mem} {r v : Nat} (h : regAt mem r v) : ∃ n : Nat, mem 90 (r : Int) = (n : Int) ∧ n ≤ 66 ∧ isSz v n := by
  obtain ⟨h3, h4, n, hn, hw, hz, ht⟩ := h
  exact ⟨n, hw, hn, isSz_of (fun j hj => h3 j (by omega)) ((nv_pad hn hz).symm.trans h4) ht⟩
def sgA (a b : Nat) (wh z : Int) : Prop := (¬ (0 ≤ wh ∧ wh ≤ 2) → z = -2) ∧ (wh = 0 → z = if a = 0 then 0 else 1) ∧ (wh = 1 → ∃ n : Nat, isSz a n ∧ z = (n : Int)) ∧ (wh = 2 → ∃ n : Nat, isSz b n ∧ z = (n : Int))
theorem sgA.uniq {a b : Nat} {wh z z' : Int} (h : sgA a b wh z) (h' : sgA a b wh z') : z = z' := by
  obtain ⟨h1, h2, h3, h4⟩ := h
  obtain ⟨k1, k2, k3, k4⟩ := h'
  by_cases q : 0 ≤ wh ∧ wh ≤ 2
  · obtain q | q | q : wh = 0 ∨ wh = 1 ∨ wh = 2 := by omega
    · rw [h2 q, k2 q]
    · obtain ⟨n, e1, e2⟩ := h3 q
      obtain ⟨n', e3, e4⟩ := k3 q
      rw [e2, e4, e1.uniq e3]
    · obtain ⟨n, e1, e2⟩ := h4 q
      obtain ⟨n', e3, e4⟩ := k4 q
      rw [e2, e4, e1.uniq e3]
  · rw [h1 q, k1 q]
theorem isSz0 {v n : Nat} (h : isSz v n) : n = 0 ↔ v = 0 := by
  constructor
  · intro q
    subst q
    have := h.1
    simp at this
    exact this
  · intro q
    subst q
    rcases h.2 with w | w
    · exact w
    · have : 0 < 1073741824 ^ (n - 1) := Nat.pow_pos (by decide)
      omega
def lbA (a b : Nat) (wh i z : Int) : Prop := (¬ ((0 ≤ wh ∧ wh ≤ 1) ∧ 0 ≤ i) → z = -2) ∧ (0 ≤ i → wh = 0 → ∃ n : Nat, isSz a n ∧ z = if i < (n : Int) then ((a / 1073741824 ^ i.toNat % 1073741824 : Nat) : Int) else -1) ∧ (0 ≤ i → wh = 1 → ∃ n : Nat, isSz b n ∧ z = if i < (n : Int) then ((b / 1073741824 ^ i.toNat % 1073741824 : Nat) : Int) else -1)
theorem lbA.uniq {a b : Nat} {wh i z z' : Int} (h : lbA a b wh i z) (h' : lbA a b wh i z') : z = z' := by
  obtain ⟨h1, h2, h3⟩ := h
  obtain ⟨k1, k2, k3⟩ := h'
  by_cases q : (0 ≤ wh ∧ wh ≤ 1) ∧ 0 ≤ i
  · obtain w | w : wh = 0 ∨ wh = 1 := by omega
    · obtain ⟨n, e1, e2⟩ := h2 q.2 w
      obtain ⟨n', e3, e4⟩ := k2 q.2 w
      rw [e2, e4, e1.uniq e3]
    · obtain ⟨n, e1, e2⟩ := h3 q.2 w
      obtain ⟨n', e3, e4⟩ := k3 q.2 w
      rw [e2, e4, e1.uniq e3]
  · rw [h1 q, k1 q]
section OpsC
variable {X : Nat × (Int → Int)} {mem : Mem} {nf np : Nat} {fd pr fr bk : Nat → Nat → Int} {a b : Nat}
theorem cm_X11_sign {wh : Int} (hf : fracAt mem 79 a b) : CM X (0, 0) 1 mX11_sign G0 [vr 0, vi wh] mem (pI G0 fun z m => sgA a b wh z ∧ m = mem) := by
  obtain ⟨n1, e1, l1, s1, -⟩ := natAt_sz hf.1
  obtain ⟨n2, e2, l2, s2, -⟩ := natAt_sz hf.2
  have e1' : mem 80 1 = (n1 : Int) := e1
  have e2' : mem 82 1 = (n2 : Int) := e2
  have z1 := isSz0 s1
  unfold sgA
  refine CM.of (by decide +kernel) 0 (Nat.le_of_ble_eq_true rfl) ?_
  show ZZ X (0, 0) 1 mX11_sign G0 0 [vr 0, vi wh] [] mem _
  refine z_iload_n dX11_sign_0 rfl ?_
  refine z_iconst dX11_sign_1 (by decide) ?_
  refine z_iconst dX11_sign_2 (by decide) ?_
  refine z_S3i dX11_sign_3 ok_X11_within lk_X11_83 (Nat.le_of_ble_eq_true rfl) (by decide) (cm_X11_within) (fun z1' m1 hm1 => ?_)
  obtain ⟨hz1, rfl⟩ := hm1
  refine z_if_ne 12 dX11_sign_6 (by decide) (fun h6 => ?_) (fun h6 => ?_)
  · refine z_iload_n dX11_sign_12 rfl ?_
    refine z_if_ne 35 dX11_sign_13 (by decide) (fun h13 => ?_) (fun h13 => ?_)
    · refine z_iload_n dX11_sign_35 rfl ?_
      refine z_iconst dX11_sign_36 (by decide) ?_
      refine z_icmp_ne 53 dX11_sign_37 (by decide) (fun h37 => ?_) (fun h37 => ?_)
      · refine z_aload_n dX11_sign_53 rfl ?_
        refine z_getR (ty := .int) dX11_sign_54 fl_X11_75 (by first | rfl | assumption) rfl rfl ?_
        refine z_getR (ty := .int) dX11_sign_57 fl_X11_256 (by first | rfl | assumption) rfl rfl ?_
        refine z_gI 1 dX11_sign_60 fl_X11_253 (by first | rfl | assumption) rfl rfl ?_
        rw [e2']
        refine z_iret dX11_sign_63 rfl ?_
        first | exact ⟨rfl, _, rfl, ⟨fun q => by omega, fun q => by omega, fun _ => ⟨n1, s1, rfl⟩, fun q => by omega⟩, rfl⟩ | exact ⟨rfl, _, rfl, ⟨fun q => by omega, fun q => by omega, fun q => by omega, fun _ => ⟨n2, s2, rfl⟩⟩, rfl⟩
      · refine z_aload_n dX11_sign_40 rfl ?_
        refine z_getR (ty := .int) dX11_sign_41 fl_X11_75 (by first | rfl | assumption) rfl rfl ?_
        refine z_getR (ty := .int) dX11_sign_44 fl_X11_250 (by first | rfl | assumption) rfl rfl ?_
        refine z_gI 1 dX11_sign_47 fl_X11_253 (by first | rfl | assumption) rfl rfl ?_
        rw [e1']
        refine z_goto 63 dX11_sign_50 (by decide) ?_
        refine z_iret dX11_sign_63 rfl ?_
        first | exact ⟨rfl, _, rfl, ⟨fun q => by omega, fun q => by omega, fun _ => ⟨n1, s1, rfl⟩, fun q => by omega⟩, rfl⟩ | exact ⟨rfl, _, rfl, ⟨fun q => by omega, fun q => by omega, fun q => by omega, fun _ => ⟨n2, s2, rfl⟩⟩, rfl⟩
    · refine z_aload_n dX11_sign_16 rfl ?_
      refine z_getR (ty := .int) dX11_sign_17 fl_X11_75 (by first | rfl | assumption) rfl rfl ?_
      refine z_getR (ty := .int) dX11_sign_20 fl_X11_250 (by first | rfl | assumption) rfl rfl ?_
      refine z_gI 1 dX11_sign_23 fl_X11_253 (by first | rfl | assumption) rfl rfl ?_
      rw [e1']
      refine z_if_le 33 dX11_sign_26 (by decide) (fun h26 => ?_) (fun h26 => ?_)
      · refine z_iconst dX11_sign_33 (by decide) ?_
        refine z_iret dX11_sign_34 rfl ?_
        refine ⟨rfl, _, rfl, ⟨fun q => by omega, fun q => ?_, fun q => by omega, fun q => by omega⟩, rfl⟩
        first | (rw [if_neg (by omega)]; done) | (rw [if_pos (by omega)]; done)
      · refine z_iconst dX11_sign_29 (by decide) ?_
        refine z_goto 34 dX11_sign_30 (by decide) ?_
        refine z_iret dX11_sign_34 rfl ?_
        refine ⟨rfl, _, rfl, ⟨fun q => by omega, fun q => ?_, fun q => by omega, fun q => by omega⟩, rfl⟩
        first | (rw [if_neg (by omega)]; done) | (rw [if_pos (by omega)]; done)
  · refine z_bipush dX11_sign_9 (by decide) ?_
    refine z_iret dX11_sign_11 rfl ?_
    exact ⟨rfl, _, rfl, ⟨fun _ => rfl, fun q => by omega, fun q => by omega, fun q => by omega⟩, rfl⟩
theorem cm_X12_sign {wh : Int} (h0 : regAt mem 0 a) (h1 : regAt mem 1 b) : CM X (0, 0) 0 mX12_sign G0 [vr 88, vi wh] mem (pI G0 fun z m => sgA a b wh z ∧ m = mem) := by
  obtain ⟨n1, e1, l1, s1⟩ := regAt_sz h0
  obtain ⟨n2, e2, l2, s2⟩ := regAt_sz h1
  have e1' : mem 90 0 = (n1 : Int) := e1
  have e2' : mem 90 1 = (n2 : Int) := e2
  have z1 := isSz0 s1
  unfold sgA
  refine CM.of (by decide +kernel) 0 (Nat.le_of_ble_eq_true rfl) ?_
  show ZZ X (0, 0) 0 mX12_sign G0 0 [vr 88, vi wh] [] mem _
  refine z_iload_n dX12_sign_0 rfl ?_
  refine z_if_ne 21 dX12_sign_1 (by decide) (fun h1 => ?_) (fun h1 => ?_)
  · refine z_iload_n dX12_sign_21 rfl ?_
    refine z_iconst dX12_sign_22 (by decide) ?_
    refine z_icmp_ne 35 dX12_sign_23 (by decide) (fun h23 => ?_) (fun h23 => ?_)
    · refine z_iload_n dX12_sign_35 rfl ?_
      refine z_iconst dX12_sign_36 (by decide) ?_
      refine z_icmp_ne 49 dX12_sign_37 (by decide) (fun h37 => ?_) (fun h37 => ?_)
      · refine z_bipush dX12_sign_49 (by decide) ?_
        refine z_iret dX12_sign_51 rfl ?_
        refine ⟨rfl, _, rfl, ?_, rfl⟩
        first | exact ⟨fun _ => rfl, fun q => by omega, fun q => by omega, fun q => by omega⟩ | exact ⟨fun q => by omega, fun q => by omega, fun _ => ⟨n1, s1, rfl⟩, fun q => by omega⟩ | exact ⟨fun q => by omega, fun q => by omega, fun q => by omega, fun _ => ⟨n2, s2, rfl⟩⟩ | exact ⟨fun q => by omega, fun q => by rw [if_neg (by omega)], fun q => by omega, fun q => by omega⟩ | exact ⟨fun q => by omega, fun q => by rw [if_pos (by omega)], fun q => by omega, fun q => by omega⟩
      · refine z_aload_n dX12_sign_40 rfl ?_
        refine z_getR (ty := .int) dX12_sign_41 fl_X12_13 (by first | rfl | assumption) rfl rfl ?_
        refine z_iconst dX12_sign_44 (by decide) ?_
        refine z_iald dX12_sign_45 (by first | rfl | assumption) (by omega) (by omega) ?_
        rw [e2']
        refine z_goto 51 dX12_sign_46 (by decide) ?_
        refine z_iret dX12_sign_51 rfl ?_
        refine ⟨rfl, _, rfl, ?_, rfl⟩
        first | exact ⟨fun _ => rfl, fun q => by omega, fun q => by omega, fun q => by omega⟩ | exact ⟨fun q => by omega, fun q => by omega, fun _ => ⟨n1, s1, rfl⟩, fun q => by omega⟩ | exact ⟨fun q => by omega, fun q => by omega, fun q => by omega, fun _ => ⟨n2, s2, rfl⟩⟩ | exact ⟨fun q => by omega, fun q => by rw [if_neg (by omega)], fun q => by omega, fun q => by omega⟩ | exact ⟨fun q => by omega, fun q => by rw [if_pos (by omega)], fun q => by omega, fun q => by omega⟩
    · refine z_aload_n dX12_sign_26 rfl ?_
      refine z_getR (ty := .int) dX12_sign_27 fl_X12_13 (by first | rfl | assumption) rfl rfl ?_
      refine z_iconst dX12_sign_30 (by decide) ?_
      refine z_iald dX12_sign_31 (by first | rfl | assumption) (by omega) (by omega) ?_
      rw [e1']
      refine z_goto 51 dX12_sign_32 (by decide) ?_
      refine z_iret dX12_sign_51 rfl ?_
      refine ⟨rfl, _, rfl, ?_, rfl⟩
      first | exact ⟨fun _ => rfl, fun q => by omega, fun q => by omega, fun q => by omega⟩ | exact ⟨fun q => by omega, fun q => by omega, fun _ => ⟨n1, s1, rfl⟩, fun q => by omega⟩ | exact ⟨fun q => by omega, fun q => by omega, fun q => by omega, fun _ => ⟨n2, s2, rfl⟩⟩ | exact ⟨fun q => by omega, fun q => by rw [if_neg (by omega)], fun q => by omega, fun q => by omega⟩ | exact ⟨fun q => by omega, fun q => by rw [if_pos (by omega)], fun q => by omega, fun q => by omega⟩
  · refine z_aload_n dX12_sign_4 rfl ?_
    refine z_getR (ty := .int) dX12_sign_5 fl_X12_13 (by first | rfl | assumption) rfl rfl ?_
    refine z_iconst dX12_sign_8 (by decide) ?_
    refine z_iald dX12_sign_9 (by first | rfl | assumption) (by omega) (by omega) ?_
    rw [e1']
    refine z_if_le 17 dX12_sign_10 (by decide) (fun h10 => ?_) (fun h10 => ?_)
    · refine z_iconst dX12_sign_17 (by decide) ?_
      refine z_goto 51 dX12_sign_18 (by decide) ?_
      refine z_iret dX12_sign_51 rfl ?_
      refine ⟨rfl, _, rfl, ?_, rfl⟩
      first | exact ⟨fun _ => rfl, fun q => by omega, fun q => by omega, fun q => by omega⟩ | exact ⟨fun q => by omega, fun q => by omega, fun _ => ⟨n1, s1, rfl⟩, fun q => by omega⟩ | exact ⟨fun q => by omega, fun q => by omega, fun q => by omega, fun _ => ⟨n2, s2, rfl⟩⟩ | exact ⟨fun q => by omega, fun q => by rw [if_neg (by omega)], fun q => by omega, fun q => by omega⟩ | exact ⟨fun q => by omega, fun q => by rw [if_pos (by omega)], fun q => by omega, fun q => by omega⟩
    · refine z_iconst dX12_sign_13 (by decide) ?_
      refine z_goto 51 dX12_sign_14 (by decide) ?_
      refine z_iret dX12_sign_51 rfl ?_
      refine ⟨rfl, _, rfl, ?_, rfl⟩
      first | exact ⟨fun _ => rfl, fun q => by omega, fun q => by omega, fun q => by omega⟩ | exact ⟨fun q => by omega, fun q => by omega, fun _ => ⟨n1, s1, rfl⟩, fun q => by omega⟩ | exact ⟨fun q => by omega, fun q => by omega, fun q => by omega, fun _ => ⟨n2, s2, rfl⟩⟩ | exact ⟨fun q => by omega, fun q => by rw [if_neg (by omega)], fun q => by omega, fun q => by omega⟩ | exact ⟨fun q => by omega, fun q => by rw [if_pos (by omega)], fun q => by omega, fun q => by omega⟩
theorem cm_X11_limb {wh i : Int} (hf : fracAt mem 79 a b) : CM X (0, 0) 1 mX11_limb G0 [vr 0, vi wh, vi i] mem (pI G0 fun z m => lbA a b wh i z ∧ m = mem) := by
  obtain ⟨n1, e1, l1, s1, d1⟩ := natAt_sz hf.1
  obtain ⟨n2, e2, l2, s2, d2⟩ := natAt_sz hf.2
  have e1' : mem 80 1 = (n1 : Int) := e1
  have e2' : mem 82 1 = (n2 : Int) := e2
  unfold lbA
  refine CM.of (by decide +kernel) 1 (Nat.le_of_ble_eq_true rfl) ?_
  show ZZ X (0, 0) 1 mX11_limb G0 0 [vr 0, vi wh, vi i, vd] [] mem _
  refine z_iload_n dX11_limb_0 rfl ?_
  refine z_iconst dX11_limb_1 (by decide) ?_
  refine z_iconst dX11_limb_2 (by decide) ?_
  refine z_S3i dX11_limb_3 ok_X11_within lk_X11_83 (Nat.le_of_ble_eq_true rfl) (by decide) (cm_X11_within) (fun z1 m1 hm1 => ?_)
  obtain ⟨hz1, rfl⟩ := hm1
  refine z_if_eq 13 dX11_limb_6 (by decide) (fun h6 => ?_) (fun h6 => ?_)
  · refine z_bipush dX11_limb_13 (by decide) ?_
    refine z_iret dX11_limb_15 rfl ?_
    exact ⟨rfl, _, rfl, ⟨fun _ => rfl, fun q => by omega, fun q => by omega⟩, rfl⟩
  · refine z_iload_n dX11_limb_9 rfl ?_
    refine z_if_ge 16 dX11_limb_10 (by decide) (fun h10 => ?_) (fun h10 => ?_)
    · refine z_iload_n dX11_limb_16 rfl ?_
      refine z_if_ne 30 dX11_limb_17 (by decide) (fun h17 => ?_) (fun h17 => ?_)
      · refine z_aload_n dX11_limb_30 rfl ?_
        refine z_getR (ty := .int) dX11_limb_31 fl_X11_75 (by first | rfl | assumption) rfl rfl ?_
        refine z_getR (ty := .int) dX11_limb_34 fl_X11_256 (by first | rfl | assumption) rfl rfl ?_
        refine z_astore_n dX11_limb_37 (by decide) rfl ?_
        dsimp only [List.set]
        refine z_iload_n dX11_limb_38 rfl ?_
        refine z_aload_n dX11_limb_39 rfl ?_
        refine z_gI 1 dX11_limb_40 fl_X11_253 (by first | rfl | assumption) rfl rfl ?_
        first | rw [e1'] | rw [e2']
        refine z_icmp_ge 54 dX11_limb_43 (by decide) (fun h43 => ?_) (fun h43 => ?_)
        · refine z_iconst dX11_limb_54 (by decide) ?_
          refine z_iret dX11_limb_55 rfl ?_
          refine ⟨rfl, _, rfl, ?_, rfl⟩
          first | exact ⟨fun q => by omega, fun _ _ => ⟨n1, s1, by rw [if_neg (by omega)]⟩, fun _ q => by omega⟩ | exact ⟨fun q => by omega, fun _ q => by omega, fun _ _ => ⟨n2, s2, by rw [if_neg (by omega)]⟩⟩ | exact ⟨fun q => by omega, fun _ _ => ⟨n1, s1, by rw [if_pos (by omega), hz2, Int.toNat_natCast]; exact d1 j (by omega)⟩, fun _ q => by omega⟩ | exact ⟨fun q => by omega, fun _ q => by omega, fun _ _ => ⟨n2, s2, by rw [if_pos (by omega), hz2, Int.toNat_natCast]; exact d2 j (by omega)⟩⟩
        · refine z_aload_n dX11_limb_46 rfl ?_
          refine z_iload_n dX11_limb_47 rfl ?_
          first | refine z_V1i dX11_limb_48 ok_X8_at lk_X11_258 (by first | rfl | assumption) rfl rfl (Nat.le_of_ble_eq_true rfl) (by decide) (cm_X8_at isN_80 e1' l1) (fun z2 m2 hm2 => ?_) | refine z_V1i dX11_limb_48 ok_X8_at lk_X11_258 (by first | rfl | assumption) rfl rfl (Nat.le_of_ble_eq_true rfl) (by decide) (cm_X8_at isN_82 e2' l2) (fun z2 m2 hm2 => ?_)
          obtain ⟨hz2, rfl⟩ := hm2
          rw [if_pos (by omega)] at hz2
          obtain ⟨j, rfl⟩ : ∃ j : Nat, i = (j : Int) := ⟨i.toNat, by omega⟩
          refine z_goto 55 dX11_limb_51 (by decide) ?_
          refine z_iret dX11_limb_55 rfl ?_
          refine ⟨rfl, _, rfl, ?_, rfl⟩
          first | exact ⟨fun q => by omega, fun _ _ => ⟨n1, s1, by rw [if_neg (by omega)]⟩, fun _ q => by omega⟩ | exact ⟨fun q => by omega, fun _ q => by omega, fun _ _ => ⟨n2, s2, by rw [if_neg (by omega)]⟩⟩ | exact ⟨fun q => by omega, fun _ _ => ⟨n1, s1, by rw [if_pos (by omega), hz2, Int.toNat_natCast]; exact d1 j (by omega)⟩, fun _ q => by omega⟩ | exact ⟨fun q => by omega, fun _ q => by omega, fun _ _ => ⟨n2, s2, by rw [if_pos (by omega), hz2, Int.toNat_natCast]; exact d2 j (by omega)⟩⟩
      · refine z_aload_n dX11_limb_20 rfl ?_
        refine z_getR (ty := .int) dX11_limb_21 fl_X11_75 (by first | rfl | assumption) rfl rfl ?_
        refine z_getR (ty := .int) dX11_limb_24 fl_X11_250 (by first | rfl | assumption) rfl rfl ?_
        refine z_goto 37 dX11_limb_27 (by decide) ?_
        refine z_astore_n dX11_limb_37 (by decide) rfl ?_
        dsimp only [List.set]
        refine z_iload_n dX11_limb_38 rfl ?_
        refine z_aload_n dX11_limb_39 rfl ?_
        refine z_gI 1 dX11_limb_40 fl_X11_253 (by first | rfl | assumption) rfl rfl ?_
        first | rw [e1'] | rw [e2']
        refine z_icmp_ge 54 dX11_limb_43 (by decide) (fun h43 => ?_) (fun h43 => ?_)
        · refine z_iconst dX11_limb_54 (by decide) ?_
          refine z_iret dX11_limb_55 rfl ?_
          refine ⟨rfl, _, rfl, ?_, rfl⟩
          first | exact ⟨fun q => by omega, fun _ _ => ⟨n1, s1, by rw [if_neg (by omega)]⟩, fun _ q => by omega⟩ | exact ⟨fun q => by omega, fun _ q => by omega, fun _ _ => ⟨n2, s2, by rw [if_neg (by omega)]⟩⟩ | exact ⟨fun q => by omega, fun _ _ => ⟨n1, s1, by rw [if_pos (by omega), hz2, Int.toNat_natCast]; exact d1 j (by omega)⟩, fun _ q => by omega⟩ | exact ⟨fun q => by omega, fun _ q => by omega, fun _ _ => ⟨n2, s2, by rw [if_pos (by omega), hz2, Int.toNat_natCast]; exact d2 j (by omega)⟩⟩
        · refine z_aload_n dX11_limb_46 rfl ?_
          refine z_iload_n dX11_limb_47 rfl ?_
          first | refine z_V1i dX11_limb_48 ok_X8_at lk_X11_258 (by first | rfl | assumption) rfl rfl (Nat.le_of_ble_eq_true rfl) (by decide) (cm_X8_at isN_80 e1' l1) (fun z2 m2 hm2 => ?_) | refine z_V1i dX11_limb_48 ok_X8_at lk_X11_258 (by first | rfl | assumption) rfl rfl (Nat.le_of_ble_eq_true rfl) (by decide) (cm_X8_at isN_82 e2' l2) (fun z2 m2 hm2 => ?_)
          obtain ⟨hz2, rfl⟩ := hm2
          rw [if_pos (by omega)] at hz2
          obtain ⟨j, rfl⟩ : ∃ j : Nat, i = (j : Int) := ⟨i.toNat, by omega⟩
          refine z_goto 55 dX11_limb_51 (by decide) ?_
          refine z_iret dX11_limb_55 rfl ?_
          refine ⟨rfl, _, rfl, ?_, rfl⟩
          first | exact ⟨fun q => by omega, fun _ _ => ⟨n1, s1, by rw [if_neg (by omega)]⟩, fun _ q => by omega⟩ | exact ⟨fun q => by omega, fun _ q => by omega, fun _ _ => ⟨n2, s2, by rw [if_neg (by omega)]⟩⟩ | exact ⟨fun q => by omega, fun _ _ => ⟨n1, s1, by rw [if_pos (by omega), hz2, Int.toNat_natCast]; exact d1 j (by omega)⟩, fun _ q => by omega⟩ | exact ⟨fun q => by omega, fun _ q => by omega, fun _ _ => ⟨n2, s2, by rw [if_pos (by omega), hz2, Int.toNat_natCast]; exact d2 j (by omega)⟩⟩
    · refine z_bipush dX11_limb_13 (by decide) ?_
      refine z_iret dX11_limb_15 rfl ?_
      exact ⟨rfl, _, rfl, ⟨fun _ => rfl, fun q => by omega, fun q => by omega⟩, rfl⟩
theorem cm_X12_limb {wh i : Int} (h0 : regAt mem 0 a) (h1 : regAt mem 1 b) : CM X (0, 0) 1 mX12_limb G0 [vr 88, vi wh, vi i] mem (pI G0 fun z m => lbA a b wh i z ∧ m = mem) := by
  obtain ⟨n1, e1, l1, s1⟩ := regAt_sz h0
  obtain ⟨n2, e2, l2, s2⟩ := regAt_sz h1
  have e1' : mem 90 0 = (n1 : Int) := e1
  have e2' : mem 90 1 = (n2 : Int) := e2
  unfold lbA
  refine CM.of (by decide +kernel) 0 (Nat.le_of_ble_eq_true rfl) ?_
  show ZZ X (0, 0) 1 mX12_limb G0 0 [vr 88, vi wh, vi i] [] mem _
  refine z_iload_n dX12_limb_0 rfl ?_
  refine z_i2l dX12_limb_1 ?_
  refine z_lconst (z := 0) dX12_limb_2 rfl (by decide) ?_
  refine z_lconst (z := 1) dX12_limb_3 rfl (by decide) ?_
  refine z_S3i dX12_limb_4 ok_X12_in lk_X12_97 (Nat.le_of_ble_eq_true rfl) (by decide) (cm_X12_in) (fun z1 m1 hm1 => ?_)
  obtain ⟨hz1, rfl⟩ := hm1
  refine z_if_eq 14 dX12_limb_7 (by decide) (fun h7 => ?_) (fun h7 => ?_)
  · refine z_bipush dX12_limb_14 (by decide) ?_
    refine z_iret dX12_limb_16 rfl ?_
    exact ⟨rfl, _, rfl, ⟨fun _ => rfl, fun q => by omega, fun q => by omega⟩, rfl⟩
  · refine z_iload_n dX12_limb_10 rfl ?_
    refine z_if_ge 17 dX12_limb_11 (by decide) (fun h11 => ?_) (fun h11 => ?_)
    · obtain hw | hw : wh = 0 ∨ wh = 1 := by omega
      · subst hw
        refine z_iload_n dX12_limb_17 rfl ?_
        refine z_aload_n dX12_limb_18 rfl ?_
        refine z_getR (ty := .int) dX12_limb_19 fl_X12_13 (by first | rfl | assumption) rfl rfl ?_
        refine z_iload_n dX12_limb_22 rfl ?_
        refine z_iald dX12_limb_23 (by first | rfl | assumption) (by omega) (by omega) ?_
        rw [e1']
        refine z_icmp_ge 41 dX12_limb_24 (by decide) (fun h24 => ?_) (fun h24 => ?_)
        · refine z_iconst dX12_limb_41 (by decide) ?_
          refine z_iret dX12_limb_42 rfl ?_
          first | exact ⟨rfl, _, rfl, ⟨fun q => by omega, fun _ _ => ⟨n1, s1, by rw [if_neg (by omega)]⟩, fun _ q => by omega⟩, rfl⟩ | exact ⟨rfl, _, rfl, ⟨fun q => by omega, fun _ _ => ⟨n1, s1, by rw [if_pos (by omega), Int.toNat_natCast]; exact reg_dig h0 (by omega)⟩, fun _ q => by omega⟩, rfl⟩
        · obtain ⟨j, rfl⟩ : ∃ j : Nat, i = (j : Int) := ⟨i.toNat, by omega⟩
          refine z_aload_n dX12_limb_27 rfl ?_
          refine z_getR (ty := .int) dX12_limb_28 fl_X12_7 (by first | rfl | assumption) rfl rfl ?_
          refine z_bipush dX12_limb_31 (by decide) ?_
          refine z_iload_n dX12_limb_33 rfl ?_
          refine z_imul dX12_limb_34 (by omega) ?_
          refine z_iload_n dX12_limb_35 rfl ?_
          refine z_iadd dX12_limb_36 (by omega) ?_
          refine z_iald dX12_limb_37 (by first | rfl | assumption) (by omega) (by omega) ?_
          refine z_goto 42 dX12_limb_38 (by decide) ?_
          refine z_iret dX12_limb_42 rfl ?_
          first | exact ⟨rfl, _, rfl, ⟨fun q => by omega, fun _ _ => ⟨n1, s1, by rw [if_neg (by omega)]⟩, fun _ q => by omega⟩, rfl⟩ | exact ⟨rfl, _, rfl, ⟨fun q => by omega, fun _ _ => ⟨n1, s1, by rw [if_pos (by omega), Int.toNat_natCast]; exact reg_dig h0 (by omega)⟩, fun _ q => by omega⟩, rfl⟩
      · subst hw
        refine z_iload_n dX12_limb_17 rfl ?_
        refine z_aload_n dX12_limb_18 rfl ?_
        refine z_getR (ty := .int) dX12_limb_19 fl_X12_13 (by first | rfl | assumption) rfl rfl ?_
        refine z_iload_n dX12_limb_22 rfl ?_
        refine z_iald dX12_limb_23 (by first | rfl | assumption) (by omega) (by omega) ?_
        rw [e2']
        refine z_icmp_ge 41 dX12_limb_24 (by decide) (fun h24 => ?_) (fun h24 => ?_)
        · refine z_iconst dX12_limb_41 (by decide) ?_
          refine z_iret dX12_limb_42 rfl ?_
          first | exact ⟨rfl, _, rfl, ⟨fun q => by omega, fun _ q => by omega, fun _ _ => ⟨n2, s2, by rw [if_neg (by omega)]⟩⟩, rfl⟩ | exact ⟨rfl, _, rfl, ⟨fun q => by omega, fun _ q => by omega, fun _ _ => ⟨n2, s2, by rw [if_pos (by omega), Int.toNat_natCast]; exact reg_dig h1 (by omega)⟩⟩, rfl⟩
        · obtain ⟨j, rfl⟩ : ∃ j : Nat, i = (j : Int) := ⟨i.toNat, by omega⟩
          refine z_aload_n dX12_limb_27 rfl ?_
          refine z_getR (ty := .int) dX12_limb_28 fl_X12_7 (by first | rfl | assumption) rfl rfl ?_
          refine z_bipush dX12_limb_31 (by decide) ?_
          refine z_iload_n dX12_limb_33 rfl ?_
          refine z_imul dX12_limb_34 (by omega) ?_
          refine z_iload_n dX12_limb_35 rfl ?_
          refine z_iadd dX12_limb_36 (by omega) ?_
          refine z_iald dX12_limb_37 (by first | rfl | assumption) (by omega) (by omega) ?_
          refine z_goto 42 dX12_limb_38 (by decide) ?_
          refine z_iret dX12_limb_42 rfl ?_
          first | exact ⟨rfl, _, rfl, ⟨fun q => by omega, fun _ q => by omega, fun _ _ => ⟨n2, s2, by rw [if_neg (by omega)]⟩⟩, rfl⟩ | exact ⟨rfl, _, rfl, ⟨fun q => by omega, fun _ q => by omega, fun _ _ => ⟨n2, s2, by rw [if_pos (by omega), Int.toNat_natCast]; exact reg_dig h1 (by omega)⟩⟩, rfl⟩
    · refine z_bipush dX12_limb_14 (by decide) ?_
      refine z_iret dX12_limb_16 rfl ?_
      exact ⟨rfl, _, rfl, ⟨fun _ => rfl, fun q => by omega, fun q => by omega⟩, rfl⟩
end OpsC
