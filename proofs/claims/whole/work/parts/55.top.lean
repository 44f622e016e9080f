/-! ===== the greatest place: both sides ===== -/
section Top
variable {X : Nat × (Int → Int)} {mem : Mem} {L : List Int} {f s : Int}
/-- how many numbers there are at the least -/
def topN (L : List Int) (f s : Int) : Int := if L.length = 0 then 0 else (L.getD (L.length - 1) 0 - f) / s + 1
theorem top_last (hr : ∀ y ∈ L, 0 ≤ y ∧ y ≤ 9999) (hfit : fitP L f s) (h : L.length ≠ 0) : f ≤ L.getD (L.length - 1) 0 ∧ L.getD (L.length - 1) 0 ≤ 9999 := ⟨(hfit _ (by omega)).1, (hr _ (getD_mem (by omega))).2⟩
theorem top_bd (hr : ∀ y ∈ L, 0 ≤ y ∧ y ≤ 9999) (hfit : fitP L f s) (hs : 0 < s) (hf : 0 ≤ f) : 0 ≤ topN L f s ∧ topN L f s ≤ 10000 := by
  unfold topN
  split
  · omega
  · rename_i h
    have hl := top_last hr hfit h
    have h1 : 0 ≤ (L.getD (L.length - 1) 0 - f) / s := Int.ediv_nonneg (by omega) (by omega)
    have h2 : (L.getD (L.length - 1) 0 - f) / s ≤ L.getD (L.length - 1) 0 - f := Int.ediv_le_self _ (by omega)
    omega
theorem cm_X6_topPlace (hL : marksAt mem L) (hr : ∀ y ∈ L, 0 ≤ y ∧ y ≤ 9999) (hfit : fitP L f s) (hs : 0 < s) (hf : 0 ≤ f) : CM X (0, 0) 1 mX6_topPlace G0 [vr 8, vi f, vi s] mem (pI G0 fun z m => z = topN L f s - 1 ∧ m = mem) := by
  obtain ⟨h1, h2, h3⟩ := hL
  unfold topN
  refine CM.of (by decide +kernel) 0 (Nat.le_of_ble_eq_true rfl) ?_
  show ZZ X (0, 0) 1 mX6_topPlace G0 0 [vr 8, vi f, vi s] [] mem _
  refine z_aload_n dX6_topPlace_0 rfl ?_
  refine z_gI 1 dX6_topPlace_1 fl_X6_17 (by first | rfl | assumption) rfl rfl ?_
  rw [h1]
  refine z_if_ne 11 dX6_topPlace_4 (by decide) (fun h4 => ?_) (fun h4 => ?_)
  · have hne : L.length ≠ 0 := by omega
    have hl := top_last hr hfit hne
    have hrow := h3 (L.length - 1) (by omega)
    rw [show ((L.length - 1 : Nat) : Int) = (L.length : Int) - 1 by omega] at hrow
    rw [if_neg hne]
    refine z_aload_n dX6_topPlace_11 rfl ?_
    refine z_getR (ty := .int) dX6_topPlace_12 fl_X6_11 (by first | rfl | assumption) rfl rfl ?_
    refine z_aload_n dX6_topPlace_15 rfl ?_
    refine z_gI 1 dX6_topPlace_16 fl_X6_17 (by first | rfl | assumption) rfl rfl ?_
    rw [h1]
    refine z_iconst dX6_topPlace_19 (by decide) ?_
    refine z_isub dX6_topPlace_20 (by omega) ?_
    refine z_iald dX6_topPlace_21 (by first | rfl | assumption) (by omega) (by omega) ?_
    rw [hrow]
    refine z_iload_n dX6_topPlace_22 rfl ?_
    refine z_iload_n dX6_topPlace_23 rfl ?_
    refine z_S3i dX6_topPlace_24 ok_X11_placeOf lk_X6_25 (Nat.le_of_ble_eq_true rfl) (by decide) (cm_X11_placeOf hs hl.1 hl.2 hf) (fun z1 m1 hm1 => ?_)
    refine z_iret dX6_topPlace_27 rfl ?_
    first | exact ⟨rfl, _, rfl, by rw [if_pos (by omega)]; rfl, rfl⟩ | exact ⟨rfl, _, rfl, by rw [hm1.1]; omega, hm1.2⟩
  · refine z_iconst dX6_topPlace_7 (by decide) ?_
    refine z_goto 27 dX6_topPlace_8 (by decide) ?_
    refine z_iret dX6_topPlace_27 rfl ?_
    first | exact ⟨rfl, _, rfl, by rw [if_pos (by omega)]; rfl, rfl⟩ | exact ⟨rfl, _, rfl, by rw [hm1.1]; omega, hm1.2⟩
theorem cm_X6_littleMore (hL : marksAt mem L) (hr : ∀ y ∈ L, 0 ≤ y ∧ y ≤ 9999) (hfit : fitP L f s) (hs : 0 < s) (hf : 0 ≤ f) : CM X (0, 0) 2 mX6_littleMore G0 [vr 8, vi f, vi s] mem (pI G0 fun z m => z = (if L.length = 0 then 0 else topN L f s + topN L f s / (L.length : Int) - 1) ∧ m = mem) := by
  have hb := top_bd hr hfit hs hf
  have h1 := hL.1
  have h2 := hL.2.1
  have hd : L.length ≠ 0 → 0 ≤ topN L f s / (L.length : Int) ∧ topN L f s / (L.length : Int) ≤ topN L f s := fun q => ⟨Int.ediv_nonneg hb.1 (by omega), Int.ediv_le_self _ hb.1⟩
  refine CM.of (by decide +kernel) 1 (Nat.le_of_ble_eq_true rfl) ?_
  show ZZ X (0, 0) 2 mX6_littleMore G0 0 [vr 8, vi f, vi s, vd] [] mem _
  refine z_aload_n dX6_littleMore_0 rfl ?_
  refine z_iload_n dX6_littleMore_1 rfl ?_
  refine z_iload_n dX6_littleMore_2 rfl ?_
  refine z_V2i dX6_littleMore_3 ok_X6_topPlace lk_X6_29 (by first | rfl | assumption) rfl rfl (Nat.le_of_ble_eq_true rfl) (by decide) (cm_X6_topPlace hL hr hfit hs hf) (fun z1 m1 hm1 => ?_)
  obtain ⟨rfl, rfl⟩ := hm1
  refine z_iconst dX6_littleMore_6 (by decide) ?_
  refine z_iadd dX6_littleMore_7 (by omega) ?_
  rw [show topN L f s - 1 + 1 = topN L f s by omega]
  refine z_istore_n dX6_littleMore_8 (by decide) rfl ?_
  dsimp only [List.set]
  refine z_aload_n dX6_littleMore_9 rfl ?_
  refine z_gI 1 dX6_littleMore_10 fl_X6_17 (by first | rfl | assumption) rfl rfl ?_
  rw [h1]
  refine z_if_ne 20 dX6_littleMore_13 (by decide) (fun h13 => ?_) (fun h13 => ?_)
  · have hd' := hd (by omega)
    rw [if_neg (by omega)]
    refine z_iload_n dX6_littleMore_20 rfl ?_
    refine z_iload_n dX6_littleMore_21 rfl ?_
    refine z_aload_n dX6_littleMore_22 rfl ?_
    refine z_gI 1 dX6_littleMore_23 fl_X6_17 (by first | rfl | assumption) rfl rfl ?_
    rw [h1]
    refine z_idiv dX6_littleMore_26 (by omega) (by omega) ?_
    refine z_iadd dX6_littleMore_27 (by omega) ?_
    refine z_iconst dX6_littleMore_28 (by decide) ?_
    refine z_isub dX6_littleMore_29 (by omega) ?_
    refine z_iret dX6_littleMore_30 rfl ?_
    first | exact ⟨rfl, _, rfl, rfl, rfl⟩ | exact ⟨rfl, _, rfl, by rw [if_pos (by omega)], rfl⟩
  · refine z_iconst dX6_littleMore_16 (by decide) ?_
    refine z_goto 30 dX6_littleMore_17 (by decide) ?_
    refine z_iret dX6_littleMore_30 rfl ?_
    first | exact ⟨rfl, _, rfl, rfl, rfl⟩ | exact ⟨rfl, _, rfl, by rw [if_pos (by omega)], rfl⟩
theorem cm_X12_greatest (hL : numsAt mem L) (hr : ∀ y ∈ L, 0 ≤ y ∧ y ≤ 9999) (hfit : fitP L f s) (hs : 0 < s) (hs9 : s ≤ 99) (hf : 0 ≤ f) : CM X (0, 0) 0 mX12_greatest G0 [vr 88, vi f, vi s] mem (pI G0 fun z m => z = topN L f s ∧ m = mem) := by
  have hb := top_bd hr hfit hs hf
  obtain ⟨h1, h2, h3⟩ := hL
  unfold topN at hb ⊢
  refine CM.of (by decide +kernel) 0 (Nat.le_of_ble_eq_true rfl) ?_
  show ZZ X (0, 0) 0 mX12_greatest G0 0 [vr 88, vi f, vi s] [] mem _
  refine z_aload_n dX12_greatest_0 rfl ?_
  refine z_gI 6 dX12_greatest_1 fl_X12_125 (by first | rfl | assumption) rfl rfl ?_
  rw [h1]
  refine z_if_ne 11 dX12_greatest_4 (by decide) (fun h4 => ?_) (fun h4 => ?_)
  · have hne : L.length ≠ 0 := by omega
    have hl := top_last hr hfit hne
    have hrow := h3 (L.length - 1) (by omega)
    rw [show ((L.length - 1 : Nat) : Int) = (L.length : Int) - 1 by omega] at hrow
    rw [if_neg hne] at hb ⊢
    refine z_aload_n dX12_greatest_11 rfl ?_
    refine z_getR (ty := .int) dX12_greatest_12 fl_X12_19 (by first | rfl | assumption) rfl rfl ?_
    refine z_aload_n dX12_greatest_15 rfl ?_
    refine z_gI 6 dX12_greatest_16 fl_X12_125 (by first | rfl | assumption) rfl rfl ?_
    rw [h1]
    refine z_iconst dX12_greatest_19 (by decide) ?_
    refine z_isub dX12_greatest_20 (by omega) ?_
    refine z_iald dX12_greatest_21 (by first | rfl | assumption) (by omega) (by omega) ?_
    rw [hrow]
    refine z_iload_n dX12_greatest_22 rfl ?_
    refine z_isub dX12_greatest_23 (by omega) ?_
    refine z_iload_n dX12_greatest_24 rfl ?_
    refine z_idiv dX12_greatest_25 (by omega) (by omega) ?_
    refine z_iconst dX12_greatest_26 (by decide) ?_
    refine z_iadd dX12_greatest_27 (by omega) ?_
    refine z_iret dX12_greatest_28 rfl ?_
    first | exact ⟨rfl, _, rfl, by rw [if_pos (by omega)], rfl⟩ | exact ⟨rfl, _, rfl, rfl, rfl⟩
  · refine z_iconst dX12_greatest_7 (by decide) ?_
    refine z_goto 28 dX12_greatest_8 (by decide) ?_
    refine z_iret dX12_greatest_28 rfl ?_
    first | exact ⟨rfl, _, rfl, by rw [if_pos (by omega)], rfl⟩ | exact ⟨rfl, _, rfl, rfl, rfl⟩
theorem cm_X12_mayBe {mo : Int} (hL : numsAt mem L) (hm : mem 88 4 = mo) (hr : ∀ y ∈ L, 0 ≤ y ∧ y ≤ 9999) (hs : 0 < s) (hs9 : s ≤ 99) (hf : 0 ≤ f) (hf9 : f ≤ 9999) (hmo : 1 ≤ mo) : CM X (0, 0) 1 mX12_mayBe G0 [vr 88, vi f, vi s] mem (pI G0 fun z m => bT z (fitP L f s ∧ topN L f s ≤ mo) ∧ m = mem) := by
  have h1 := hL.1
  have h2 := hL.2.1
  have h3 := hL.2.2
  refine CM.of (by decide +kernel) 0 (Nat.le_of_ble_eq_true rfl) ?_
  show ZZ X (0, 0) 1 mX12_mayBe G0 0 [vr 88, vi f, vi s] [] mem _
  refine z_aload_n dX12_mayBe_0 rfl ?_
  refine z_iload_n dX12_mayBe_1 rfl ?_
  refine z_iload_n dX12_mayBe_2 rfl ?_
  refine z_V2i dX12_mayBe_3 ok_X12_fitsNow lk_X12_148 (by first | rfl | assumption) rfl rfl (Nat.le_of_ble_eq_true rfl) (by decide) (cm_X12_fitsNow hL hr hs hf hf9) (fun z1 m1 hm1 => ?_)
  obtain ⟨hz1, rfl⟩ := hm1
  refine z_if_eq 42 dX12_mayBe_6 (by decide) (fun h6 => ?_) (fun h6 => ?_)
  · have hno : ¬ fitP L f s := by
      rcases hz1 with ⟨w1, w2⟩ | ⟨w1, w2⟩
      · omega
      · exact w2
    refine z_iconst dX12_mayBe_42 (by decide) ?_
    refine z_zret dX12_mayBe_43 rfl (by first | exact Or.inl rfl | exact Or.inr rfl | assumption | (split <;> simp) | omega) ?_
    first | exact ⟨rfl, _, rfl, Or.inr ⟨rfl, fun q => hno q.1⟩, rfl⟩ | exact ⟨rfl, _, rfl, Or.inr ⟨rfl, fun q => by omega⟩, rfl⟩ | exact ⟨rfl, _, rfl, Or.inl ⟨rfl, hyes, by omega⟩, rfl⟩
  · have hyes : fitP L f s := by
      rcases hz1 with ⟨w1, w2⟩ | ⟨w1, w2⟩
      · exact w2
      · omega
    have hb := top_bd hr hyes hs hf
    unfold topN at hb ⊢
    refine z_aload_n dX12_mayBe_9 rfl ?_
    refine z_gI 6 dX12_mayBe_10 fl_X12_125 (by first | rfl | assumption) rfl rfl ?_
    rw [h1]
    refine z_if_eq 38 dX12_mayBe_13 (by decide) (fun h13 => ?_) (fun h13 => ?_)
    · rw [if_pos (by omega)] at hb ⊢
      refine z_iconst dX12_mayBe_38 (by decide) ?_
      refine z_goto 43 dX12_mayBe_39 (by decide) ?_
      refine z_zret dX12_mayBe_43 rfl (by first | exact Or.inl rfl | exact Or.inr rfl | assumption | (split <;> simp) | omega) ?_
      first | exact ⟨rfl, _, rfl, Or.inr ⟨rfl, fun q => hno q.1⟩, rfl⟩ | exact ⟨rfl, _, rfl, Or.inr ⟨rfl, fun q => by omega⟩, rfl⟩ | exact ⟨rfl, _, rfl, Or.inl ⟨rfl, hyes, by omega⟩, rfl⟩
    · have hne : L.length ≠ 0 := by omega
      have hl := top_last hr hyes hne
      have hrow := h3 (L.length - 1) (by omega)
      rw [show ((L.length - 1 : Nat) : Int) = (L.length : Int) - 1 by omega] at hrow
      rw [if_neg hne] at hb ⊢
      refine z_aload_n dX12_mayBe_16 rfl ?_
      refine z_getR (ty := .int) dX12_mayBe_17 fl_X12_19 (by first | rfl | assumption) rfl rfl ?_
      refine z_aload_n dX12_mayBe_20 rfl ?_
      refine z_gI 6 dX12_mayBe_21 fl_X12_125 (by first | rfl | assumption) rfl rfl ?_
      rw [h1]
      refine z_iconst dX12_mayBe_24 (by decide) ?_
      refine z_isub dX12_mayBe_25 (by omega) ?_
      refine z_iald dX12_mayBe_26 (by first | rfl | assumption) (by omega) (by omega) ?_
      rw [hrow]
      refine z_iload_n dX12_mayBe_27 rfl ?_
      refine z_isub dX12_mayBe_28 (by omega) ?_
      refine z_iload_n dX12_mayBe_29 rfl ?_
      refine z_idiv dX12_mayBe_30 (by omega) (by omega) ?_
      refine z_aload_n dX12_mayBe_31 rfl ?_
      refine z_gI 4 dX12_mayBe_32 fl_X12_59 (by first | rfl | assumption) rfl rfl ?_
      rw [hm]
      refine z_icmp_ge 42 dX12_mayBe_35 (by decide) (fun h35 => ?_) (fun h35 => ?_)
      · refine z_iconst dX12_mayBe_42 (by decide) ?_
        refine z_zret dX12_mayBe_43 rfl (by first | exact Or.inl rfl | exact Or.inr rfl | assumption | (split <;> simp) | omega) ?_
        first | exact ⟨rfl, _, rfl, Or.inr ⟨rfl, fun q => hno q.1⟩, rfl⟩ | exact ⟨rfl, _, rfl, Or.inr ⟨rfl, fun q => by omega⟩, rfl⟩ | exact ⟨rfl, _, rfl, Or.inl ⟨rfl, hyes, by omega⟩, rfl⟩
      · refine z_iconst dX12_mayBe_38 (by decide) ?_
        refine z_goto 43 dX12_mayBe_39 (by decide) ?_
        refine z_zret dX12_mayBe_43 rfl (by first | exact Or.inl rfl | exact Or.inr rfl | assumption | (split <;> simp) | omega) ?_
        first | exact ⟨rfl, _, rfl, Or.inr ⟨rfl, fun q => hno q.1⟩, rfl⟩ | exact ⟨rfl, _, rfl, Or.inr ⟨rfl, fun q => by omega⟩, rfl⟩ | exact ⟨rfl, _, rfl, Or.inl ⟨rfl, hyes, by omega⟩, rfl⟩
end Top
