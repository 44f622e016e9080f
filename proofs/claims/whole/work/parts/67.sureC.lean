/-! ===== odds, atLeast, span, told, far, held: the class ===== -/
section Lo
variable {L : List Int} {f s : Int}
theorem place_ge (hsr : srt L) (hfit : fitP L f s) (hs : 0 < s) : ∀ i : Nat, i < L.length → (i : Int) ≤ (L.getD i 0 - f) / s
  | 0, h => Int.ediv_nonneg (by have := (hfit 0 h).1; omega) (by omega)
  | i + 1, h => by
    have ih := place_ge hsr hfit hs i (by omega)
    have hlt := hsr i (i + 1) (by omega) h
    have e1 : s * ((L.getD i 0 - f) / s) = L.getD i 0 - f := Int.mul_ediv_cancel_of_emod_eq_zero (hfit i (by omega)).2
    have e2 : s * ((L.getD (i + 1) 0 - f) / s) = L.getD (i + 1) 0 - f := Int.mul_ediv_cancel_of_emod_eq_zero (hfit (i + 1) h).2
    have h3 : (L.getD i 0 - f) / s < (L.getD (i + 1) 0 - f) / s := Int.lt_of_mul_lt_mul_left (a := s) (by rw [e1, e2]; omega) (by omega)
    omega
def loN (L : List Int) (f s : Int) : Nat := (if topN L f s = 0 then 1 else topN L f s).toNat
def wgP (L : List Int) (f s : Int) (mo : Nat) : Prop := fitP L f s ∧ topN L f s ≤ (mo : Int)
theorem lo_ok {mo : Nat} (hr : ∀ y ∈ L, 0 ≤ y ∧ y ≤ 9999) (hsr : srt L) (hs : 0 < s) (hf : 0 ≤ f) (hw : wgP L f s mo) (hmo : 1 ≤ mo) : ((loN L f s : Nat) : Int) = (if topN L f s = 0 then 1 else topN L f s) ∧ L.length ≤ loN L f s ∧ 1 ≤ loN L f s ∧ loN L f s ≤ mo := by
  have hb := top_bd hr hw.1 hs hf
  have h2 := hw.2
  have h3 : (L.length : Int) ≤ topN L f s ∨ L.length = 0 := by
    by_cases q : L.length = 0
    · exact Or.inr q
    · left
      have := place_ge hsr hw.1 hs (L.length - 1) (by omega)
      unfold topN
      rw [if_neg q]
      omega
  unfold loN
  by_cases q : topN L f s = 0
  · rw [if_pos q]
    refine ⟨rfl, ?_, by decide, ?_⟩
    · rw [show Int.toNat 1 = 1 from rfl]; omega
    · rw [show Int.toNat 1 = 1 from rfl]; omega
  · rw [if_neg q]
    omega
theorem ins_old {x y : Int} (h : y ∈ L) : y ∈ insL x L := by
  unfold insL
  split
  · exact h
  · rw [← List.take_append_drop (plc x L) L] at h
    rcases List.mem_append.mp h with q | q
    · exact List.mem_append.mpr (Or.inl q)
    · exact List.mem_append.mpr (Or.inr (List.mem_cons_of_mem _ q))
theorem ins_new {x : Int} : x ∈ insL x L := by
  unfold insL
  split
  · rename_i h
    exact List.mem_of_getElem? h
  · exact List.mem_append.mpr (Or.inr List.mem_cons_self)
theorem gat_mem {fd : Nat → Nat → Int} {mk wo : Int} {i : Nat} (h0 : fd 0 i = mk) (h5 : fd 5 i = 0) (hw : (i : Int) ≠ wo) : ∀ n : Nat, i < n → fd 1 i ∈ gatL fd mk wo n
  | 0, h => by omega
  | n + 1, h => by
    show fd 1 i ∈ if fd 0 n = mk ∧ fd 5 n = 0 ∧ (n : Int) ≠ wo then insL (fd 1 n) (gatL fd mk wo n) else gatL fd mk wo n
    by_cases q : i = n
    · subst q
      rw [if_pos ⟨h0, h5, hw⟩]
      exact ins_new
    · have ih := gat_mem h0 h5 hw n (by omega)
      split
      · exact ins_old ih
      · exact ih
theorem fit_mem (hfit : fitP L f s) {y : Int} (h : y ∈ L) : f ≤ y := by
  obtain ⟨i, hi, he⟩ := List.getElem_of_mem h
  have h1 := (hfit i hi).1
  rw [List.getD_eq_getElem?_getD, List.getElem?_eq_getElem hi, Option.getD_some, he] at h1
  exact h1
end Lo
def suN (L : List Int) (f s : Int) (mo : Nat) (x y : Int) : Nat := wPart L.length (loN L f s) x y (mo + 1 - loN L f s)
def suD (L : List Int) (f s : Int) (mo : Nat) : Nat := wSum L.length (loN L f s) (mo + 1 - loN L f s)
def suY (L : List Int) (f s : Int) (mo a b : Nat) : Nat := spY L.length (loN L f s) mo a b
def suM (L : List Int) (f s : Int) : Int := if L.length = 0 then 0 else topN L f s + topN L f s / (L.length : Int) - 1
abbrev schOk (mk f s : Int) : Prop := 0 ≤ mk ∧ mk ≤ 5 ∧ 0 ≤ f ∧ f ≤ 9999 ∧ 1 ≤ s ∧ s ≤ 99
abbrev parOk (a b : Int) : Prop := 1 ≤ a ∧ a ≤ b ∧ b ≤ 1000
section SureC
variable {X : Nat × (Int → Int)} {mem : Mem} {nf mo : Nat} {fd bk : Nat → Nat → Int}
def onSv (mem m : Mem) : Prop := ∀ x, x < 8 ∨ (16 < x ∧ x < 105 ∧ x ≠ 30 ∧ x ≠ 31) → m x = mem x
def onSu (mem m : Mem) : Prop := ∀ x, x < 8 ∨ (16 < x ∧ x < 80 ∧ x ≠ 30 ∧ x ≠ 31) ∨ (88 ≤ x ∧ x < 105) → m x = mem x
theorem cm_X11_weigh {mk wo f s : Int} (hf : finC mem nf fd) (hfr : finR nf fd) (hm : mem 0 10 = (mo : Int)) (hm1 : 1 ≤ mo) (hm2 : mo ≤ 150) (hs : 1 ≤ s) (hf0 : 0 ≤ f) (hf9 : f ≤ 9999) : CM X (0, 0) 4 mX11_weigh G0 [vr 0, vi mk, vi wo, vi f, vi s] mem (pI G0 fun z m => bT z (wgP (gatL fd mk wo nf) f s mo) ∧ (z = 1 → suAt m (gatL fd mk wo nf).length (loN (gatL fd mk wo nf) f s) mo) ∧ marksAt m (gatL fd mk wo nf) ∧ onSv mem m) := by
  have hr := gatL_rng (mk := mk) (wo := wo) hfr
  have hsr := gatL_srt fd mk wo nf
  have hlen := gatL_len fd mk wo nf
  have hn60 := hf.1
  generalize hL : gatL fd mk wo nf = L at *
  refine CM.of (by decide +kernel) 0 (Nat.le_of_ble_eq_true rfl) ?_
  show ZZ X (0, 0) 4 mX11_weigh G0 0 [vr 0, vi mk, vi wo, vi f, vi s] [] mem _
  refine z_aload_n dX11_weigh_0 rfl ?_
  refine z_getR (ty := .int) dX11_weigh_1 fl_X11_10 (by first | rfl | assumption) rfl rfl ?_
  refine z_iload_n dX11_weigh_4 rfl ?_
  refine z_iload_n dX11_weigh_5 rfl ?_
  refine z_aload_n dX11_weigh_6 rfl ?_
  refine z_getR (ty := .int) dX11_weigh_7 fl_X11_19 (by first | rfl | assumption) rfl rfl ?_
  refine z_V3v dX11_weigh_10 ok_X3_gather lk_X11_98 (by first | rfl | assumption) rfl rfl (Nat.le_of_ble_eq_true rfl) (by decide) (cm_X3_gather (mk := mk) (wo := wo) hf) (fun m1 hm1' => ?_)
  obtain ⟨mk1, o1⟩ := hm1'
  rw [hL] at mk1
  refine z_aload_n dX11_weigh_13 rfl ?_
  refine z_getR (ty := .int) dX11_weigh_14 fl_X11_19 (by first | rfl | assumption) rfl rfl ?_
  refine z_iload_n dX11_weigh_17 rfl ?_
  refine z_iload dX11_weigh_18 rfl ?_
  refine z_V2i dX11_weigh_20 ok_X6_suit lk_X11_114 (by first | rfl | assumption) rfl rfl (Nat.le_of_ble_eq_true rfl) (by decide) (cm_X6_suit mk1 hr (by omega) hf0 hf9) (fun z2 m2 hm2' => ?_)
  obtain ⟨hz2, rfl⟩ := hm2'
  have hmo : m2 0 10 = (mo : Int) := by rw [o1 0 (by decide) (by decide)]; exact hm
  have ho : onSv _ m2 := fun x hx => o1 x (by omega) (by omega)
  refine z_if_eq 43 dX11_weigh_23 (by decide) (fun h23 => ?_) (fun h23 => ?_)
  · have hno := hz2.no h23
    refine z_iconst dX11_weigh_43 (by decide) ?_
    refine z_zret dX11_weigh_44 rfl (by first | exact Or.inl rfl | exact Or.inr rfl | assumption | (split <;> simp) | omega) ?_
    first
    | exact ⟨rfl, _, rfl, Or.inr ⟨rfl, fun q => hno q.1⟩, fun q => absurd q (by decide), mk1, ho⟩
    | exact ⟨rfl, _, rfl, Or.inr ⟨rfl, fun q => by have := q.2; omega⟩, fun q => absurd q (by decide), mk1, ho⟩
  · have hyes := hz2.yes h23
    have hb := top_bd hr hyes (by omega) hf0
    refine z_aload_n dX11_weigh_26 rfl ?_
    refine z_getR (ty := .int) dX11_weigh_27 fl_X11_19 (by first | rfl | assumption) rfl rfl ?_
    refine z_iload_n dX11_weigh_30 rfl ?_
    refine z_iload dX11_weigh_31 rfl ?_
    refine z_V2i dX11_weigh_33 ok_X6_topPlace lk_X11_294 (by first | rfl | assumption) rfl rfl (Nat.le_of_ble_eq_true rfl) (by decide) (cm_X6_topPlace mk1 hr hyes (by omega) hf0) (fun z3 m3 hm3 => ?_)
    obtain ⟨rfl, rfl⟩ := hm3
    refine z_aload_n dX11_weigh_36 rfl ?_
    refine z_gI 10 dX11_weigh_37 fl_X11_79 (by first | rfl | assumption) rfl rfl ?_
    rw [hmo]
    refine z_icmp_lt 45 dX11_weigh_40 (by decide) (fun h40 => ?_) (fun h40 => ?_)
    · have hw : wgP L f s mo := ⟨hyes, by omega⟩
      obtain ⟨e1, e2, e3, e4⟩ := lo_ok hr hsr (by omega) hf0 hw hm1
      refine z_aload_n dX11_weigh_45 rfl ?_
      refine z_getR (ty := .int) dX11_weigh_46 fl_X11_26 (by first | rfl | assumption) rfl rfl ?_
      refine z_aload_n dX11_weigh_49 rfl ?_
      refine z_getR (ty := .int) dX11_weigh_50 fl_X11_19 (by first | rfl | assumption) rfl rfl ?_
      refine z_gI 1 dX11_weigh_53 fl_X11_102 (by first | rfl | assumption) rfl rfl ?_
      rw [mk1.1]
      refine z_aload_n dX11_weigh_56 rfl ?_
      refine z_getR (ty := .int) dX11_weigh_57 fl_X11_19 (by first | rfl | assumption) rfl rfl ?_
      refine z_iload_n dX11_weigh_60 rfl ?_
      refine z_iload dX11_weigh_61 rfl ?_
      refine z_V2i dX11_weigh_63 ok_X6_topPlace lk_X11_294 (by first | rfl | assumption) rfl rfl (Nat.le_of_ble_eq_true rfl) (by decide) (cm_X6_topPlace mk1 hr hyes (by omega) hf0) (fun z4 m4 hm4 => ?_)
      obtain ⟨rfl, rfl⟩ := hm4
      refine z_iconst dX11_weigh_66 (by decide) ?_
      refine z_iadd dX11_weigh_67 (by omega) ?_
      rw [show topN L f s - 1 + 1 = topN L f s by omega]
      refine z_aload_n dX11_weigh_68 rfl ?_
      refine z_gI 10 dX11_weigh_69 fl_X11_79 (by first | rfl | assumption) rfl rfl ?_
      rw [hmo]
      refine z_V3v dX11_weigh_72 ok_X9_prepare lk_X11_297 (by first | rfl | assumption) rfl rfl (Nat.le_of_ble_eq_true rfl) (by decide) (cm_X9_prepare (lo := loN L f s) (by rw [e1]; split <;> split <;> omega) (by omega) e2 e3 e4 hm2) (fun m5 hm5 => ?_)
      obtain ⟨su5, o5⟩ := hm5
      refine z_iconst dX11_weigh_75 (by decide) ?_
      refine z_zret dX11_weigh_76 rfl (by first | exact Or.inl rfl | exact Or.inr rfl | assumption | (split <;> simp) | omega) ?_
      refine ⟨rfl, _, rfl, Or.inl ⟨rfl, hw⟩, fun _ => su5, ⟨?_, mk1.2.1, ?_⟩, fun x hx => (o5 x (by omega)).trans (ho x hx)⟩
      · rw [o5 8 (by omega)]; exact mk1.1
      · rw [o5 9 (by omega)]; exact mk1.2.2
    · refine z_iconst dX11_weigh_43 (by decide) ?_
      refine z_zret dX11_weigh_44 rfl (by first | exact Or.inl rfl | exact Or.inr rfl | assumption | (split <;> simp) | omega) ?_
      first
      | exact ⟨rfl, _, rfl, Or.inr ⟨rfl, fun q => hno q.1⟩, fun q => absurd q (by decide), mk1, ho⟩
      | exact ⟨rfl, _, rfl, Or.inr ⟨rfl, fun q => by have := q.2; omega⟩, fun q => absurd q (by decide), mk1, ho⟩
def shPost (L : List Int) (f s : Int) (mo : Nat) (x y : Int) (ok : Prop) (mem : Mem) (z : Int) (m : Mem) : Prop := (¬ ok → z = -2 ∧ m = mem) ∧ (ok → ¬ wgP L f s mo → z = -3 ∧ onSv mem m) ∧ (ok → wgP L f s mo → z = 1 ∧ lowF m (suN L f s mo x y) (suD L f s mo) ∧ onSu mem m)
theorem cm_X11_odds {mk f s n : Int} (hf : finC mem nf fd) (hfr : finR nf fd) (hm : mem 0 10 = (mo : Int)) (hm1 : 1 ≤ mo) (hm2 : mo ≤ 150) : CM X (0, 0) 6 mX11_odds G0 [vr 0, vi mk, vi f, vi s, vi n] mem (pI G0 fun z m => shPost (gatL fd mk (-1) nf) f s mo n n (schOk mk f s ∧ 0 ≤ n ∧ n ≤ 200) mem z m) := by
  have hr := gatL_rng (mk := mk) (wo := -1) hfr
  have hsr := gatL_srt fd mk (-1) nf
  have hlen := gatL_len fd mk (-1) nf
  have hn60 := hf.1
  refine CM.of (by decide +kernel) 0 (Nat.le_of_ble_eq_true rfl) ?_
  show ZZ X (0, 0) 6 mX11_odds G0 0 [vr 0, vi mk, vi f, vi s, vi n] [] mem _
  refine z_iload_n dX11_odds_0 rfl ?_
  refine z_iload_n dX11_odds_1 rfl ?_
  refine z_iload_n dX11_odds_2 rfl ?_
  refine z_S3i dX11_odds_3 ok_X11_isScheme lk_X11_111 (Nat.le_of_ble_eq_true rfl) (by decide) (cm_X11_isScheme) (fun z1 m1 hq1 => ?_)
  obtain ⟨hz1, rfl⟩ := hq1
  refine z_if_eq 21 dX11_odds_6 (by decide) (fun h6 => ?_) (fun h6 => ?_)
  · have no1 := hz1.no h6
    refine z_bipush dX11_odds_21 (by decide) ?_
    refine z_iret dX11_odds_23 rfl ?_
    first
    | exact ⟨rfl, _, rfl, fun _ => ⟨rfl, rfl⟩, fun q => absurd q.1 no1, fun q => absurd q.1 no1⟩
    | exact ⟨rfl, _, rfl, fun _ => ⟨rfl, rfl⟩, fun q => absurd q.2 no2, fun q => absurd q.2 no2⟩
  · have yes1 := hz1.yes h6
    refine z_iload dX11_odds_9 rfl ?_
    refine z_iconst dX11_odds_11 (by decide) ?_
    refine z_sipush dX11_odds_12 (by decide) ?_
    refine z_S3i dX11_odds_15 ok_X11_within lk_X11_83 (Nat.le_of_ble_eq_true rfl) (by decide) (cm_X11_within) (fun z2 m2 hq2 => ?_)
    obtain ⟨hz2, rfl⟩ := hq2
    refine z_if_ne 24 dX11_odds_18 (by decide) (fun h18 => ?_) (fun h18 => ?_)
    · have yes2 := hz2.yes h18
      refine z_aload_n dX11_odds_24 rfl ?_
      refine z_iload_n dX11_odds_25 rfl ?_
      refine z_iconst dX11_odds_26 (by decide) ?_
      refine z_iload_n dX11_odds_27 rfl ?_
      refine z_iload_n dX11_odds_28 rfl ?_
      refine z_V4i dX11_odds_29 ok_X11_weigh lk_X11_118 (by first | rfl | assumption) rfl rfl (Nat.le_of_ble_eq_true rfl) (by decide) (cm_X11_weigh (mk := mk) (wo := -1) hf hfr hm hm1 hm2 (by omega) (by omega) (by omega)) (fun z3 m3 hq3 => ?_)
      obtain ⟨hz3, su3, mk3, o3⟩ := hq3
      refine z_if_ne 38 dX11_odds_32 (by decide) (fun h32 => ?_) (fun h32 => ?_)
      · have yw := hz3.yes h32
        obtain ⟨e1, e2, e3, e4⟩ := lo_ok hr hsr (by omega) (by omega) yw hm1
        refine z_aload_n dX11_odds_38 rfl ?_
        refine z_getR (ty := .int) dX11_odds_39 fl_X11_26 (by first | rfl | assumption) rfl rfl ?_
        refine z_iload dX11_odds_42 rfl ?_
        refine z_iload dX11_odds_44 rfl ?_
        refine z_aload_n dX11_odds_46 rfl ?_
        refine z_getR (ty := .int) dX11_odds_47 fl_X11_75 (by first | rfl | assumption) rfl rfl ?_
        refine z_V3v dX11_odds_50 ok_X9_share lk_X11_122 (by first | rfl | assumption) rfl rfl (Nat.le_of_ble_eq_true rfl) (by decide) (cm_X9_share (su3 (by have := hz3.val; omega)) (by omega) e2 e3 e4 hm2) (fun m4 hq4 => ?_)
        refine z_iconst dX11_odds_53 (by decide) ?_
        refine z_iret dX11_odds_54 rfl ?_
        exact ⟨rfl, _, rfl, fun q => absurd ⟨yes1, yes2⟩ q, fun _ q => absurd yw q, fun _ _ => ⟨rfl, hq4.1, fun x hx => (hq4.2 x (by omega)).trans (o3 x (by omega))⟩⟩
      · have nw := hz3.no h32
        refine z_bipush dX11_odds_35 (by decide) ?_
        refine z_iret dX11_odds_37 rfl ?_
        exact ⟨rfl, _, rfl, fun q => absurd ⟨yes1, yes2⟩ q, fun _ _ => ⟨rfl, o3⟩, fun _ q => absurd q nw⟩
    · have no2 := hz2.no h18
      refine z_bipush dX11_odds_21 (by decide) ?_
      refine z_iret dX11_odds_23 rfl ?_
      first
      | exact ⟨rfl, _, rfl, fun _ => ⟨rfl, rfl⟩, fun q => absurd q.1 no1, fun q => absurd q.1 no1⟩
      | exact ⟨rfl, _, rfl, fun _ => ⟨rfl, rfl⟩, fun q => absurd q.2 no2, fun q => absurd q.2 no2⟩
theorem cm_X11_atLeast {mk f s n : Int} (hf : finC mem nf fd) (hfr : finR nf fd) (hm : mem 0 10 = (mo : Int)) (hm1 : 1 ≤ mo) (hm2 : mo ≤ 150) : CM X (0, 0) 6 mX11_atLeast G0 [vr 0, vi mk, vi f, vi s, vi n] mem (pI G0 fun z m => shPost (gatL fd mk (-1) nf) f s mo n 200 (schOk mk f s ∧ 0 ≤ n ∧ n ≤ 200) mem z m) := by
  have hr := gatL_rng (mk := mk) (wo := -1) hfr
  have hsr := gatL_srt fd mk (-1) nf
  have hlen := gatL_len fd mk (-1) nf
  have hn60 := hf.1
  refine CM.of (by decide +kernel) 0 (Nat.le_of_ble_eq_true rfl) ?_
  show ZZ X (0, 0) 6 mX11_atLeast G0 0 [vr 0, vi mk, vi f, vi s, vi n] [] mem _
  refine z_iload_n dX11_atLeast_0 rfl ?_
  refine z_iload_n dX11_atLeast_1 rfl ?_
  refine z_iload_n dX11_atLeast_2 rfl ?_
  refine z_S3i dX11_atLeast_3 ok_X11_isScheme lk_X11_111 (Nat.le_of_ble_eq_true rfl) (by decide) (cm_X11_isScheme) (fun z1 m1 hq1 => ?_)
  obtain ⟨hz1, rfl⟩ := hq1
  refine z_if_eq 21 dX11_atLeast_6 (by decide) (fun h6 => ?_) (fun h6 => ?_)
  · have no1 := hz1.no h6
    refine z_bipush dX11_atLeast_21 (by decide) ?_
    refine z_iret dX11_atLeast_23 rfl ?_
    first
    | exact ⟨rfl, _, rfl, fun _ => ⟨rfl, rfl⟩, fun q => absurd q.1 no1, fun q => absurd q.1 no1⟩
    | exact ⟨rfl, _, rfl, fun _ => ⟨rfl, rfl⟩, fun q => absurd q.2 no2, fun q => absurd q.2 no2⟩
  · have yes1 := hz1.yes h6
    refine z_iload dX11_atLeast_9 rfl ?_
    refine z_iconst dX11_atLeast_11 (by decide) ?_
    refine z_sipush dX11_atLeast_12 (by decide) ?_
    refine z_S3i dX11_atLeast_15 ok_X11_within lk_X11_83 (Nat.le_of_ble_eq_true rfl) (by decide) (cm_X11_within) (fun z2 m2 hq2 => ?_)
    obtain ⟨hz2, rfl⟩ := hq2
    refine z_if_ne 24 dX11_atLeast_18 (by decide) (fun h18 => ?_) (fun h18 => ?_)
    · have yes2 := hz2.yes h18
      refine z_aload_n dX11_atLeast_24 rfl ?_
      refine z_iload_n dX11_atLeast_25 rfl ?_
      refine z_iconst dX11_atLeast_26 (by decide) ?_
      refine z_iload_n dX11_atLeast_27 rfl ?_
      refine z_iload_n dX11_atLeast_28 rfl ?_
      refine z_V4i dX11_atLeast_29 ok_X11_weigh lk_X11_118 (by first | rfl | assumption) rfl rfl (Nat.le_of_ble_eq_true rfl) (by decide) (cm_X11_weigh (mk := mk) (wo := -1) hf hfr hm hm1 hm2 (by omega) (by omega) (by omega)) (fun z3 m3 hq3 => ?_)
      obtain ⟨hz3, su3, mk3, o3⟩ := hq3
      refine z_if_ne 38 dX11_atLeast_32 (by decide) (fun h32 => ?_) (fun h32 => ?_)
      · have yw := hz3.yes h32
        obtain ⟨e1, e2, e3, e4⟩ := lo_ok hr hsr (by omega) (by omega) yw hm1
        refine z_aload_n dX11_atLeast_38 rfl ?_
        refine z_getR (ty := .int) dX11_atLeast_39 fl_X11_26 (by first | rfl | assumption) rfl rfl ?_
        refine z_iload dX11_atLeast_42 rfl ?_
        refine z_sipush dX11_atLeast_44 (by decide) ?_
        refine z_aload_n dX11_atLeast_47 rfl ?_
        refine z_getR (ty := .int) dX11_atLeast_48 fl_X11_75 (by first | rfl | assumption) rfl rfl ?_
        refine z_V3v dX11_atLeast_51 ok_X9_share lk_X11_122 (by first | rfl | assumption) rfl rfl (Nat.le_of_ble_eq_true rfl) (by decide) (cm_X9_share (su3 (by have := hz3.val; omega)) (by omega) e2 e3 e4 hm2) (fun m4 hq4 => ?_)
        refine z_iconst dX11_atLeast_54 (by decide) ?_
        refine z_iret dX11_atLeast_55 rfl ?_
        exact ⟨rfl, _, rfl, fun q => absurd ⟨yes1, yes2⟩ q, fun _ q => absurd yw q, fun _ _ => ⟨rfl, hq4.1, fun x hx => (hq4.2 x (by omega)).trans (o3 x (by omega))⟩⟩
      · have nw := hz3.no h32
        refine z_bipush dX11_atLeast_35 (by decide) ?_
        refine z_iret dX11_atLeast_37 rfl ?_
        exact ⟨rfl, _, rfl, fun q => absurd ⟨yes1, yes2⟩ q, fun _ _ => ⟨rfl, o3⟩, fun _ q => absurd q nw⟩
    · have no2 := hz2.no h18
      refine z_bipush dX11_atLeast_21 (by decide) ?_
      refine z_iret dX11_atLeast_23 rfl ?_
      first
      | exact ⟨rfl, _, rfl, fun _ => ⟨rfl, rfl⟩, fun q => absurd q.1 no1, fun q => absurd q.1 no1⟩
      | exact ⟨rfl, _, rfl, fun _ => ⟨rfl, rfl⟩, fun q => absurd q.2 no2, fun q => absurd q.2 no2⟩
/-- span and told: the answer alone -/
def anPost (L : List Int) (f s : Int) (mo : Nat) (v : Int) (ok : Prop) (z : Int) : Prop := (¬ ok → z = -2) ∧ (ok → ¬ wgP L f s mo → z = -3) ∧ (ok → wgP L f s mo → z = v)
theorem cm_X11_span {mk f s a b wh : Int} (hf : finC mem nf fd) (hfr : finR nf fd) (hm : mem 0 10 = (mo : Int)) (hm1 : 1 ≤ mo) (hm2 : mo ≤ 150) : CM X (0, 0) 5 mX11_span G0 [vr 0, vi mk, vi f, vi s, vi a, vi b, vi wh] mem (pI G0 fun z m => anPost (gatL fd mk (-1) nf) f s mo (if wh = 0 then (loN (gatL fd mk (-1) nf) f s : Int) else (suY (gatL fd mk (-1) nf) f s mo a.toNat b.toNat : Int)) (schOk mk f s ∧ parOk a b ∧ 0 ≤ wh ∧ wh ≤ 1) z ∧ onSv mem m) := by
  have hr := gatL_rng (mk := mk) (wo := -1) hfr
  have hsr := gatL_srt fd mk (-1) nf
  have hlen := gatL_len fd mk (-1) nf
  have hn60 := hf.1
  refine CM.of (by decide +kernel) 0 (Nat.le_of_ble_eq_true rfl) ?_
  show ZZ X (0, 0) 5 mX11_span G0 0 [vr 0, vi mk, vi f, vi s, vi a, vi b, vi wh] [] mem _
  refine z_iload_n dX11_span_0 rfl ?_
  refine z_iload_n dX11_span_1 rfl ?_
  refine z_iload_n dX11_span_2 rfl ?_
  refine z_S3i dX11_span_3 ok_X11_isScheme lk_X11_111 (Nat.le_of_ble_eq_true rfl) (by decide) (cm_X11_isScheme) (fun z1 m1 hq1 => ?_)
  obtain ⟨hz1, rfl⟩ := hq1
  refine z_if_eq 29 dX11_span_6 (by decide) (fun h6 => ?_) (fun h6 => ?_)
  · have no1 := hz1.no h6
    refine z_bipush dX11_span_29 (by decide) ?_
    refine z_iret dX11_span_31 rfl ?_
    first
    | exact ⟨rfl, _, rfl, ⟨fun _ => rfl, fun q => absurd q.1 no1, fun q => absurd q.1 no1⟩, fun _ _ => rfl⟩
    | exact ⟨rfl, _, rfl, ⟨fun _ => rfl, fun q => absurd q.2.1 no4, fun q => absurd q.2.1 no4⟩, fun _ _ => rfl⟩
    | exact ⟨rfl, _, rfl, ⟨fun _ => rfl, fun q => absurd q.2.2 no2, fun q => absurd q.2.2 no2⟩, fun _ _ => rfl⟩
  · have yes1 := hz1.yes h6
    refine z_iload dX11_span_9 rfl ?_
    refine z_iload dX11_span_11 rfl ?_
    refine z_S2i dX11_span_13 ok_X11_isPart lk_X11_126 (Nat.le_of_ble_eq_true rfl) (by decide) (cm_X11_isPart) (fun z4 m4 hq4 => ?_)
    obtain ⟨hz4, rfl⟩ := hq4
    refine z_if_eq 29 dX11_span_16 (by decide) (fun h16 => ?_) (fun h16 => ?_)
    · have no4 := hz4.no h16
      refine z_bipush dX11_span_29 (by decide) ?_
      refine z_iret dX11_span_31 rfl ?_
      first
      | exact ⟨rfl, _, rfl, ⟨fun _ => rfl, fun q => absurd q.1 no1, fun q => absurd q.1 no1⟩, fun _ _ => rfl⟩
      | exact ⟨rfl, _, rfl, ⟨fun _ => rfl, fun q => absurd q.2.1 no4, fun q => absurd q.2.1 no4⟩, fun _ _ => rfl⟩
      | exact ⟨rfl, _, rfl, ⟨fun _ => rfl, fun q => absurd q.2.2 no2, fun q => absurd q.2.2 no2⟩, fun _ _ => rfl⟩
    · have yes4 := hz4.yes h16
      refine z_iload dX11_span_19 rfl ?_
      refine z_iconst dX11_span_21 (by decide) ?_
      refine z_iconst dX11_span_22 (by decide) ?_
      refine z_S3i dX11_span_23 ok_X11_within lk_X11_83 (Nat.le_of_ble_eq_true rfl) (by decide) (cm_X11_within) (fun z2 m2 hq2 => ?_)
      obtain ⟨hz2, rfl⟩ := hq2
      refine z_if_ne 32 dX11_span_26 (by decide) (fun h26 => ?_) (fun h26 => ?_)
      · have yes2 := hz2.yes h26
        obtain ⟨a', rfl⟩ : ∃ a' : Nat, a = (a' : Int) := ⟨a.toNat, by omega⟩
        obtain ⟨b', rfl⟩ : ∃ b' : Nat, b = (b' : Int) := ⟨b.toNat, by omega⟩
        simp only [Int.toNat_natCast]
        refine z_aload_n dX11_span_32 rfl ?_
        refine z_iload_n dX11_span_33 rfl ?_
        refine z_iconst dX11_span_34 (by decide) ?_
        refine z_iload_n dX11_span_35 rfl ?_
        refine z_iload_n dX11_span_36 rfl ?_
        refine z_V4i dX11_span_37 ok_X11_weigh lk_X11_118 (by first | rfl | assumption) rfl rfl (Nat.le_of_ble_eq_true rfl) (by decide) (cm_X11_weigh (mk := mk) (wo := -1) hf hfr hm hm1 hm2 (by omega) (by omega) (by omega)) (fun z3 m3 hq3 => ?_)
        obtain ⟨hz3, su3, mk3, o3⟩ := hq3
        refine z_if_ne 46 dX11_span_40 (by decide) (fun h40 => ?_) (fun h40 => ?_)
        · have yw := hz3.yes h40
          obtain ⟨e1, e2, e3, e4⟩ := lo_ok hr hsr (by omega) (by omega) yw hm1
          have su4 := su3 (by have := hz3.val; omega)
          refine z_iload dX11_span_46 rfl ?_
          refine z_if_ne 61 dX11_span_48 (by decide) (fun h48 => ?_) (fun h48 => ?_)
          · refine z_aload_n dX11_span_61 rfl ?_
            refine z_getR (ty := .int) dX11_span_62 fl_X11_26 (by first | rfl | assumption) rfl rfl ?_
            refine z_iload dX11_span_65 rfl ?_
            refine z_iload dX11_span_67 rfl ?_
            refine z_V2i dX11_span_69 ok_X9_spanEnd lk_X11_132 (by first | rfl | assumption) rfl rfl (Nat.le_of_ble_eq_true rfl) (by decide) (cm_X9_spanEnd su4 (by omega) e2 e3 e4 hm2 (by omega) (by omega) (by omega)) (fun z5 m5 hq5 => ?_)
            obtain ⟨rfl, o5⟩ := hq5
            refine z_iret dX11_span_72 rfl ?_
            first
            | exact ⟨rfl, _, rfl, ⟨fun q => absurd ⟨yes1, yes4, yes2⟩ q, fun _ q => absurd yw q, fun _ _ => (if_pos h48).symm⟩, o3⟩
            | exact ⟨rfl, _, rfl, ⟨fun q => absurd ⟨yes1, yes4, yes2⟩ q, fun _ q => absurd yw q, fun _ _ => (if_neg h48).symm⟩, fun x hx => (o5 x (by omega)).trans (o3 x hx)⟩
          · refine z_aload_n dX11_span_51 rfl ?_
            refine z_getR (ty := .int) dX11_span_52 fl_X11_26 (by first | rfl | assumption) rfl rfl ?_
            refine z_gI 5 dX11_span_55 fl_X11_129 (by first | rfl | assumption) rfl rfl ?_
            rw [su4.1.2.1]
            refine z_goto 72 dX11_span_58 (by decide) ?_
            refine z_iret dX11_span_72 rfl ?_
            first
            | exact ⟨rfl, _, rfl, ⟨fun q => absurd ⟨yes1, yes4, yes2⟩ q, fun _ q => absurd yw q, fun _ _ => (if_pos h48).symm⟩, o3⟩
            | exact ⟨rfl, _, rfl, ⟨fun q => absurd ⟨yes1, yes4, yes2⟩ q, fun _ q => absurd yw q, fun _ _ => (if_neg h48).symm⟩, fun x hx => (o5 x (by omega)).trans (o3 x hx)⟩
        · have nw := hz3.no h40
          refine z_bipush dX11_span_43 (by decide) ?_
          refine z_iret dX11_span_45 rfl ?_
          exact ⟨rfl, _, rfl, ⟨fun q => absurd ⟨yes1, yes4, yes2⟩ q, fun _ _ => rfl, fun _ q => absurd q nw⟩, o3⟩
      · have no2 := hz2.no h26
        refine z_bipush dX11_span_29 (by decide) ?_
        refine z_iret dX11_span_31 rfl ?_
        first
        | exact ⟨rfl, _, rfl, ⟨fun _ => rfl, fun q => absurd q.1 no1, fun q => absurd q.1 no1⟩, fun _ _ => rfl⟩
        | exact ⟨rfl, _, rfl, ⟨fun _ => rfl, fun q => absurd q.2.1 no4, fun q => absurd q.2.1 no4⟩, fun _ _ => rfl⟩
        | exact ⟨rfl, _, rfl, ⟨fun _ => rfl, fun q => absurd q.2.2 no2, fun q => absurd q.2.2 no2⟩, fun _ _ => rfl⟩
theorem cm_X11_told {mk f s wh : Int} (hf : finC mem nf fd) (hfr : finR nf fd) (hm : mem 0 10 = (mo : Int)) (hm1 : 1 ≤ mo) (hm2 : mo ≤ 150) : CM X (0, 0) 5 mX11_told G0 [vr 0, vi mk, vi f, vi s, vi wh] mem (pI G0 fun z m => anPost (gatL fd mk (-1) nf) f s mo (if wh = 0 then (loN (gatL fd mk (-1) nf) f s : Int) else suM (gatL fd mk (-1) nf) f s) (schOk mk f s ∧ 0 ≤ wh ∧ wh ≤ 1) z ∧ onSv mem m) := by
  have hr := gatL_rng (mk := mk) (wo := -1) hfr
  have hsr := gatL_srt fd mk (-1) nf
  have hlen := gatL_len fd mk (-1) nf
  have hn60 := hf.1
  refine CM.of (by decide +kernel) 0 (Nat.le_of_ble_eq_true rfl) ?_
  show ZZ X (0, 0) 5 mX11_told G0 0 [vr 0, vi mk, vi f, vi s, vi wh] [] mem _
  refine z_iload_n dX11_told_0 rfl ?_
  refine z_iload_n dX11_told_1 rfl ?_
  refine z_iload_n dX11_told_2 rfl ?_
  refine z_S3i dX11_told_3 ok_X11_isScheme lk_X11_111 (Nat.le_of_ble_eq_true rfl) (by decide) (cm_X11_isScheme) (fun z1 m1 hq1 => ?_)
  obtain ⟨hz1, rfl⟩ := hq1
  refine z_if_eq 19 dX11_told_6 (by decide) (fun h6 => ?_) (fun h6 => ?_)
  · have no1 := hz1.no h6
    refine z_bipush dX11_told_19 (by decide) ?_
    refine z_iret dX11_told_21 rfl ?_
    first
    | exact ⟨rfl, _, rfl, ⟨fun _ => rfl, fun q => absurd q.1 no1, fun q => absurd q.1 no1⟩, fun _ _ => rfl⟩
    | exact ⟨rfl, _, rfl, ⟨fun _ => rfl, fun q => absurd q.2 no2, fun q => absurd q.2 no2⟩, fun _ _ => rfl⟩
  · have yes1 := hz1.yes h6
    refine z_iload dX11_told_9 rfl ?_
    refine z_iconst dX11_told_11 (by decide) ?_
    refine z_iconst dX11_told_12 (by decide) ?_
    refine z_S3i dX11_told_13 ok_X11_within lk_X11_83 (Nat.le_of_ble_eq_true rfl) (by decide) (cm_X11_within) (fun z2 m2 hq2 => ?_)
    obtain ⟨hz2, rfl⟩ := hq2
    refine z_if_ne 22 dX11_told_16 (by decide) (fun h16 => ?_) (fun h16 => ?_)
    · have yes2 := hz2.yes h16
      refine z_aload_n dX11_told_22 rfl ?_
      refine z_iload_n dX11_told_23 rfl ?_
      refine z_iconst dX11_told_24 (by decide) ?_
      refine z_iload_n dX11_told_25 rfl ?_
      refine z_iload_n dX11_told_26 rfl ?_
      refine z_V4i dX11_told_27 ok_X11_weigh lk_X11_118 (by first | rfl | assumption) rfl rfl (Nat.le_of_ble_eq_true rfl) (by decide) (cm_X11_weigh (mk := mk) (wo := -1) hf hfr hm hm1 hm2 (by omega) (by omega) (by omega)) (fun z3 m3 hq3 => ?_)
      obtain ⟨hz3, su3, mk3, o3⟩ := hq3
      refine z_if_ne 36 dX11_told_30 (by decide) (fun h30 => ?_) (fun h30 => ?_)
      · have yw := hz3.yes h30
        have su4 := su3 (by have := hz3.val; omega)
        refine z_iload dX11_told_36 rfl ?_
        refine z_if_ne 51 dX11_told_38 (by decide) (fun h38 => ?_) (fun h38 => ?_)
        · refine z_aload_n dX11_told_51 rfl ?_
          refine z_getR (ty := .int) dX11_told_52 fl_X11_19 (by first | rfl | assumption) rfl rfl ?_
          refine z_iload_n dX11_told_55 rfl ?_
          refine z_iload_n dX11_told_56 rfl ?_
          refine z_V2i dX11_told_57 ok_X6_littleMore lk_X11_136 (by first | rfl | assumption) rfl rfl (Nat.le_of_ble_eq_true rfl) (by decide) (cm_X6_littleMore mk3 hr yw.1 (by omega) (by omega)) (fun z5 m5 hq5 => ?_)
          obtain ⟨rfl, rfl⟩ := hq5
          refine z_iret dX11_told_60 rfl ?_
          first
          | exact ⟨rfl, _, rfl, ⟨fun q => absurd ⟨yes1, yes2⟩ q, fun _ q => absurd yw q, fun _ _ => (if_pos h38).symm⟩, o3⟩
          | exact ⟨rfl, _, rfl, ⟨fun q => absurd ⟨yes1, yes2⟩ q, fun _ q => absurd yw q, fun _ _ => (if_neg h38).symm⟩, o3⟩
        · refine z_aload_n dX11_told_41 rfl ?_
          refine z_getR (ty := .int) dX11_told_42 fl_X11_26 (by first | rfl | assumption) rfl rfl ?_
          refine z_gI 5 dX11_told_45 fl_X11_129 (by first | rfl | assumption) rfl rfl ?_
          rw [su4.1.2.1]
          refine z_goto 60 dX11_told_48 (by decide) ?_
          refine z_iret dX11_told_60 rfl ?_
          first
          | exact ⟨rfl, _, rfl, ⟨fun q => absurd ⟨yes1, yes2⟩ q, fun _ q => absurd yw q, fun _ _ => (if_pos h38).symm⟩, o3⟩
          | exact ⟨rfl, _, rfl, ⟨fun q => absurd ⟨yes1, yes2⟩ q, fun _ q => absurd yw q, fun _ _ => (if_neg h38).symm⟩, o3⟩
      · have nw := hz3.no h30
        refine z_bipush dX11_told_33 (by decide) ?_
        refine z_iret dX11_told_35 rfl ?_
        exact ⟨rfl, _, rfl, ⟨fun q => absurd ⟨yes1, yes2⟩ q, fun _ _ => rfl, fun _ q => absurd q nw⟩, o3⟩
    · have no2 := hz2.no h16
      refine z_bipush dX11_told_19 (by decide) ?_
      refine z_iret dX11_told_21 rfl ?_
      first
      | exact ⟨rfl, _, rfl, ⟨fun _ => rfl, fun q => absurd q.1 no1, fun q => absurd q.1 no1⟩, fun _ _ => rfl⟩
      | exact ⟨rfl, _, rfl, ⟨fun _ => rfl, fun q => absurd q.2 no2, fun q => absurd q.2 no2⟩, fun _ _ => rfl⟩
/-- far: the answer alone -/
def faPost (nf : Nat) (fd : Nat → Nat → Int) (f s : Int) (mo : Nat) (i z : Int) : Prop := (¬ ((0 ≤ i ∧ i < (nf : Int)) ∧ 0 ≤ f ∧ f ≤ 9999 ∧ 1 ≤ s ∧ s ≤ 99) → z = -2) ∧ ((0 ≤ i ∧ i < (nf : Int)) ∧ 0 ≤ f ∧ f ≤ 9999 ∧ 1 ≤ s ∧ s ≤ 99 → (¬ (fd 5 i.toNat = 0 ∧ fitP (gatL fd (fd 0 i.toNat) (-1) nf) f s ∧ wgP (gatL fd (fd 0 i.toNat) i nf) f s mo) → z = -3) ∧ (fd 5 i.toNat = 0 ∧ fitP (gatL fd (fd 0 i.toNat) (-1) nf) f s ∧ wgP (gatL fd (fd 0 i.toNat) i nf) f s mo → z = if (gatL fd (fd 0 i.toNat) i nf).length = 0 then 0 else if (suY (gatL fd (fd 0 i.toNat) i nf) f s mo 99 100 : Int) < (fd 1 i.toNat - f) / s + 1 then 1 else 0))
theorem cm_X11_far {i f s : Int} (hf : finC mem nf fd) (hfr : finR nf fd) (hm : mem 0 10 = (mo : Int)) (hm1 : 1 ≤ mo) (hm2 : mo ≤ 150) : CM X (0, 0) 5 mX11_far G0 [vr 0, vi i, vi f, vi s] mem (pI G0 fun z m => faPost nf fd f s mo i z ∧ onSv mem m) := by
  have hn60 := hf.1
  refine CM.of (by decide +kernel) 2 (Nat.le_of_ble_eq_true rfl) ?_
  show ZZ X (0, 0) 5 mX11_far G0 0 [vr 0, vi i, vi f, vi s, vd, vd] [] mem _
  refine z_iload_n dX11_far_0 rfl ?_
  refine z_iconst dX11_far_1 (by decide) ?_
  refine z_aload_n dX11_far_2 rfl ?_
  refine z_getR (ty := .int) dX11_far_3 fl_X11_10 (by first | rfl | assumption) rfl rfl ?_
  refine z_gI 6 dX11_far_6 fl_X11_91 (by first | rfl | assumption) rfl rfl ?_
  rw [hf.2.1]
  refine z_iconst dX11_far_9 (by decide) ?_
  refine z_isub dX11_far_10 (by omega) ?_
  refine z_S3i dX11_far_11 ok_X11_within lk_X11_83 (Nat.le_of_ble_eq_true rfl) (by decide) (cm_X11_within) (fun z1 m1 hq1 => ?_)
  obtain ⟨hz1, rfl⟩ := hq1
  refine z_if_eq 26 dX11_far_14 (by decide) (fun h14 => ?_) (fun h14 => ?_)
  · have no1 := hz1.no h14
    refine z_bipush dX11_far_26 (by decide) ?_
    refine z_iret dX11_far_28 rfl ?_
    first
    | exact ⟨rfl, _, rfl, ⟨fun _ => rfl, fun q => absurd ⟨q.1.1, by omega⟩ no1⟩, fun _ _ => rfl⟩
    | exact ⟨rfl, _, rfl, ⟨fun _ => rfl, fun q => absurd ⟨by decide, by decide, q.2⟩ no2⟩, fun _ _ => rfl⟩
  · have yes1 := hz1.yes h14
    refine z_iconst dX11_far_17 (by decide) ?_
    refine z_iload_n dX11_far_18 rfl ?_
    refine z_iload_n dX11_far_19 rfl ?_
    refine z_S3i dX11_far_20 ok_X11_isScheme lk_X11_111 (Nat.le_of_ble_eq_true rfl) (by decide) (cm_X11_isScheme) (fun z2 m2 hq2 => ?_)
    obtain ⟨hz2, rfl⟩ := hq2
    refine z_if_ne 29 dX11_far_23 (by decide) (fun h23 => ?_) (fun h23 => ?_)
    · have yes2 := hz2.yes h23
      obtain ⟨n, rfl⟩ : ∃ n : Nat, i = (n : Int) := ⟨i.toNat, by omega⟩
      have hn : n < nf := by omega
      have c0 := hf.2.2.1 0 n (by decide) hn
      have c1 := hf.2.2.1 1 n (by decide) hn
      have c5 := hf.2.2.1 5 n (by decide) hn
      obtain ⟨q0, q1, -, -, -, q5⟩ := hfr n hn
      have hr := gatL_rng (mk := fd 0 n) (wo := -1) hfr
      have hr2 := gatL_rng (mk := fd 0 n) (wo := (n : Int)) hfr
      have hsr2 := gatL_srt fd (fd 0 n) (n : Int) nf
      have hlen2 := gatL_len fd (fd 0 n) (n : Int) nf
      refine z_aload_n dX11_far_29 rfl ?_
      refine z_getR (ty := .int) dX11_far_30 fl_X11_10 (by first | rfl | assumption) rfl rfl ?_
      refine z_getR (ty := .int) dX11_far_33 fl_X11_139 (by first | rfl | assumption) rfl rfl ?_
      refine z_iload_n dX11_far_36 rfl ?_
      refine z_iald dX11_far_37 (by first | rfl | assumption) (by omega) (by omega) ?_
      rw [c0]
      refine z_istore dX11_far_38 (by decide) rfl ?_
      dsimp only [List.set]
      refine z_aload_n dX11_far_40 rfl ?_
      refine z_getR (ty := .int) dX11_far_41 fl_X11_10 (by first | rfl | assumption) rfl rfl ?_
      refine z_iload dX11_far_44 rfl ?_
      refine z_iconst dX11_far_46 (by decide) ?_
      refine z_aload_n dX11_far_47 rfl ?_
      refine z_getR (ty := .int) dX11_far_48 fl_X11_19 (by first | rfl | assumption) rfl rfl ?_
      refine z_V3v dX11_far_51 ok_X3_gather lk_X11_98 (by first | rfl | assumption) rfl rfl (Nat.le_of_ble_eq_true rfl) (by decide) (cm_X3_gather (mk := fd 0 n) (wo := -1) hf) (fun m3 hq3 => ?_)
      obtain ⟨mk3, o3⟩ := hq3
      have f3 := hf.off (m := m3) fun a h1 h2 => o3 a (by omega) (by omega)
      have c5' := f3.2.2.1 5 n (by decide) hn
      have c1' := f3.2.2.1 1 n (by decide) hn
      have hm3 : m3 0 10 = (mo : Int) := by rw [o3 0 (by decide) (by decide)]; exact hm
      refine z_aload_n dX11_far_54 rfl ?_
      refine z_getR (ty := .int) dX11_far_55 fl_X11_10 (by first | rfl | assumption) rfl rfl ?_
      refine z_getR (ty := .int) dX11_far_58 fl_X11_94 (by first | rfl | assumption) rfl rfl ?_
      refine z_iload_n dX11_far_61 rfl ?_
      refine z_zald dX11_far_62 (by first | rfl | assumption) (by omega) (by omega) (fun h62 => ?_)
      rw [c5']
      refine z_if_ne 78 dX11_far_63 (by decide) (fun h63 => ?_) (fun h63 => ?_)
      · have no5 : ¬ fd 5 n = 0 := h63
        refine z_bipush dX11_far_78 (by decide) ?_
        refine z_iret dX11_far_80 rfl ?_
        first
        | exact ⟨rfl, _, rfl, ⟨fun q => absurd ⟨⟨by omega, by omega⟩, yes2.2.2⟩ q, fun _ => ⟨fun _ => rfl, fun q => absurd q.1 no5⟩⟩, fun x hx => o3 x (by omega) (by omega)⟩
        | exact ⟨rfl, _, rfl, ⟨fun q => absurd ⟨⟨by omega, by omega⟩, yes2.2.2⟩ q, fun _ => ⟨fun _ => rfl, fun q => absurd q.2.1 no4⟩⟩, fun x hx => o3 x (by omega) (by omega)⟩
      · have yes5 : fd 5 n = 0 := h63
        refine z_aload_n dX11_far_66 rfl ?_
        refine z_getR (ty := .int) dX11_far_67 fl_X11_19 (by first | rfl | assumption) rfl rfl ?_
        refine z_iload_n dX11_far_70 rfl ?_
        refine z_iload_n dX11_far_71 rfl ?_
        refine z_V2i dX11_far_72 ok_X6_suit lk_X11_114 (by first | rfl | assumption) rfl rfl (Nat.le_of_ble_eq_true rfl) (by decide) (cm_X6_suit mk3 hr (by omega) (by omega) (by omega)) (fun z4 m4 hq4 => ?_)
        obtain ⟨hz4, rfl⟩ := hq4
        refine z_if_ne 81 dX11_far_75 (by decide) (fun h75 => ?_) (fun h75 => ?_)
        · have yes4 := hz4.yes h75
          refine z_aload_n dX11_far_81 rfl ?_
          refine z_iload dX11_far_82 rfl ?_
          refine z_iload_n dX11_far_84 rfl ?_
          refine z_iload_n dX11_far_85 rfl ?_
          refine z_iload_n dX11_far_86 rfl ?_
          refine z_V4i dX11_far_87 ok_X11_weigh lk_X11_118 (by first | rfl | assumption) rfl rfl (Nat.le_of_ble_eq_true rfl) (by decide) (cm_X11_weigh (mk := fd 0 n) (wo := (n : Int)) f3 hfr hm3 hm1 hm2 (by omega) (by omega) (by omega)) (fun z5 m5 hq5 => ?_)
          obtain ⟨hz5, su5, mk5, o5⟩ := hq5
          have ho : onSv _ m5 := fun x hx => (o5 x hx).trans (o3 x (by omega) (by omega))
          refine z_if_ne 96 dX11_far_90 (by decide) (fun h90 => ?_) (fun h90 => ?_)
          · have yw := hz5.yes h90
            obtain ⟨e1, e2, e3, e4⟩ := lo_ok hr2 hsr2 (by omega) (by omega) yw hm1
            have hin := fit_mem yes4 (gat_mem (fd := fd) (mk := fd 0 n) (wo := -1) rfl yes5 (by omega) nf hn)
            have c1'' : m5 3 (n : Int) = fd 1 n := by rw [o5 3 (by omega)]; exact c1'
            have hd1 : 0 ≤ (fd 1 n - f) / s := Int.ediv_nonneg (by omega) (by omega)
            have hd2 : (fd 1 n - f) / s ≤ fd 1 n - f := Int.ediv_le_self _ (by omega)
            refine z_aload_n dX11_far_96 rfl ?_
            refine z_getR (ty := .int) dX11_far_97 fl_X11_19 (by first | rfl | assumption) rfl rfl ?_
            refine z_gI 1 dX11_far_100 fl_X11_102 (by first | rfl | assumption) rfl rfl ?_
            rw [mk5.1]
            refine z_if_ne 108 dX11_far_103 (by decide) (fun h103 => ?_) (fun h103 => ?_)
            · refine z_aload_n dX11_far_108 rfl ?_
              refine z_getR (ty := .int) dX11_far_109 fl_X11_10 (by first | rfl | assumption) rfl rfl ?_
              refine z_getR (ty := .int) dX11_far_112 fl_X11_143 (by first | rfl | assumption) rfl rfl ?_
              refine z_iload_n dX11_far_115 rfl ?_
              refine z_iald dX11_far_116 (by first | rfl | assumption) (by omega) (by omega) ?_
              rw [c1'']
              refine z_iload_n dX11_far_117 rfl ?_
              refine z_iload_n dX11_far_118 rfl ?_
              refine z_S3i dX11_far_119 ok_X11_placeOf lk_X11_146 (Nat.le_of_ble_eq_true rfl) (by decide) (cm_X11_placeOf (by omega) hin q1.2 (by omega)) (fun z6 m6 hq6 => ?_)
              obtain ⟨rfl, rfl⟩ := hq6
              refine z_istore dX11_far_122 (by decide) rfl ?_
              dsimp only [List.set]
              refine z_iload dX11_far_124 rfl ?_
              refine z_iconst dX11_far_126 (by decide) ?_
              refine z_iadd dX11_far_127 (by omega) ?_
              refine z_aload_n dX11_far_128 rfl ?_
              refine z_getR (ty := .int) dX11_far_129 fl_X11_26 (by first | rfl | assumption) rfl rfl ?_
              refine z_bipush dX11_far_132 (by decide) ?_
              refine z_bipush dX11_far_134 (by decide) ?_
              refine z_V2i dX11_far_136 ok_X9_spanEnd lk_X11_132 (by first | rfl | assumption) rfl rfl (Nat.le_of_ble_eq_true rfl) (by decide) (cm_X9_spanEnd (a := 99) (b := 100) (su5 (by have := hz5.val; omega)) (by omega) e2 e3 e4 hm2 (by decide) (by decide) (by decide)) (fun z7 m7 hq7 => ?_)
              obtain ⟨rfl, o7⟩ := hq7
              refine z_icmp_le 146 dX11_far_139 (by decide) (fun h139 => ?_) (fun h139 => ?_)
              · refine z_iconst dX11_far_146 (by decide) ?_
                refine z_iret dX11_far_147 rfl ?_
                first
                | exact ⟨rfl, _, rfl, ⟨fun q => absurd ⟨⟨by omega, by omega⟩, yes2.2.2⟩ q, fun _ => ⟨fun q => absurd ⟨yes5, yes4, yw⟩ q, fun _ => by rw [Int.toNat_natCast, if_neg (by omega), if_pos (by unfold suY; omega)]⟩⟩, fun x hx => (o7 x (by omega)).trans (ho x hx)⟩
                | exact ⟨rfl, _, rfl, ⟨fun q => absurd ⟨⟨by omega, by omega⟩, yes2.2.2⟩ q, fun _ => ⟨fun q => absurd ⟨yes5, yes4, yw⟩ q, fun _ => by rw [Int.toNat_natCast, if_neg (by omega), if_neg (by unfold suY; omega)]⟩⟩, fun x hx => (o7 x (by omega)).trans (ho x hx)⟩
              · refine z_iconst dX11_far_142 (by decide) ?_
                refine z_goto 147 dX11_far_143 (by decide) ?_
                refine z_iret dX11_far_147 rfl ?_
                first
                | exact ⟨rfl, _, rfl, ⟨fun q => absurd ⟨⟨by omega, by omega⟩, yes2.2.2⟩ q, fun _ => ⟨fun q => absurd ⟨yes5, yes4, yw⟩ q, fun _ => by rw [Int.toNat_natCast, if_neg (by omega), if_pos (by unfold suY; omega)]⟩⟩, fun x hx => (o7 x (by omega)).trans (ho x hx)⟩
                | exact ⟨rfl, _, rfl, ⟨fun q => absurd ⟨⟨by omega, by omega⟩, yes2.2.2⟩ q, fun _ => ⟨fun q => absurd ⟨yes5, yes4, yw⟩ q, fun _ => by rw [Int.toNat_natCast, if_neg (by omega), if_neg (by unfold suY; omega)]⟩⟩, fun x hx => (o7 x (by omega)).trans (ho x hx)⟩
            · refine z_iconst dX11_far_106 (by decide) ?_
              refine z_iret dX11_far_107 rfl ?_
              exact ⟨rfl, _, rfl, ⟨fun q => absurd ⟨⟨by omega, by omega⟩, yes2.2.2⟩ q, fun _ => ⟨fun q => absurd ⟨yes5, yes4, yw⟩ q, fun _ => by rw [if_pos (show (gatL fd (fd 0 ((n : Nat) : Int).toNat) ((n : Nat) : Int) nf).length = 0 by rw [Int.toNat_natCast]; omega)]⟩⟩, ho⟩
          · have nw := hz5.no h90
            refine z_bipush dX11_far_93 (by decide) ?_
            refine z_iret dX11_far_95 rfl ?_
            exact ⟨rfl, _, rfl, ⟨fun q => absurd ⟨⟨by omega, by omega⟩, yes2.2.2⟩ q, fun _ => ⟨fun _ => rfl, fun q => absurd q.2.2 nw⟩⟩, ho⟩
        · have no4 := hz4.no h75
          refine z_bipush dX11_far_78 (by decide) ?_
          refine z_iret dX11_far_80 rfl ?_
          first
          | exact ⟨rfl, _, rfl, ⟨fun q => absurd ⟨⟨by omega, by omega⟩, yes2.2.2⟩ q, fun _ => ⟨fun _ => rfl, fun q => absurd q.1 no5⟩⟩, fun x hx => o3 x (by omega) (by omega)⟩
          | exact ⟨rfl, _, rfl, ⟨fun q => absurd ⟨⟨by omega, by omega⟩, yes2.2.2⟩ q, fun _ => ⟨fun _ => rfl, fun q => absurd q.2.1 no4⟩⟩, fun x hx => o3 x (by omega) (by omega)⟩
    · have no2 := hz2.no h23
      refine z_bipush dX11_far_26 (by decide) ?_
      refine z_iret dX11_far_28 rfl ?_
      first
      | exact ⟨rfl, _, rfl, ⟨fun _ => rfl, fun q => absurd ⟨q.1.1, by omega⟩ no1⟩, fun _ _ => rfl⟩
      | exact ⟨rfl, _, rfl, ⟨fun _ => rfl, fun q => absurd ⟨by decide, by decide, q.2⟩ no2⟩, fun _ _ => rfl⟩
/-- held: one maker's book -/
abbrev hdI (nf : Nat) (fd bk : Nat → Nat → Int) (mo a b : Nat) (i : Nat) : Prop := (loN (gatL fd (i : Int) (-1) nf) (bk 1 i) (bk 2 i) : Int) ≤ bk 0 i ∧ bk 0 i ≤ (suY (gatL fd (i : Int) (-1) nf) (bk 1 i) (bk 2 i) mo a b : Int)
noncomputable def hdV (nf : Nat) (fd bk : Nat → Nat → Int) (mo a b : Nat) (wh : Int) (i : Nat) : Int := @ite Int (¬ bk 0 i = -1 ∧ wgP (gatL fd (i : Int) (-1) nf) (bk 1 i) (bk 2 i) mo) (Classical.propDecidable _) (if hdI nf fd bk mo a b i ↔ wh = 0 then 1 else 0) 0
noncomputable def hdA (nf : Nat) (fd bk : Nat → Nat → Int) (mo a b : Nat) (wh : Int) : Nat → Int
  | 0 => 0
  | i + 1 => hdA nf fd bk mo a b wh i + hdV nf fd bk mo a b wh i
theorem hdV_bd (nf : Nat) (fd bk : Nat → Nat → Int) (mo a b : Nat) (wh : Int) (i : Nat) : 0 ≤ hdV nf fd bk mo a b wh i ∧ hdV nf fd bk mo a b wh i ≤ 1 := by
  unfold hdV
  split
  · split <;> omega
  · omega
theorem hdA_bd (nf : Nat) (fd bk : Nat → Nat → Int) (mo a b : Nat) (wh : Int) : ∀ i : Nat, 0 ≤ hdA nf fd bk mo a b wh i ∧ hdA nf fd bk mo a b wh i ≤ (i : Int)
  | 0 => ⟨Int.le_refl _, Int.le_refl _⟩
  | i + 1 => by
    have h1 := hdA_bd nf fd bk mo a b wh i
    have h2 := hdV_bd nf fd bk mo a b wh i
    show 0 ≤ hdA nf fd bk mo a b wh i + hdV nf fd bk mo a b wh i ∧ hdA nf fd bk mo a b wh i + hdV nf fd bk mo a b wh i ≤ _
    omega
end SureC
