/-! ===== ready, odds, atLeast, span, told, far, held: the reference ===== -/
section SureM
variable {X : Nat × (Int → Int)} {mem : Mem} {nf mo : Nat} {fd bk : Nat → Nat → Int}
/-- what readying leaves as it is -/
def onWr (mem m : Mem) : Prop := (∀ x, x < 88 ∨ (90 < x ∧ x ≠ 92 ∧ x ≠ 93 ∧ x ≠ 94) → m x = mem x) ∧ (∀ j : Int, j ≠ 6 → j ≠ 9 → j ≠ 10 → j ≠ 11 → m 88 j = mem 88 j)
theorem onWr.rf : onWr mem mem := ⟨fun _ _ => rfl, fun _ _ _ _ _ => rfl⟩
theorem onWr.tr {m1 m2 : Mem} (h : onWr mem m1) (h2 : onWr m1 m2) : onWr mem m2 := ⟨fun x hx => (h2.1 x hx).trans (h.1 x hx), fun j a b c d => (h2.2 j a b c d).trans (h.2 j a b c d)⟩
theorem onNm.wr {m : Mem} (h : onNm mem m) : onWr mem m := ⟨fun x hx => h.1 x (by omega) (by omega), fun j a _ _ _ => h.2 j a⟩
theorem onWg.wr {m : Mem} (h : onWg mem m) : onWr mem m := ⟨fun x hx => h.1 x (by omega), fun j _ a b c => h.2.1 j a b c⟩
theorem on89.wr {m : Mem} (h : on89 mem m) : onWr mem m := ⟨fun x hx => h x (by omega) (by omega), fun j _ _ _ _ => by rw [h 88 (by decide) (by decide)]⟩
def keepF (mem m : Mem) : Prop := ∀ r v : Nat, r < 2 → regAt mem r v → regAt m r v
theorem onNm.kf {m : Mem} (h : onNm mem m) : keepF mem m := fun r v _ hv => hv.kp (h.1 89 (by decide) (by decide)) (h.1 90 (by decide) (by decide))
theorem keepF.tr {m1 m2 : Mem} (h : keepF mem m1) (h2 : keepF m1 m2) : keepF mem m2 := fun r v hr hv => h2 r v hr (h r v hr hv)
theorem cm_X12_ready {mk f s ok : Int} {P : Prop} (hok : bT ok P) (hf : finM mem nf fd) (hfr : finR nf fd) (hm : mem 88 4 = (mo : Int)) (hm1 : 1 ≤ mo) (hm2 : mo ≤ 150) : CM X (0, 0) 3 mX12_ready G0 [vr 88, vi mk, vi f, vi s, vi ok] mem (pI G0 fun z m => (¬ (schOk mk f s ∧ P) → z = -2) ∧ (schOk mk f s ∧ P → ¬ wgP (gatL fd mk (-1) nf) f s mo → z = -3) ∧ (schOk mk f s ∧ P → wgP (gatL fd mk (-1) nf) f s mo → z = 1) ∧ (z = 1 → ((schOk mk f s ∧ P) ∧ wgP (gatL fd mk (-1) nf) f s mo) ∧ rwAt m (gatL fd mk (-1) nf).length (loN (gatL fd mk (-1) nf) f s) mo ∧ numsAt m (gatL fd mk (-1) nf)) ∧ onWr mem m ∧ keepF mem m) := by
  have hr := gatL_rng (mk := mk) (wo := -1) hfr
  have hsr := gatL_srt fd mk (-1) nf
  have hlen := gatL_len fd mk (-1) nf
  have hn60 := hf.1
  generalize hL : gatL fd mk (-1) nf = L at *
  refine CM.of (by decide +kernel) 0 (Nat.le_of_ble_eq_true rfl) ?_
  show ZZ X (0, 0) 3 mX12_ready G0 0 [vr 88, vi mk, vi f, vi s, vi ok] [] mem _
  refine z_iload_n dX12_ready_0 rfl ?_
  refine z_S1i dX12_ready_1 ok_X12_isMaker lk_X12_103 (Nat.le_of_ble_eq_true rfl) (by decide) (cm_X12_isMaker) (fun z1 m1 hq1 => ?_)
  obtain ⟨hz1, rfl⟩ := hq1
  refine z_if_eq 20 dX12_ready_4 (by decide) (fun h4 => ?_) (fun h4 => ?_)
  · have no1 := hz1.no h4
    refine z_bipush dX12_ready_20 (by decide) ?_
    refine z_iret dX12_ready_22 rfl ?_
    first
    | exact ⟨rfl, _, rfl, fun _ => rfl, fun q => absurd ⟨q.1.1, q.1.2.1⟩ no1, fun q => absurd ⟨q.1.1, q.1.2.1⟩ no1, fun q => absurd q (by decide), onWr.rf, fun _ _ _ h => h⟩
    | exact ⟨rfl, _, rfl, fun _ => rfl, fun q => absurd q.1.2.2 no2, fun q => absurd q.1.2.2 no2, fun q => absurd q (by decide), onWr.rf, fun _ _ _ h => h⟩
    | exact ⟨rfl, _, rfl, fun _ => rfl, fun q => absurd q.2 noP, fun q => absurd q.2 noP, fun q => absurd q (by decide), onWr.rf, fun _ _ _ h => h⟩
  · have yes1 := hz1.yes h4
    refine z_iload_n dX12_ready_7 rfl ?_
    refine z_iload_n dX12_ready_8 rfl ?_
    refine z_S2i dX12_ready_9 ok_X12_isScheme lk_X12_145 (Nat.le_of_ble_eq_true rfl) (by decide) (cm_X12_isScheme) (fun z2 m2 hq2 => ?_)
    obtain ⟨hz2, rfl⟩ := hq2
    refine z_if_eq 20 dX12_ready_12 (by decide) (fun h12 => ?_) (fun h12 => ?_)
    · have no2 := hz2.no h12
      refine z_bipush dX12_ready_20 (by decide) ?_
      refine z_iret dX12_ready_22 rfl ?_
      first
      | exact ⟨rfl, _, rfl, fun _ => rfl, fun q => absurd ⟨q.1.1, q.1.2.1⟩ no1, fun q => absurd ⟨q.1.1, q.1.2.1⟩ no1, fun q => absurd q (by decide), onWr.rf, fun _ _ _ h => h⟩
      | exact ⟨rfl, _, rfl, fun _ => rfl, fun q => absurd q.1.2.2 no2, fun q => absurd q.1.2.2 no2, fun q => absurd q (by decide), onWr.rf, fun _ _ _ h => h⟩
      | exact ⟨rfl, _, rfl, fun _ => rfl, fun q => absurd q.2 noP, fun q => absurd q.2 noP, fun q => absurd q (by decide), onWr.rf, fun _ _ _ h => h⟩
    · have yes2 := hz2.yes h12
      refine z_iload dX12_ready_15 rfl ?_
      refine z_if_ne 23 dX12_ready_17 (by decide) (fun h17 => ?_) (fun h17 => ?_)
      · have yesP := hok.yes h17
        refine z_aload_n dX12_ready_23 rfl ?_
        refine z_iload_n dX12_ready_24 rfl ?_
        refine z_iconst dX12_ready_25 (by decide) ?_
        refine z_V2v dX12_ready_26 ok_X12_finds0 lk_X12_132 (by first | rfl | assumption) rfl rfl (Nat.le_of_ble_eq_true rfl) (by decide) (cm_X12_finds0 (mk := mk) (wo := -1) hf) (fun m3 hq3 => ?_)
        obtain ⟨nu3, o3⟩ := hq3
        rw [hL] at nu3
        have hm3 : m3 88 4 = (mo : Int) := by rw [o3.2 4 (by decide)]; exact hm
        refine z_aload_n dX12_ready_29 rfl ?_
        refine z_iload_n dX12_ready_30 rfl ?_
        refine z_iload_n dX12_ready_31 rfl ?_
        refine z_V2i dX12_ready_32 ok_X12_mayBe lk_X12_172 (by first | rfl | assumption) rfl rfl (Nat.le_of_ble_eq_true rfl) (by decide) (cm_X12_mayBe nu3 hm3 hr (by omega) (by omega) (by omega) (by omega) (by omega)) (fun z4 m4 hq4 => ?_)
        obtain ⟨hz4, rfl⟩ := hq4
        refine z_if_ne 41 dX12_ready_35 (by decide) (fun h35 => ?_) (fun h35 => ?_)
        · have yw : wgP L f s mo := hz4.yes h35
          obtain ⟨e1, e2, e3, e4⟩ := lo_ok hr hsr (by omega) (by omega) yw hm1
          refine z_aload_n dX12_ready_41 rfl ?_
          refine z_iload_n dX12_ready_42 rfl ?_
          refine z_iload_n dX12_ready_43 rfl ?_
          refine z_V2v dX12_ready_44 ok_X12_weighs lk_X12_175 (by first | rfl | assumption) rfl rfl (Nat.le_of_ble_eq_true rfl) (by decide) (cm_X12_weighs (lo := loN L f s) nu3 hm3 hr yw.1 (by omega) (by omega) (by omega) e1 e2 e4 hm2) (fun m5 hq5 => ?_)
          obtain ⟨rw5, o5⟩ := hq5
          refine z_iconst dX12_ready_47 (by decide) ?_
          refine z_iret dX12_ready_48 rfl ?_
          refine ⟨rfl, _, rfl, fun q => absurd ⟨⟨yes1.1, yes1.2, yes2⟩, yesP⟩ q, fun _ q => absurd yw q, fun _ _ => rfl, fun _ => ⟨⟨⟨⟨yes1.1, yes1.2, yes2⟩, yesP⟩, yw⟩, rw5, ?_, nu3.2.1, ?_⟩, o3.wr.tr o5.wr, o3.kf.tr o5.2.2⟩
          · rw [o5.2.1 6 (by decide) (by decide) (by decide)]; exact nu3.1
          · rw [o5.1 92 (by omega)]; exact nu3.2.2
        · have nw : ¬ wgP L f s mo := hz4.no h35
          refine z_bipush dX12_ready_38 (by decide) ?_
          refine z_iret dX12_ready_40 rfl ?_
          exact ⟨rfl, _, rfl, fun q => absurd ⟨⟨yes1.1, yes1.2, yes2⟩, yesP⟩ q, fun _ _ => rfl, fun _ q => absurd q nw, fun q => absurd q (by decide), o3.wr, o3.kf⟩
      · have noP := hok.no h17
        refine z_bipush dX12_ready_20 (by decide) ?_
        refine z_iret dX12_ready_22 rfl ?_
        first
        | exact ⟨rfl, _, rfl, fun _ => rfl, fun q => absurd ⟨q.1.1, q.1.2.1⟩ no1, fun q => absurd ⟨q.1.1, q.1.2.1⟩ no1, fun q => absurd q (by decide), onWr.rf, fun _ _ _ h => h⟩
        | exact ⟨rfl, _, rfl, fun _ => rfl, fun q => absurd q.1.2.2 no2, fun q => absurd q.1.2.2 no2, fun q => absurd q (by decide), onWr.rf, fun _ _ _ h => h⟩
        | exact ⟨rfl, _, rfl, fun _ => rfl, fun q => absurd q.2 noP, fun q => absurd q.2 noP, fun q => absurd q (by decide), onWr.rf, fun _ _ _ h => h⟩
section W
variable {k lo : Nat}
theorem odd_w (hk : k ≤ 60) (hkl : k ≤ lo) (hlm : lo ≤ mo) (hm : mo ≤ 150) {n : Nat} (hn : n ≤ mo) : rWt k lo mo n * wS k (lo - k) = wPart k lo (n : Int) (n : Int) (mo + 1 - lo) * rS k lo mo 0 := by
  rw [wPart_one]
  unfold rWt
  by_cases q : n < lo
  · rw [if_pos q, if_neg (by omega), Nat.zero_mul, Nat.zero_mul]
  · rw [if_neg q, if_pos (by omega)]
    have h := r_w hk hkl hm (c := n - lo) (lo := lo) (mo := mo) (by omega)
    rw [show lo + (n - lo) - k = n - k by omega] at h
    exact h
theorem odd_w0 {n : Nat} (hlm : lo ≤ mo) (hn : mo < n) : wPart k lo (n : Int) (n : Int) (mo + 1 - lo) = 0 := by
  rw [wPart_one, if_neg (by omega)]
theorem atl_w (hk : k ≤ 60) (hkl : k ≤ lo) (hlm : lo ≤ mo) (hm : mo ≤ 150) {x : Nat} : (rSum k lo mo (mo + 1 - lo) - rSum k lo mo (min (mo + 1 - lo) (x - lo))) * wS k (lo - k) = wPart k lo (x : Int) 200 (mo + 1 - lo) * rS k lo mo 0 := by
  have h1 := wPart_from (k := k) (lo := lo) (n := x) (mo + 1 - lo) (by omega)
  have h2 := rSum_w hk hkl hm (c := mo + 1 - lo) (lo := lo) (mo := mo) (by omega)
  have h3 := rSum_w hk hkl hm (c := min (mo + 1 - lo) (x - lo)) (lo := lo) (mo := mo) (by omega)
  rw [Nat.sub_mul, h2, h3, ← Nat.sub_mul, ← h1, Nat.add_sub_cancel]
end W
def shPostM (L : List Int) (f s : Int) (mo : Nat) (x y : Int) (ok : Prop) (mem : Mem) (z : Int) (m : Mem) : Prop := (¬ ok → z = -2 ∧ keepF mem m) ∧ (ok → ¬ wgP L f s mo → z = -3 ∧ keepF mem m) ∧ (ok → wgP L f s mo → z = 1 ∧ regAt m 0 (suN L f s mo x y / Nat.gcd (suN L f s mo x y) (suD L f s mo)) ∧ regAt m 1 (suD L f s mo / Nat.gcd (suN L f s mo x y) (suD L f s mo))) ∧ onWr mem m
theorem cm_X12_odds {mk f s n : Int} (hf : finM mem nf fd) (hfr : finR nf fd) (hm : mem 88 4 = (mo : Int)) (hm1 : 1 ≤ mo) (hm2 : mo ≤ 150) : CM X (0, 0) 4 mX12_odds G0 [vr 88, vi mk, vi f, vi s, vi n] mem (pI G0 fun z m => shPostM (gatL fd mk (-1) nf) f s mo n n (schOk mk f s ∧ 0 ≤ n ∧ n ≤ 200) mem z m) := by
  have hr := gatL_rng (mk := mk) (wo := -1) hfr
  have hsr := gatL_srt fd mk (-1) nf
  have hlen := gatL_len fd mk (-1) nf
  have hn60 := hf.1
  have hrd := fun (ok : Int) (P : Prop) (q : bT ok P) => cm_X12_ready (X := X) (mk := mk) (f := f) (s := s) q hf hfr hm hm1 hm2
  generalize hL : gatL fd mk (-1) nf = L at *
  refine CM.of (by decide +kernel) 1 (Nat.le_of_ble_eq_true rfl) ?_
  show ZZ X (0, 0) 4 mX12_odds G0 0 [vr 88, vi mk, vi f, vi s, vi n, vd] [] mem _
  refine z_aload_n dX12_odds_0 rfl ?_
  refine z_iload_n dX12_odds_1 rfl ?_
  refine z_iload_n dX12_odds_2 rfl ?_
  refine z_iload_n dX12_odds_3 rfl ?_
  refine z_iload dX12_odds_4 rfl ?_
  refine z_i2l dX12_odds_6 ?_
  refine z_lconst (z := 0) dX12_odds_7 rfl (by decide) ?_
  refine z_ldc2 (z := 200) dX12_odds_8 kc_X12_178 (by decide) ?_
  refine z_S3i dX12_odds_11 ok_X12_in lk_X12_97 (Nat.le_of_ble_eq_true rfl) (by decide) (cm_X12_in) (fun z1 m1 hq1 => ?_)
  obtain ⟨hz1, rfl⟩ := hq1
  refine z_V4i dX12_odds_14 ok_X12_ready lk_X12_180 (by first | rfl | assumption) rfl rfl (Nat.le_of_ble_eq_true rfl) (by decide) (hrd z1 _ hz1) (fun z2 m2 hq2 => ?_)
  obtain ⟨p1, p2, p3, p4, o2, k2⟩ := hq2
  refine z_istore dX12_odds_17 (by decide) rfl ?_
  dsimp only [List.set]
  refine z_iload dX12_odds_19 rfl ?_
  refine z_iconst dX12_odds_21 (by decide) ?_
  refine z_icmp_ne 71 dX12_odds_22 (by decide) (fun h22 => ?_) (fun h22 => ?_)
  · refine z_iload dX12_odds_71 rfl ?_
    refine z_iret dX12_odds_73 rfl ?_
    first
    | exact ⟨rfl, _, rfl, fun q => absurd ⟨hsch, hn⟩ q, fun _ q => absurd yw q, fun _ _ => ⟨by omega, r5, r6⟩, o2.tr (o3.to.wr.tr (o4.to.wr.tr o5.wr))⟩
    | exact ⟨rfl, _, rfl, fun q => ⟨p1 q, k2⟩, fun q1 q2 => ⟨p2 q1 q2, k2⟩, fun q1 q2 => absurd (p3 q1 q2) h22, o2⟩
  · obtain ⟨⟨⟨hsch, hn⟩, yw⟩, ⟨h9, hkp⟩, nu⟩ := p4 (by omega)
    obtain ⟨e1, e2, e3, e4⟩ := lo_ok hr hsr (by omega) (by omega) yw hm1
    obtain ⟨n', rfl⟩ : ∃ n' : Nat, n = (n' : Int) := ⟨n.toNat, by omega⟩
    have hmo2 : m2 88 4 = (mo : Int) := by rw [o2.2 4 (by decide) (by decide) (by decide) (by decide)]; exact hm
    have hTp : 0 < rSum L.length (loN L f s) mo (mo + 1 - loN L f s) := by
      have h1 := rSum_w (k := L.length) (by omega) e2 hm2 (c := mo + 1 - loN L f s) (lo := loN L f s) (mo := mo) (by omega)
      have h2 : 0 < wSum L.length (loN L f s) (mo + 1 - loN L f s) * rS L.length (loN L f s) mo 0 := Nat.mul_pos (wSum_pos (by omega) (by omega) e2 (by omega)) rS0_pos
      rw [← h1] at h2
      exact Nat.pos_of_mul_pos_right h2
    have hww := wS_pos (k := L.length) (by omega) (d := loN L f s - L.length) (by omega)
    have hrw := rS0_pos (k := L.length) (lo := loN L f s) (mo := mo)
    have hT := rSum_w (k := L.length) (by omega) e2 hm2 (c := mo + 1 - loN L f s) (lo := loN L f s) (mo := mo) (by omega)
    refine z_aload_n dX12_odds_25 rfl ?_
    refine z_iconst dX12_odds_26 (by decide) ?_
    refine z_aload_n dX12_odds_27 rfl ?_
    refine z_getR (ty := .int) dX12_odds_28 fl_X12_25 (by first | rfl | assumption) rfl rfl ?_
    refine z_aload_n dX12_odds_31 rfl ?_
    refine z_gI 4 dX12_odds_32 fl_X12_59 (by first | rfl | assumption) rfl rfl ?_
    rw [hmo2]
    refine z_V3v dX12_odds_35 ok_X12_gets lk_X12_184 (by first | rfl | assumption) rfl rfl (Nat.le_of_ble_eq_true rfl) (by decide) (cm_X12_gets (r := 1) g0_94 (by decide) (by decide) (by omega : mo < 152) (by decide) (hkp mo (Nat.le_refl _)).2) (fun m3 hq3 => ?_)
    obtain ⟨r3, o3⟩ := hq3
    have hmo3 : m3 88 4 = (mo : Int) := by rw [o3.1 88 (by decide) (by decide)]; exact hmo2
    refine z_iload dX12_odds_38 rfl ?_
    refine z_aload_n dX12_odds_40 rfl ?_
    refine z_gI 4 dX12_odds_41 fl_X12_59 (by first | rfl | assumption) rfl rfl ?_
    rw [hmo3]
    refine z_icmp_le 56 dX12_odds_44 (by decide) (fun h44 => ?_) (fun h44 => ?_)
    · have hA := odd_w (k := L.length) (by omega) e2 e4 hm2 (n := n') (by omega)
      refine z_aload_n dX12_odds_56 rfl ?_
      refine z_iconst dX12_odds_57 (by decide) ?_
      refine z_aload_n dX12_odds_58 rfl ?_
      refine z_getR (ty := .int) dX12_odds_59 fl_X12_22 (by first | rfl | assumption) rfl rfl ?_
      refine z_iload dX12_odds_62 rfl ?_
      refine z_V3v dX12_odds_64 ok_X12_gets lk_X12_184 (by first | rfl | assumption) rfl rfl (Nat.le_of_ble_eq_true rfl) (by decide) (cm_X12_gets (r := 0) g0_93 (by decide) (by decide) (by omega : n' < 152) (by decide) ((hkp n' (by omega)).1.row (o3.1 93 (by decide) (by decide)))) (fun m4 hq4 => ?_)
      obtain ⟨r4, o4⟩ := hq4
      refine z_aload_n dX12_odds_67 rfl ?_
      refine z_V0v dX12_odds_68 ok_X12_lowers lk_X12_94 (by first | rfl | assumption) rfl rfl (Nat.le_of_ble_eq_true rfl) (by decide) (cm_X12_lowers r4 (r3.off o4 (by decide)) hTp) (fun m5 hq5 => ?_)
      obtain ⟨r5, r6, o5⟩ := hq5
      rw [low_alike hww hrw hA hT] at r5
      rw [low_alike2 hww hrw hA hT] at r6
      refine z_iload dX12_odds_71 rfl ?_
      refine z_iret dX12_odds_73 rfl ?_
      first
      | exact ⟨rfl, _, rfl, fun q => absurd ⟨hsch, hn⟩ q, fun _ q => absurd yw q, fun _ _ => ⟨by omega, r5, r6⟩, o2.tr (o3.to.wr.tr (o4.to.wr.tr o5.wr))⟩
      | exact ⟨rfl, _, rfl, fun q => ⟨p1 q, k2⟩, fun q1 q2 => ⟨p2 q1 q2, k2⟩, fun q1 q2 => absurd (p3 q1 q2) h22, o2⟩
    · have hA : 0 * wS L.length (loN L f s - L.length) = wPart L.length (loN L f s) (n' : Int) (n' : Int) (mo + 1 - loN L f s) * rS L.length (loN L f s) mo 0 := by rw [odd_w0 e4 (by omega), Nat.zero_mul, Nat.zero_mul]
      refine z_aload_n dX12_odds_47 rfl ?_
      refine z_iconst dX12_odds_48 (by decide) ?_
      refine z_lconst (z := 0) dX12_odds_49 rfl (by decide) ?_
      refine z_V2v dX12_odds_50 ok_X12_sets lk_X12_63 (by first | rfl | assumption) rfl rfl (Nat.le_of_ble_eq_true rfl) (by decide) (cm_X12_sets (r := 0) (v := 0) (by decide) (by decide)) (fun m4 hq4 => ?_)
      obtain ⟨r4, o4⟩ := hq4
      refine z_goto 67 dX12_odds_53 (by decide) ?_
      refine z_aload_n dX12_odds_67 rfl ?_
      refine z_V0v dX12_odds_68 ok_X12_lowers lk_X12_94 (by first | rfl | assumption) rfl rfl (Nat.le_of_ble_eq_true rfl) (by decide) (cm_X12_lowers r4 (r3.off o4 (by decide)) hTp) (fun m5 hq5 => ?_)
      obtain ⟨r5, r6, o5⟩ := hq5
      rw [low_alike hww hrw hA hT] at r5
      rw [low_alike2 hww hrw hA hT] at r6
      refine z_iload dX12_odds_71 rfl ?_
      refine z_iret dX12_odds_73 rfl ?_
      first
      | exact ⟨rfl, _, rfl, fun q => absurd ⟨hsch, hn⟩ q, fun _ q => absurd yw q, fun _ _ => ⟨by omega, r5, r6⟩, o2.tr (o3.to.wr.tr (o4.to.wr.tr o5.wr))⟩
      | exact ⟨rfl, _, rfl, fun q => ⟨p1 q, k2⟩, fun q1 q2 => ⟨p2 q1 q2, k2⟩, fun q1 q2 => absurd (p3 q1 q2) h22, o2⟩
theorem cm_X12_atLeast {mk f s n : Int} (hf : finM mem nf fd) (hfr : finR nf fd) (hm : mem 88 4 = (mo : Int)) (hm1 : 1 ≤ mo) (hm2 : mo ≤ 150) : CM X (0, 0) 4 mX12_atLeast G0 [vr 88, vi mk, vi f, vi s, vi n] mem (pI G0 fun z m => shPostM (gatL fd mk (-1) nf) f s mo n 200 (schOk mk f s ∧ 0 ≤ n ∧ n ≤ 200) mem z m) := by
  have hr := gatL_rng (mk := mk) (wo := -1) hfr
  have hsr := gatL_srt fd mk (-1) nf
  have hlen := gatL_len fd mk (-1) nf
  have hn60 := hf.1
  have hrd := fun (ok : Int) (P : Prop) (q : bT ok P) => cm_X12_ready (X := X) (mk := mk) (f := f) (s := s) q hf hfr hm hm1 hm2
  generalize hL : gatL fd mk (-1) nf = L at *
  refine CM.of (by decide +kernel) 1 (Nat.le_of_ble_eq_true rfl) ?_
  show ZZ X (0, 0) 4 mX12_atLeast G0 0 [vr 88, vi mk, vi f, vi s, vi n, vd] [] mem _
  refine z_aload_n dX12_atLeast_0 rfl ?_
  refine z_iload_n dX12_atLeast_1 rfl ?_
  refine z_iload_n dX12_atLeast_2 rfl ?_
  refine z_iload_n dX12_atLeast_3 rfl ?_
  refine z_iload dX12_atLeast_4 rfl ?_
  refine z_i2l dX12_atLeast_6 ?_
  refine z_lconst (z := 0) dX12_atLeast_7 rfl (by decide) ?_
  refine z_ldc2 (z := 200) dX12_atLeast_8 kc_X12_178 (by decide) ?_
  refine z_S3i dX12_atLeast_11 ok_X12_in lk_X12_97 (Nat.le_of_ble_eq_true rfl) (by decide) (cm_X12_in) (fun z1 m1 hq1 => ?_)
  obtain ⟨hz1, rfl⟩ := hq1
  refine z_V4i dX12_atLeast_14 ok_X12_ready lk_X12_180 (by first | rfl | assumption) rfl rfl (Nat.le_of_ble_eq_true rfl) (by decide) (hrd z1 _ hz1) (fun z2 m2 hq2 => ?_)
  obtain ⟨p1, p2, p3, p4, o2, k2⟩ := hq2
  refine z_istore dX12_atLeast_17 (by decide) rfl ?_
  dsimp only [List.set]
  refine z_iload dX12_atLeast_19 rfl ?_
  refine z_iconst dX12_atLeast_21 (by decide) ?_
  refine z_icmp_ne 95 dX12_atLeast_22 (by decide) (fun h22 => ?_) (fun h22 => ?_)
  · refine z_iload dX12_atLeast_95 rfl ?_
    refine z_iret dX12_atLeast_97 rfl ?_
    first
    | exact ⟨rfl, _, rfl, fun q => absurd ⟨hsch, hn⟩ q, fun _ q => absurd yw q, fun _ _ => ⟨by omega, r5, r6⟩, oo.tr o5.wr⟩
    | exact ⟨rfl, _, rfl, fun q => ⟨p1 q, k2⟩, fun q1 q2 => ⟨p2 q1 q2, k2⟩, fun q1 q2 => absurd (p3 q1 q2) h22, o2⟩
  · obtain ⟨⟨⟨hsch, hn⟩, yw⟩, ⟨h9, hkp⟩, nu⟩ := p4 (by omega)
    obtain ⟨e1, e2, e3, e4⟩ := lo_ok hr hsr (by omega) (by omega) yw hm1
    obtain ⟨n', rfl⟩ : ∃ n' : Nat, n = (n' : Int) := ⟨n.toNat, by omega⟩
    have hmo2 : m2 88 4 = (mo : Int) := by rw [o2.2 4 (by decide) (by decide) (by decide) (by decide)]; exact hm
    have hTp : 0 < rSum L.length (loN L f s) mo (mo + 1 - loN L f s) := by
      have h1 := rSum_w (k := L.length) (by omega) e2 hm2 (c := mo + 1 - loN L f s) (lo := loN L f s) (mo := mo) (by omega)
      have h2 : 0 < wSum L.length (loN L f s) (mo + 1 - loN L f s) * rS L.length (loN L f s) mo 0 := Nat.mul_pos (wSum_pos (by omega) (by omega) e2 (by omega)) rS0_pos
      rw [← h1] at h2
      exact Nat.pos_of_mul_pos_right h2
    have hww := wS_pos (k := L.length) (by omega) (d := loN L f s - L.length) (by omega)
    have hrw := rS0_pos (k := L.length) (lo := loN L f s) (mo := mo)
    have hT := rSum_w (k := L.length) (by omega) e2 hm2 (c := mo + 1 - loN L f s) (lo := loN L f s) (mo := mo) (by omega)
    have hA := atl_w (k := L.length) (lo := loN L f s) (by omega) e2 e4 hm2 (x := n')
    obtain ⟨N2, hN2⟩ : ∃ N2 : Nat, N2 = if mo < n' then mo else n' - 1 := ⟨_, rfl⟩
    have hN3 : N2 ≤ mo := by split at hN2 <;> omega
    refine z_aload_n dX12_atLeast_25 rfl ?_
    refine z_iconst dX12_atLeast_26 (by decide) ?_
    refine z_aload_n dX12_atLeast_27 rfl ?_
    refine z_getR (ty := .int) dX12_atLeast_28 fl_X12_25 (by first | rfl | assumption) rfl rfl ?_
    refine z_aload_n dX12_atLeast_31 rfl ?_
    refine z_gI 4 dX12_atLeast_32 fl_X12_59 (by first | rfl | assumption) rfl rfl ?_
    rw [hmo2]
    refine z_V3v dX12_atLeast_35 ok_X12_gets lk_X12_184 (by first | rfl | assumption) rfl rfl (Nat.le_of_ble_eq_true rfl) (by decide) (cm_X12_gets (r := 1) g0_94 (by decide) (by decide) (by omega : mo < 152) (by decide) (hkp mo (Nat.le_refl _)).2) (fun m3 hq3 => ?_)
    obtain ⟨r3, o3⟩ := hq3
    have hmo3 : m3 88 4 = (mo : Int) := by rw [o3.1 88 (by decide) (by decide)]; exact hmo2
    refine z_aload_n dX12_atLeast_38 rfl ?_
    refine z_iconst dX12_atLeast_39 (by decide) ?_
    refine z_aload_n dX12_atLeast_40 rfl ?_
    refine z_getR (ty := .int) dX12_atLeast_41 fl_X12_25 (by first | rfl | assumption) rfl rfl ?_
    refine z_aload_n dX12_atLeast_44 rfl ?_
    refine z_gI 4 dX12_atLeast_45 fl_X12_59 (by first | rfl | assumption) rfl rfl ?_
    rw [hmo3]
    refine z_V3v dX12_atLeast_48 ok_X12_gets lk_X12_184 (by first | rfl | assumption) rfl rfl (Nat.le_of_ble_eq_true rfl) (by decide) (cm_X12_gets (r := 0) g0_94 (by decide) (by decide) (by omega : mo < 152) (by decide) ((hkp mo (Nat.le_refl _)).2.row (o3.1 94 (by decide) (by decide)))) (fun m4 hq4 => ?_)
    obtain ⟨r4, o4⟩ := hq4
    have r3' := r3.off o4 (by decide)
    have hmo4 : m4 88 4 = (mo : Int) := by rw [o4.1 88 (by decide) (by decide)]; exact hmo3
    have e94 : m4 94 = m2 94 := (o4.1 94 (by decide) (by decide)).trans (o3.1 94 (by decide) (by decide))
    have ow4 := o2.tr (o3.to.wr.tr o4.to.wr)
    refine z_iload dX12_atLeast_51 rfl ?_
    refine z_if_le 91 dX12_atLeast_53 (by decide) (fun h53 => ?_) (fun h53 => ?_)
    · rw [show n' - loN L f s = 0 by omega, Nat.min_zero, show rSum L.length (loN L f s) mo 0 = 0 from rfl, Nat.sub_zero] at hA
      have r0 := r4
      have rB := r3'
      have oo := ow4
      refine z_aload_n dX12_atLeast_91 rfl ?_
      refine z_V0v dX12_atLeast_92 ok_X12_lowers lk_X12_94 (by first | rfl | assumption) rfl rfl (Nat.le_of_ble_eq_true rfl) (by decide) (cm_X12_lowers r0 rB hTp) (fun m5 hq5 => ?_)
      obtain ⟨r5, r6, o5⟩ := hq5
      rw [low_alike hww hrw hA hT] at r5
      rw [low_alike2 hww hrw hA hT] at r6
      refine z_iload dX12_atLeast_95 rfl ?_
      refine z_iret dX12_atLeast_97 rfl ?_
      first
      | exact ⟨rfl, _, rfl, fun q => absurd ⟨hsch, hn⟩ q, fun _ q => absurd yw q, fun _ _ => ⟨by omega, r5, r6⟩, oo.tr o5.wr⟩
      | exact ⟨rfl, _, rfl, fun q => ⟨p1 q, k2⟩, fun q1 q2 => ⟨p2 q1 q2, k2⟩, fun q1 q2 => absurd (p3 q1 q2) h22, o2⟩
    · refine z_aload_n dX12_atLeast_56 rfl ?_
      refine z_iconst dX12_atLeast_57 (by decide) ?_
      refine z_aload_n dX12_atLeast_58 rfl ?_
      refine z_getR (ty := .int) dX12_atLeast_59 fl_X12_25 (by first | rfl | assumption) rfl rfl ?_
      refine z_iload dX12_atLeast_62 rfl ?_
      refine z_aload_n dX12_atLeast_64 rfl ?_
      refine z_gI 4 dX12_atLeast_65 fl_X12_59 (by first | rfl | assumption) rfl rfl ?_
      rw [hmo4]
      refine z_icmp_le 78 dX12_atLeast_68 (by decide) (fun h68 => ?_) (fun h68 => ?_)
      · refine z_iload dX12_atLeast_78 rfl ?_
        refine z_iconst dX12_atLeast_80 (by decide) ?_
        refine z_isub dX12_atLeast_81 (by omega) ?_
        rw [show (n' : Int) - 1 = (N2 : Int) by rw [if_neg (by omega)] at hN2; omega]
        refine z_V3v dX12_atLeast_82 ok_X12_gets lk_X12_184 (by first | rfl | assumption) rfl rfl (Nat.le_of_ble_eq_true rfl) (by decide) (cm_X12_gets (r := 2) (n := N2) g0_94 (by decide) (by decide) (by omega : N2 < 152) (by decide) ((hkp N2 hN3).2.row e94)) (fun m6 hq6 => ?_)
        obtain ⟨r6', o6⟩ := hq6
        rw [show N2 + 1 - loN L f s = min (mo + 1 - loN L f s) (n' - loN L f s) by split at hN2 <;> omega] at r6'
        have hle := rSum_mono (k := L.length) (lo := loN L f s) (mo := mo) (x := min (mo + 1 - loN L f s) (n' - loN L f s)) (mo + 1 - loN L f s - min (mo + 1 - loN L f s) (n' - loN L f s))
        rw [show min (mo + 1 - loN L f s) (n' - loN L f s) + (mo + 1 - loN L f s - min (mo + 1 - loN L f s) (n' - loN L f s)) = mo + 1 - loN L f s by omega] at hle
        refine z_aload_n dX12_atLeast_85 rfl ?_
        refine z_iconst dX12_atLeast_86 (by decide) ?_
        refine z_iconst dX12_atLeast_87 (by decide) ?_
        refine z_V2v dX12_atLeast_88 ok_X12_lessens lk_X12_88 (by first | rfl | assumption) rfl rfl (Nat.le_of_ble_eq_true rfl) (by decide) (cm_X12_lessens (r := 0) (s := 2) (by decide) (by decide) (by decide) (r4.off o6 (by decide)) r6' hle) (fun m7 hq7 => ?_)
        obtain ⟨r0, o7⟩ := hq7
        have rB := (r3'.off o6 (by decide)).off o7 (by decide)
        have oo := ow4.tr (o6.to.wr.tr o7.to.wr)
        refine z_aload_n dX12_atLeast_91 rfl ?_
        refine z_V0v dX12_atLeast_92 ok_X12_lowers lk_X12_94 (by first | rfl | assumption) rfl rfl (Nat.le_of_ble_eq_true rfl) (by decide) (cm_X12_lowers r0 rB hTp) (fun m5 hq5 => ?_)
        obtain ⟨r5, r6, o5⟩ := hq5
        rw [low_alike hww hrw hA hT] at r5
        rw [low_alike2 hww hrw hA hT] at r6
        refine z_iload dX12_atLeast_95 rfl ?_
        refine z_iret dX12_atLeast_97 rfl ?_
        first
        | exact ⟨rfl, _, rfl, fun q => absurd ⟨hsch, hn⟩ q, fun _ q => absurd yw q, fun _ _ => ⟨by omega, r5, r6⟩, oo.tr o5.wr⟩
        | exact ⟨rfl, _, rfl, fun q => ⟨p1 q, k2⟩, fun q1 q2 => ⟨p2 q1 q2, k2⟩, fun q1 q2 => absurd (p3 q1 q2) h22, o2⟩
      · refine z_aload_n dX12_atLeast_71 rfl ?_
        refine z_gI 4 dX12_atLeast_72 fl_X12_59 (by first | rfl | assumption) rfl rfl ?_
        rw [hmo4, show (mo : Int) = (N2 : Int) by rw [if_pos (by omega)] at hN2; omega]
        refine z_goto 82 dX12_atLeast_75 (by decide) ?_
        refine z_V3v dX12_atLeast_82 ok_X12_gets lk_X12_184 (by first | rfl | assumption) rfl rfl (Nat.le_of_ble_eq_true rfl) (by decide) (cm_X12_gets (r := 2) (n := N2) g0_94 (by decide) (by decide) (by omega : N2 < 152) (by decide) ((hkp N2 hN3).2.row e94)) (fun m6 hq6 => ?_)
        obtain ⟨r6', o6⟩ := hq6
        rw [show N2 + 1 - loN L f s = min (mo + 1 - loN L f s) (n' - loN L f s) by split at hN2 <;> omega] at r6'
        have hle := rSum_mono (k := L.length) (lo := loN L f s) (mo := mo) (x := min (mo + 1 - loN L f s) (n' - loN L f s)) (mo + 1 - loN L f s - min (mo + 1 - loN L f s) (n' - loN L f s))
        rw [show min (mo + 1 - loN L f s) (n' - loN L f s) + (mo + 1 - loN L f s - min (mo + 1 - loN L f s) (n' - loN L f s)) = mo + 1 - loN L f s by omega] at hle
        refine z_aload_n dX12_atLeast_85 rfl ?_
        refine z_iconst dX12_atLeast_86 (by decide) ?_
        refine z_iconst dX12_atLeast_87 (by decide) ?_
        refine z_V2v dX12_atLeast_88 ok_X12_lessens lk_X12_88 (by first | rfl | assumption) rfl rfl (Nat.le_of_ble_eq_true rfl) (by decide) (cm_X12_lessens (r := 0) (s := 2) (by decide) (by decide) (by decide) (r4.off o6 (by decide)) r6' hle) (fun m7 hq7 => ?_)
        obtain ⟨r0, o7⟩ := hq7
        have rB := (r3'.off o6 (by decide)).off o7 (by decide)
        have oo := ow4.tr (o6.to.wr.tr o7.to.wr)
        refine z_aload_n dX12_atLeast_91 rfl ?_
        refine z_V0v dX12_atLeast_92 ok_X12_lowers lk_X12_94 (by first | rfl | assumption) rfl rfl (Nat.le_of_ble_eq_true rfl) (by decide) (cm_X12_lowers r0 rB hTp) (fun m5 hq5 => ?_)
        obtain ⟨r5, r6, o5⟩ := hq5
        rw [low_alike hww hrw hA hT] at r5
        rw [low_alike2 hww hrw hA hT] at r6
        refine z_iload dX12_atLeast_95 rfl ?_
        refine z_iret dX12_atLeast_97 rfl ?_
        first
        | exact ⟨rfl, _, rfl, fun q => absurd ⟨hsch, hn⟩ q, fun _ q => absurd yw q, fun _ _ => ⟨by omega, r5, r6⟩, oo.tr o5.wr⟩
        | exact ⟨rfl, _, rfl, fun q => ⟨p1 q, k2⟩, fun q1 q2 => ⟨p2 q1 q2, k2⟩, fun q1 q2 => absurd (p3 q1 q2) h22, o2⟩
theorem cm_X12_span {mk f s a b wh : Int} (hf : finM mem nf fd) (hfr : finR nf fd) (hm : mem 88 4 = (mo : Int)) (hm1 : 1 ≤ mo) (hm2 : mo ≤ 150) : CM X (0, 0) 4 mX12_span G0 [vr 88, vi mk, vi f, vi s, vi a, vi b, vi wh] mem (pI G0 fun z m => anPost (gatL fd mk (-1) nf) f s mo (if wh = 0 then (loN (gatL fd mk (-1) nf) f s : Int) else (suY (gatL fd mk (-1) nf) f s mo a.toNat b.toNat : Int)) (schOk mk f s ∧ parOk a b ∧ 0 ≤ wh ∧ wh ≤ 1) z ∧ onWr mem m ∧ keepF mem m) := by
  have hr := gatL_rng (mk := mk) (wo := -1) hfr
  have hsr := gatL_srt fd mk (-1) nf
  have hlen := gatL_len fd mk (-1) nf
  have hn60 := hf.1
  have hrd := fun (ok : Int) (P : Prop) (q : bT ok P) => cm_X12_ready (X := X) (mk := mk) (f := f) (s := s) q hf hfr hm hm1 hm2
  generalize hL : gatL fd mk (-1) nf = L at *
  refine CM.of (by decide +kernel) 1 (Nat.le_of_ble_eq_true rfl) ?_
  show ZZ X (0, 0) 4 mX12_span G0 0 [vr 88, vi mk, vi f, vi s, vi a, vi b, vi wh, vd] [] mem _
  refine z_aload_n dX12_span_0 rfl ?_
  refine z_iload_n dX12_span_1 rfl ?_
  refine z_iload_n dX12_span_2 rfl ?_
  refine z_iload_n dX12_span_3 rfl ?_
  refine z_iload dX12_span_4 rfl ?_
  refine z_iload dX12_span_6 rfl ?_
  refine z_S2i dX12_span_8 ok_X12_isPart lk_X12_196 (Nat.le_of_ble_eq_true rfl) (by decide) (cm_X12_isPart) (fun z4 m4 hq4 => ?_)
  obtain ⟨hz4, rfl⟩ := hq4
  refine z_if_eq 29 dX12_span_11 (by decide) (fun h11 => ?_) (fun h11 => ?_)
  · have hbT : bT 0 (parOk a b ∧ 0 ≤ wh ∧ wh ≤ 1) := Or.inr ⟨rfl, fun q => hz4.no h11 q.1⟩
    refine z_iconst dX12_span_29 (by decide) ?_
    refine z_V4i dX12_span_30 ok_X12_ready lk_X12_180 (by first | rfl | assumption) rfl rfl (Nat.le_of_ble_eq_true rfl) (by decide) (hrd _ _ hbT) (fun z2 m2 hq2 => ?_)
    obtain ⟨p1, p2, p3, p4, o2, k2⟩ := hq2
    refine z_istore dX12_span_33 (by decide) rfl ?_
    dsimp only [List.set]
    refine z_iload dX12_span_35 rfl ?_
    refine z_iconst dX12_span_37 (by decide) ?_
    refine z_icmp_eq 44 dX12_span_38 (by decide) (fun h38 => ?_) (fun h38 => ?_)
    · obtain ⟨⟨hok, yw⟩, rw2, nu⟩ := p4 h38
      obtain ⟨a', rfl⟩ : ∃ a' : Nat, a = (a' : Int) := ⟨a.toNat, by omega⟩
      obtain ⟨b', rfl⟩ : ∃ b' : Nat, b = (b' : Int) := ⟨b.toNat, by omega⟩
      simp only [Int.toNat_natCast]
      obtain ⟨e1, e2, e3, e4⟩ := lo_ok hr hsr (by omega) (by omega) yw hm1
      have hmo2 : m2 88 4 = (mo : Int) := by rw [o2.2 4 (by decide) (by decide) (by decide) (by decide)]; exact hm
      refine z_aload_n dX12_span_44 rfl ?_
      refine z_iload dX12_span_45 rfl ?_
      refine z_iload dX12_span_47 rfl ?_
      refine z_V2v dX12_span_49 ok_X12_spans lk_X12_199 (by first | rfl | assumption) rfl rfl (Nat.le_of_ble_eq_true rfl) (by decide) (cm_X12_spans rw2 hmo2 (by omega) e2 e3 e4 hm2 (by omega) (by omega) (by omega)) (fun m3 hq3 => ?_)
      obtain ⟨⟨x3, y3⟩, o3, -, -⟩ := hq3
      refine z_iload dX12_span_52 rfl ?_
      refine z_if_ne 64 dX12_span_54 (by decide) (fun h54 => ?_) (fun h54 => ?_)
      · refine z_aload_n dX12_span_64 rfl ?_
        refine z_gI 11 dX12_span_65 fl_X12_193 (by first | rfl | assumption) rfl rfl ?_
        rw [y3]
        refine z_iret dX12_span_68 rfl ?_
        first
        | exact ⟨rfl, _, rfl, ⟨fun q => absurd hok q, fun _ q => absurd yw q, fun _ _ => (if_pos h54).symm⟩, o2.tr o3.wr, k2.tr o3.2.2⟩
        | exact ⟨rfl, _, rfl, ⟨fun q => absurd hok q, fun _ q => absurd yw q, fun _ _ => (if_neg h54).symm⟩, o2.tr o3.wr, k2.tr o3.2.2⟩
      · refine z_aload_n dX12_span_57 rfl ?_
        refine z_gI 10 dX12_span_58 fl_X12_190 (by first | rfl | assumption) rfl rfl ?_
        rw [x3]
        refine z_goto 68 dX12_span_61 (by decide) ?_
        refine z_iret dX12_span_68 rfl ?_
        first
        | exact ⟨rfl, _, rfl, ⟨fun q => absurd hok q, fun _ q => absurd yw q, fun _ _ => (if_pos h54).symm⟩, o2.tr o3.wr, k2.tr o3.2.2⟩
        | exact ⟨rfl, _, rfl, ⟨fun q => absurd hok q, fun _ q => absurd yw q, fun _ _ => (if_neg h54).symm⟩, o2.tr o3.wr, k2.tr o3.2.2⟩
    · refine z_iload dX12_span_41 rfl ?_
      refine z_iret dX12_span_43 rfl ?_
      exact ⟨rfl, _, rfl, ⟨p1, p2, fun q1 q2 => absurd (p3 q1 q2) h38⟩, o2, k2⟩
  · refine z_iload dX12_span_14 rfl ?_
    refine z_i2l dX12_span_16 ?_
    refine z_lconst (z := 0) dX12_span_17 rfl (by decide) ?_
    refine z_lconst (z := 1) dX12_span_18 rfl (by decide) ?_
    refine z_S3i dX12_span_19 ok_X12_in lk_X12_97 (Nat.le_of_ble_eq_true rfl) (by decide) (cm_X12_in) (fun z1 m1 hq1 => ?_)
    obtain ⟨hz1, rfl⟩ := hq1
    refine z_if_eq 29 dX12_span_22 (by decide) (fun h22 => ?_) (fun h22 => ?_)
    · have hbT : bT 0 (parOk a b ∧ 0 ≤ wh ∧ wh ≤ 1) := Or.inr ⟨rfl, fun q => hz1.no h22 q.2⟩
      refine z_iconst dX12_span_29 (by decide) ?_
      refine z_V4i dX12_span_30 ok_X12_ready lk_X12_180 (by first | rfl | assumption) rfl rfl (Nat.le_of_ble_eq_true rfl) (by decide) (hrd _ _ hbT) (fun z2 m2 hq2 => ?_)
      obtain ⟨p1, p2, p3, p4, o2, k2⟩ := hq2
      refine z_istore dX12_span_33 (by decide) rfl ?_
      dsimp only [List.set]
      refine z_iload dX12_span_35 rfl ?_
      refine z_iconst dX12_span_37 (by decide) ?_
      refine z_icmp_eq 44 dX12_span_38 (by decide) (fun h38 => ?_) (fun h38 => ?_)
      · obtain ⟨⟨hok, yw⟩, rw2, nu⟩ := p4 h38
        obtain ⟨a', rfl⟩ : ∃ a' : Nat, a = (a' : Int) := ⟨a.toNat, by omega⟩
        obtain ⟨b', rfl⟩ : ∃ b' : Nat, b = (b' : Int) := ⟨b.toNat, by omega⟩
        simp only [Int.toNat_natCast]
        obtain ⟨e1, e2, e3, e4⟩ := lo_ok hr hsr (by omega) (by omega) yw hm1
        have hmo2 : m2 88 4 = (mo : Int) := by rw [o2.2 4 (by decide) (by decide) (by decide) (by decide)]; exact hm
        refine z_aload_n dX12_span_44 rfl ?_
        refine z_iload dX12_span_45 rfl ?_
        refine z_iload dX12_span_47 rfl ?_
        refine z_V2v dX12_span_49 ok_X12_spans lk_X12_199 (by first | rfl | assumption) rfl rfl (Nat.le_of_ble_eq_true rfl) (by decide) (cm_X12_spans rw2 hmo2 (by omega) e2 e3 e4 hm2 (by omega) (by omega) (by omega)) (fun m3 hq3 => ?_)
        obtain ⟨⟨x3, y3⟩, o3, -, -⟩ := hq3
        refine z_iload dX12_span_52 rfl ?_
        refine z_if_ne 64 dX12_span_54 (by decide) (fun h54 => ?_) (fun h54 => ?_)
        · refine z_aload_n dX12_span_64 rfl ?_
          refine z_gI 11 dX12_span_65 fl_X12_193 (by first | rfl | assumption) rfl rfl ?_
          rw [y3]
          refine z_iret dX12_span_68 rfl ?_
          first
          | exact ⟨rfl, _, rfl, ⟨fun q => absurd hok q, fun _ q => absurd yw q, fun _ _ => (if_pos h54).symm⟩, o2.tr o3.wr, k2.tr o3.2.2⟩
          | exact ⟨rfl, _, rfl, ⟨fun q => absurd hok q, fun _ q => absurd yw q, fun _ _ => (if_neg h54).symm⟩, o2.tr o3.wr, k2.tr o3.2.2⟩
        · refine z_aload_n dX12_span_57 rfl ?_
          refine z_gI 10 dX12_span_58 fl_X12_190 (by first | rfl | assumption) rfl rfl ?_
          rw [x3]
          refine z_goto 68 dX12_span_61 (by decide) ?_
          refine z_iret dX12_span_68 rfl ?_
          first
          | exact ⟨rfl, _, rfl, ⟨fun q => absurd hok q, fun _ q => absurd yw q, fun _ _ => (if_pos h54).symm⟩, o2.tr o3.wr, k2.tr o3.2.2⟩
          | exact ⟨rfl, _, rfl, ⟨fun q => absurd hok q, fun _ q => absurd yw q, fun _ _ => (if_neg h54).symm⟩, o2.tr o3.wr, k2.tr o3.2.2⟩
      · refine z_iload dX12_span_41 rfl ?_
        refine z_iret dX12_span_43 rfl ?_
        exact ⟨rfl, _, rfl, ⟨p1, p2, fun q1 q2 => absurd (p3 q1 q2) h38⟩, o2, k2⟩
    · have hbT : bT 1 (parOk a b ∧ 0 ≤ wh ∧ wh ≤ 1) := Or.inl ⟨rfl, hz4.yes h11, hz1.yes h22⟩
      refine z_iconst dX12_span_25 (by decide) ?_
      refine z_goto 30 dX12_span_26 (by decide) ?_
      refine z_V4i dX12_span_30 ok_X12_ready lk_X12_180 (by first | rfl | assumption) rfl rfl (Nat.le_of_ble_eq_true rfl) (by decide) (hrd _ _ hbT) (fun z2 m2 hq2 => ?_)
      obtain ⟨p1, p2, p3, p4, o2, k2⟩ := hq2
      refine z_istore dX12_span_33 (by decide) rfl ?_
      dsimp only [List.set]
      refine z_iload dX12_span_35 rfl ?_
      refine z_iconst dX12_span_37 (by decide) ?_
      refine z_icmp_eq 44 dX12_span_38 (by decide) (fun h38 => ?_) (fun h38 => ?_)
      · obtain ⟨⟨hok, yw⟩, rw2, nu⟩ := p4 h38
        obtain ⟨a', rfl⟩ : ∃ a' : Nat, a = (a' : Int) := ⟨a.toNat, by omega⟩
        obtain ⟨b', rfl⟩ : ∃ b' : Nat, b = (b' : Int) := ⟨b.toNat, by omega⟩
        simp only [Int.toNat_natCast]
        obtain ⟨e1, e2, e3, e4⟩ := lo_ok hr hsr (by omega) (by omega) yw hm1
        have hmo2 : m2 88 4 = (mo : Int) := by rw [o2.2 4 (by decide) (by decide) (by decide) (by decide)]; exact hm
        refine z_aload_n dX12_span_44 rfl ?_
        refine z_iload dX12_span_45 rfl ?_
        refine z_iload dX12_span_47 rfl ?_
        refine z_V2v dX12_span_49 ok_X12_spans lk_X12_199 (by first | rfl | assumption) rfl rfl (Nat.le_of_ble_eq_true rfl) (by decide) (cm_X12_spans rw2 hmo2 (by omega) e2 e3 e4 hm2 (by omega) (by omega) (by omega)) (fun m3 hq3 => ?_)
        obtain ⟨⟨x3, y3⟩, o3, -, -⟩ := hq3
        refine z_iload dX12_span_52 rfl ?_
        refine z_if_ne 64 dX12_span_54 (by decide) (fun h54 => ?_) (fun h54 => ?_)
        · refine z_aload_n dX12_span_64 rfl ?_
          refine z_gI 11 dX12_span_65 fl_X12_193 (by first | rfl | assumption) rfl rfl ?_
          rw [y3]
          refine z_iret dX12_span_68 rfl ?_
          first
          | exact ⟨rfl, _, rfl, ⟨fun q => absurd hok q, fun _ q => absurd yw q, fun _ _ => (if_pos h54).symm⟩, o2.tr o3.wr, k2.tr o3.2.2⟩
          | exact ⟨rfl, _, rfl, ⟨fun q => absurd hok q, fun _ q => absurd yw q, fun _ _ => (if_neg h54).symm⟩, o2.tr o3.wr, k2.tr o3.2.2⟩
        · refine z_aload_n dX12_span_57 rfl ?_
          refine z_gI 10 dX12_span_58 fl_X12_190 (by first | rfl | assumption) rfl rfl ?_
          rw [x3]
          refine z_goto 68 dX12_span_61 (by decide) ?_
          refine z_iret dX12_span_68 rfl ?_
          first
          | exact ⟨rfl, _, rfl, ⟨fun q => absurd hok q, fun _ q => absurd yw q, fun _ _ => (if_pos h54).symm⟩, o2.tr o3.wr, k2.tr o3.2.2⟩
          | exact ⟨rfl, _, rfl, ⟨fun q => absurd hok q, fun _ q => absurd yw q, fun _ _ => (if_neg h54).symm⟩, o2.tr o3.wr, k2.tr o3.2.2⟩
      · refine z_iload dX12_span_41 rfl ?_
        refine z_iret dX12_span_43 rfl ?_
        exact ⟨rfl, _, rfl, ⟨p1, p2, fun q1 q2 => absurd (p3 q1 q2) h38⟩, o2, k2⟩
theorem cm_X12_told {mk f s wh : Int} (hf : finM mem nf fd) (hfr : finR nf fd) (hm : mem 88 4 = (mo : Int)) (hm1 : 1 ≤ mo) (hm2 : mo ≤ 150) : CM X (0, 0) 4 mX12_told G0 [vr 88, vi mk, vi f, vi s, vi wh] mem (pI G0 fun z m => anPost (gatL fd mk (-1) nf) f s mo (if wh = 0 then (loN (gatL fd mk (-1) nf) f s : Int) else suM (gatL fd mk (-1) nf) f s) (schOk mk f s ∧ 0 ≤ wh ∧ wh ≤ 1) z ∧ onWr mem m ∧ keepF mem m) := by
  have hr := gatL_rng (mk := mk) (wo := -1) hfr
  have hsr := gatL_srt fd mk (-1) nf
  have hlen := gatL_len fd mk (-1) nf
  have hn60 := hf.1
  have hrd := fun (ok : Int) (P : Prop) (q : bT ok P) => cm_X12_ready (X := X) (mk := mk) (f := f) (s := s) q hf hfr hm hm1 hm2
  generalize hL : gatL fd mk (-1) nf = L at *
  refine CM.of (by decide +kernel) 2 (Nat.le_of_ble_eq_true rfl) ?_
  show ZZ X (0, 0) 4 mX12_told G0 0 [vr 88, vi mk, vi f, vi s, vi wh, vd, vd] [] mem _
  refine z_aload_n dX12_told_0 rfl ?_
  refine z_iload_n dX12_told_1 rfl ?_
  refine z_iload_n dX12_told_2 rfl ?_
  refine z_iload_n dX12_told_3 rfl ?_
  refine z_iload dX12_told_4 rfl ?_
  refine z_i2l dX12_told_6 ?_
  refine z_lconst (z := 0) dX12_told_7 rfl (by decide) ?_
  refine z_lconst (z := 1) dX12_told_8 rfl (by decide) ?_
  refine z_S3i dX12_told_9 ok_X12_in lk_X12_97 (Nat.le_of_ble_eq_true rfl) (by decide) (cm_X12_in) (fun z1 m1 hq1 => ?_)
  obtain ⟨hz1, rfl⟩ := hq1
  refine z_V4i dX12_told_12 ok_X12_ready lk_X12_180 (by first | rfl | assumption) rfl rfl (Nat.le_of_ble_eq_true rfl) (by decide) (hrd z1 _ hz1) (fun z2 m2 hq2 => ?_)
  obtain ⟨p1, p2, p3, p4, o2, k2⟩ := hq2
  refine z_istore dX12_told_15 (by decide) rfl ?_
  dsimp only [List.set]
  refine z_iload dX12_told_17 rfl ?_
  refine z_iconst dX12_told_19 (by decide) ?_
  refine z_icmp_eq 26 dX12_told_20 (by decide) (fun h20 => ?_) (fun h20 => ?_)
  · obtain ⟨⟨hok, yw⟩, rw2, nu⟩ := p4 h20
    have hb := top_bd hr yw.1 (by omega) (by omega)
    refine z_aload_n dX12_told_26 rfl ?_
    refine z_iload_n dX12_told_27 rfl ?_
    refine z_iload_n dX12_told_28 rfl ?_
    refine z_V2i dX12_told_29 ok_X12_greatest lk_X12_153 (by first | rfl | assumption) rfl rfl (Nat.le_of_ble_eq_true rfl) (by decide) (cm_X12_greatest nu hr yw.1 (by omega) (by omega) (by omega)) (fun z3 m3 hq3 => ?_)
    obtain ⟨rfl, rfl⟩ := hq3
    refine z_istore dX12_told_32 (by decide) rfl ?_
    dsimp only [List.set]
    refine z_iload dX12_told_34 rfl ?_
    refine z_if_ne 46 dX12_told_36 (by decide) (fun h36 => ?_) (fun h36 => ?_)
    · refine z_aload_n dX12_told_46 rfl ?_
      refine z_gI 6 dX12_told_47 fl_X12_125 (by first | rfl | assumption) rfl rfl ?_
      rw [nu.1]
      refine z_if_ne 57 dX12_told_50 (by decide) (fun h50 => ?_) (fun h50 => ?_)
      · refine z_iload dX12_told_57 rfl ?_
        refine z_iload dX12_told_59 rfl ?_
        refine z_aload_n dX12_told_61 rfl ?_
        refine z_gI 6 dX12_told_62 fl_X12_125 (by first | rfl | assumption) rfl rfl ?_
        rw [nu.1]
        have hd1 : 0 ≤ topN L f s / (L.length : Int) := Int.ediv_nonneg hb.1 (by omega)
        have hd2 : topN L f s / (L.length : Int) ≤ topN L f s := Int.ediv_le_self _ hb.1
        refine z_idiv dX12_told_65 (by omega) (by omega) ?_
        refine z_iadd dX12_told_66 (by omega) ?_
        refine z_iconst dX12_told_67 (by decide) ?_
        refine z_isub dX12_told_68 (by omega) ?_
        refine z_iret dX12_told_69 rfl ?_
        first
        | exact ⟨rfl, _, rfl, ⟨fun q => absurd hok q, fun _ q => absurd yw q, fun _ _ => (if_pos h36).symm⟩, o2, k2⟩
        | exact ⟨rfl, _, rfl, ⟨fun q => absurd hok q, fun _ q => absurd yw q, fun _ _ => by rw [if_neg h36]; unfold suM; rw [if_pos (by omega)]⟩, o2, k2⟩
        | exact ⟨rfl, _, rfl, ⟨fun q => absurd hok q, fun _ q => absurd yw q, fun _ _ => by rw [if_neg h36]; unfold suM; rw [if_neg (by omega)]⟩, o2, k2⟩
      · refine z_iconst dX12_told_53 (by decide) ?_
        refine z_goto 69 dX12_told_54 (by decide) ?_
        refine z_iret dX12_told_69 rfl ?_
        first
        | exact ⟨rfl, _, rfl, ⟨fun q => absurd hok q, fun _ q => absurd yw q, fun _ _ => (if_pos h36).symm⟩, o2, k2⟩
        | exact ⟨rfl, _, rfl, ⟨fun q => absurd hok q, fun _ q => absurd yw q, fun _ _ => by rw [if_neg h36]; unfold suM; rw [if_pos (by omega)]⟩, o2, k2⟩
        | exact ⟨rfl, _, rfl, ⟨fun q => absurd hok q, fun _ q => absurd yw q, fun _ _ => by rw [if_neg h36]; unfold suM; rw [if_neg (by omega)]⟩, o2, k2⟩
    · refine z_aload_n dX12_told_39 rfl ?_
      refine z_gI 9 dX12_told_40 fl_X12_156 (by first | rfl | assumption) rfl rfl ?_
      rw [rw2.1]
      refine z_goto 69 dX12_told_43 (by decide) ?_
      refine z_iret dX12_told_69 rfl ?_
      first
      | exact ⟨rfl, _, rfl, ⟨fun q => absurd hok q, fun _ q => absurd yw q, fun _ _ => (if_pos h36).symm⟩, o2, k2⟩
      | exact ⟨rfl, _, rfl, ⟨fun q => absurd hok q, fun _ q => absurd yw q, fun _ _ => by rw [if_neg h36]; unfold suM; rw [if_pos (by omega)]⟩, o2, k2⟩
      | exact ⟨rfl, _, rfl, ⟨fun q => absurd hok q, fun _ q => absurd yw q, fun _ _ => by rw [if_neg h36]; unfold suM; rw [if_neg (by omega)]⟩, o2, k2⟩
  · refine z_iload dX12_told_23 rfl ?_
    refine z_iret dX12_told_25 rfl ?_
    exact ⟨rfl, _, rfl, ⟨p1, p2, fun q1 q2 => absurd (p3 q1 q2) h20⟩, o2, k2⟩
theorem cm_X12_far {i f s : Int} (hf : finM mem nf fd) (hfr : finR nf fd) (hm : mem 88 4 = (mo : Int)) (hm1 : 1 ≤ mo) (hm2 : mo ≤ 150) : CM X (0, 0) 4 mX12_far G0 [vr 88, vi i, vi f, vi s] mem (pI G0 fun z m => faPost nf fd f s mo i z ∧ onWr mem m ∧ keepF mem m) := by
  have hn60 := hf.1
  refine CM.of (by decide +kernel) 1 (Nat.le_of_ble_eq_true rfl) ?_
  show ZZ X (0, 0) 4 mX12_far G0 0 [vr 88, vi i, vi f, vi s, vd] [] mem _
  refine z_aload_n dX12_far_0 rfl ?_
  refine z_iload_n dX12_far_1 rfl ?_
  refine z_V1i dX12_far_2 ok_X12_isFind lk_X12_119 (by first | rfl | assumption) rfl rfl (Nat.le_of_ble_eq_true rfl) (by decide) (cm_X12_isFind hf) (fun z1 m1 hq1 => ?_)
  obtain ⟨hz1, rfl⟩ := hq1
  refine z_if_eq 16 dX12_far_5 (by decide) (fun h5 => ?_) (fun h5 => ?_)
  · have no1 := hz1.no h5
    refine z_bipush dX12_far_16 (by decide) ?_
    refine z_iret dX12_far_18 rfl ?_
    first
    | exact ⟨rfl, _, rfl, ⟨fun _ => rfl, fun q => absurd q.1 no1⟩, onWr.rf, fun _ _ _ h => h⟩
    | exact ⟨rfl, _, rfl, ⟨fun _ => rfl, fun q => absurd q.2 no2⟩, onWr.rf, fun _ _ _ h => h⟩
  · have yes1 := hz1.yes h5
    refine z_iload_n dX12_far_8 rfl ?_
    refine z_iload_n dX12_far_9 rfl ?_
    refine z_S2i dX12_far_10 ok_X12_isScheme lk_X12_145 (Nat.le_of_ble_eq_true rfl) (by decide) (cm_X12_isScheme) (fun z2 m2 hq2 => ?_)
    obtain ⟨hz2, rfl⟩ := hq2
    refine z_if_ne 19 dX12_far_13 (by decide) (fun h13 => ?_) (fun h13 => ?_)
    · have yes2 := hz2.yes h13
      obtain ⟨n, rfl⟩ : ∃ n : Nat, i = (n : Int) := ⟨i.toNat, by omega⟩
      have hn : n < nf := by omega
      obtain ⟨q0, q1, -, -, -, q5⟩ := hfr n hn
      have hr := gatL_rng (mk := fd 0 n) (wo := -1) hfr
      have hr2 := gatL_rng (mk := fd 0 n) (wo := (n : Int)) hfr
      have hsr2 := gatL_srt fd (fd 0 n) (n : Int) nf
      have hlen2 := gatL_len fd (fd 0 n) (n : Int) nf
      refine z_aload_n dX12_far_19 rfl ?_
      refine z_iload_n dX12_far_20 rfl ?_
      refine z_iconst dX12_far_21 (by decide) ?_
      refine z_V2i dX12_far_22 ok_X12_of lk_X12_122 (by first | rfl | assumption) rfl rfl (Nat.le_of_ble_eq_true rfl) (by decide) (cm_X12_of (k := 0) hf hn (by decide)) (fun z3 m3 hq3 => ?_)
      obtain ⟨rfl, rfl⟩ := hq3
      refine z_istore dX12_far_25 (by decide) rfl ?_
      dsimp only [List.set]
      refine z_aload_n dX12_far_27 rfl ?_
      refine z_iload dX12_far_28 rfl ?_
      refine z_iconst dX12_far_30 (by decide) ?_
      refine z_V2v dX12_far_31 ok_X12_finds0 lk_X12_132 (by first | rfl | assumption) rfl rfl (Nat.le_of_ble_eq_true rfl) (by decide) (cm_X12_finds0 (mk := fd 0 n) (wo := -1) hf) (fun m4 hq4 => ?_)
      obtain ⟨nu4, o4⟩ := hq4
      have f4 := hf.nm o4
      refine z_aload_n dX12_far_34 rfl ?_
      refine z_iload_n dX12_far_35 rfl ?_
      refine z_iconst dX12_far_36 (by decide) ?_
      refine z_V2i dX12_far_37 ok_X12_of lk_X12_122 (by first | rfl | assumption) rfl rfl (Nat.le_of_ble_eq_true rfl) (by decide) (cm_X12_of (k := 5) f4 hn (by decide)) (fun z5 m5 hq5 => ?_)
      obtain ⟨rfl, rfl⟩ := hq5
      refine z_iconst dX12_far_40 (by decide) ?_
      refine z_icmp_eq 53 dX12_far_41 (by decide) (fun h41 => ?_) (fun h41 => ?_)
      · have no5 : ¬ fd 5 n = 0 := by omega
        refine z_bipush dX12_far_53 (by decide) ?_
        refine z_iret dX12_far_55 rfl ?_
        first
        | exact ⟨rfl, _, rfl, ⟨fun q => absurd ⟨yes1, yes2⟩ q, fun _ => ⟨fun _ => rfl, fun q => absurd q.1 no5⟩⟩, o4.wr, o4.kf⟩
        | exact ⟨rfl, _, rfl, ⟨fun q => absurd ⟨yes1, yes2⟩ q, fun _ => ⟨fun _ => rfl, fun q => absurd q.2.1 no6⟩⟩, o4.wr, o4.kf⟩
      · have yes5 : fd 5 n = 0 := by omega
        refine z_aload_n dX12_far_44 rfl ?_
        refine z_iload_n dX12_far_45 rfl ?_
        refine z_iload_n dX12_far_46 rfl ?_
        refine z_V2i dX12_far_47 ok_X12_fitsNow lk_X12_148 (by first | rfl | assumption) rfl rfl (Nat.le_of_ble_eq_true rfl) (by decide) (cm_X12_fitsNow nu4 hr (by omega) (by omega) (by omega)) (fun z6 m6 hq6 => ?_)
        obtain ⟨hz6, rfl⟩ := hq6
        refine z_if_ne 56 dX12_far_50 (by decide) (fun h50 => ?_) (fun h50 => ?_)
        · have yes6 := hz6.yes h50
          refine z_aload_n dX12_far_56 rfl ?_
          refine z_iload dX12_far_57 rfl ?_
          refine z_iload_n dX12_far_59 rfl ?_
          refine z_V2v dX12_far_60 ok_X12_finds0 lk_X12_132 (by first | rfl | assumption) rfl rfl (Nat.le_of_ble_eq_true rfl) (by decide) (cm_X12_finds0 (mk := fd 0 n) (wo := (n : Int)) f4) (fun m7 hq7 => ?_)
          obtain ⟨nu7, o7⟩ := hq7
          have f7 := f4.nm o7
          have hm7 : m7 88 4 = (mo : Int) := by rw [o7.2 4 (by decide), o4.2 4 (by decide)]; exact hm
          refine z_aload_n dX12_far_63 rfl ?_
          refine z_iload_n dX12_far_64 rfl ?_
          refine z_iload_n dX12_far_65 rfl ?_
          refine z_V2i dX12_far_66 ok_X12_mayBe lk_X12_172 (by first | rfl | assumption) rfl rfl (Nat.le_of_ble_eq_true rfl) (by decide) (cm_X12_mayBe nu7 hm7 hr2 (by omega) (by omega) (by omega) (by omega) (by omega)) (fun z8 m8 hq8 => ?_)
          obtain ⟨hz8, rfl⟩ := hq8
          have oo := o4.wr.tr o7.wr
          have kk := o4.kf.tr o7.kf
          refine z_if_ne 75 dX12_far_69 (by decide) (fun h69 => ?_) (fun h69 => ?_)
          · have yw : wgP (gatL fd (fd 0 n) (n : Int) nf) f s mo := hz8.yes h69
            obtain ⟨e1, e2, e3, e4⟩ := lo_ok hr2 hsr2 (by omega) (by omega) yw hm1
            have hin := fit_mem yes6 (gat_mem (fd := fd) (mk := fd 0 n) (wo := -1) rfl yes5 (by omega) nf hn)
            have hd1 : 0 ≤ (fd 1 n - f) / s := Int.ediv_nonneg (by omega) (by omega)
            have hd2 : (fd 1 n - f) / s ≤ fd 1 n - f := Int.ediv_le_self _ (by omega)
            refine z_aload_n dX12_far_75 rfl ?_
            refine z_gI 6 dX12_far_76 fl_X12_125 (by first | rfl | assumption) rfl rfl ?_
            rw [nu7.1]
            refine z_if_ne 84 dX12_far_79 (by decide) (fun h79 => ?_) (fun h79 => ?_)
            · refine z_aload_n dX12_far_84 rfl ?_
              refine z_iload_n dX12_far_85 rfl ?_
              refine z_iload_n dX12_far_86 rfl ?_
              refine z_V2v dX12_far_87 ok_X12_weighs lk_X12_175 (by first | rfl | assumption) rfl rfl (Nat.le_of_ble_eq_true rfl) (by decide) (cm_X12_weighs (lo := loN (gatL fd (fd 0 n) (n : Int) nf) f s) nu7 hm7 hr2 yw.1 (by omega) (by omega) (by omega) e1 e2 e4 hm2) (fun m9 hq9 => ?_)
              obtain ⟨rw9, o9⟩ := hq9
              have hm9 : m9 88 4 = (mo : Int) := by rw [o9.2.1 4 (by decide) (by decide) (by decide)]; exact hm7
              refine z_aload_n dX12_far_90 rfl ?_
              refine z_bipush dX12_far_91 (by decide) ?_
              refine z_bipush dX12_far_93 (by decide) ?_
              refine z_V2v dX12_far_95 ok_X12_spans lk_X12_199 (by first | rfl | assumption) rfl rfl (Nat.le_of_ble_eq_true rfl) (by decide) (cm_X12_spans (a := 99) (b := 100) rw9 hm9 (by omega) e2 e3 e4 hm2 (by decide) (by decide) (by decide)) (fun m10 hq10 => ?_)
              obtain ⟨⟨x10, y10⟩, o10, -, -⟩ := hq10
              have f10 : finM m10 nf fd := (f7.off (o9.2.1 3 (by decide) (by decide) (by decide)) (o9.1 91 (by omega))).off (o10.2.1 3 (by decide) (by decide) (by decide)) (o10.1 91 (by omega))
              have oo10 := oo.tr (o9.wr.tr o10.wr)
              have kk10 := kk.tr (keepF.tr (m1 := m9) o9.2.2 o10.2.2)
              refine z_aload_n dX12_far_98 rfl ?_
              refine z_iload_n dX12_far_99 rfl ?_
              refine z_iconst dX12_far_100 (by decide) ?_
              refine z_V2i dX12_far_101 ok_X12_of lk_X12_122 (by first | rfl | assumption) rfl rfl (Nat.le_of_ble_eq_true rfl) (by decide) (cm_X12_of (k := 1) f10 hn (by decide)) (fun z11 m11 hq11 => ?_)
              obtain ⟨rfl, rfl⟩ := hq11
              refine z_iload_n dX12_far_104 rfl ?_
              refine z_isub dX12_far_105 (by omega) ?_
              refine z_iload_n dX12_far_106 rfl ?_
              refine z_idiv dX12_far_107 (by omega) (by omega) ?_
              refine z_iconst dX12_far_108 (by decide) ?_
              refine z_iadd dX12_far_109 (by omega) ?_
              refine z_aload_n dX12_far_110 rfl ?_
              refine z_gI 11 dX12_far_111 fl_X12_193 (by first | rfl | assumption) rfl rfl ?_
              rw [y10]
              refine z_icmp_le 121 dX12_far_114 (by decide) (fun h114 => ?_) (fun h114 => ?_)
              · refine z_iconst dX12_far_121 (by decide) ?_
                refine z_iret dX12_far_122 rfl ?_
                first
                | exact ⟨rfl, _, rfl, ⟨fun q => absurd ⟨yes1, yes2⟩ q, fun _ => ⟨fun q => absurd ⟨yes5, yes6, yw⟩ q, fun _ => by rw [Int.toNat_natCast, if_neg (by omega), if_pos (by unfold suY; omega)]⟩⟩, oo10, kk10⟩
                | exact ⟨rfl, _, rfl, ⟨fun q => absurd ⟨yes1, yes2⟩ q, fun _ => ⟨fun q => absurd ⟨yes5, yes6, yw⟩ q, fun _ => by rw [Int.toNat_natCast, if_neg (by omega), if_neg (by unfold suY; omega)]⟩⟩, oo10, kk10⟩
              · refine z_iconst dX12_far_117 (by decide) ?_
                refine z_goto 122 dX12_far_118 (by decide) ?_
                refine z_iret dX12_far_122 rfl ?_
                first
                | exact ⟨rfl, _, rfl, ⟨fun q => absurd ⟨yes1, yes2⟩ q, fun _ => ⟨fun q => absurd ⟨yes5, yes6, yw⟩ q, fun _ => by rw [Int.toNat_natCast, if_neg (by omega), if_pos (by unfold suY; omega)]⟩⟩, oo10, kk10⟩
                | exact ⟨rfl, _, rfl, ⟨fun q => absurd ⟨yes1, yes2⟩ q, fun _ => ⟨fun q => absurd ⟨yes5, yes6, yw⟩ q, fun _ => by rw [Int.toNat_natCast, if_neg (by omega), if_neg (by unfold suY; omega)]⟩⟩, oo10, kk10⟩
            · refine z_iconst dX12_far_82 (by decide) ?_
              refine z_iret dX12_far_83 rfl ?_
              exact ⟨rfl, _, rfl, ⟨fun q => absurd ⟨yes1, yes2⟩ q, fun _ => ⟨fun q => absurd ⟨yes5, yes6, yw⟩ q, fun _ => by rw [Int.toNat_natCast, if_pos (by omega)]⟩⟩, oo, kk⟩
          · have nw : ¬ wgP (gatL fd (fd 0 n) (n : Int) nf) f s mo := hz8.no h69
            refine z_bipush dX12_far_72 (by decide) ?_
            refine z_iret dX12_far_74 rfl ?_
            exact ⟨rfl, _, rfl, ⟨fun q => absurd ⟨yes1, yes2⟩ q, fun _ => ⟨fun _ => rfl, fun q => absurd q.2.2 nw⟩⟩, oo, kk⟩
        · have no6 := hz6.no h50
          refine z_bipush dX12_far_53 (by decide) ?_
          refine z_iret dX12_far_55 rfl ?_
          first
          | exact ⟨rfl, _, rfl, ⟨fun q => absurd ⟨yes1, yes2⟩ q, fun _ => ⟨fun _ => rfl, fun q => absurd q.1 no5⟩⟩, o4.wr, o4.kf⟩
          | exact ⟨rfl, _, rfl, ⟨fun q => absurd ⟨yes1, yes2⟩ q, fun _ => ⟨fun _ => rfl, fun q => absurd q.2.1 no6⟩⟩, o4.wr, o4.kf⟩
    · have no2 := hz2.no h13
      refine z_bipush dX12_far_16 (by decide) ?_
      refine z_iret dX12_far_18 rfl ?_
      first
      | exact ⟨rfl, _, rfl, ⟨fun _ => rfl, fun q => absurd q.1 no1⟩, onWr.rf, fun _ _ _ h => h⟩
      | exact ⟨rfl, _, rfl, ⟨fun _ => rfl, fun q => absurd q.2 no2⟩, onWr.rf, fun _ _ _ h => h⟩
theorem cm_X12_held {a b wh : Int} (hf : finM mem nf fd) (hfr : finR nf fd) (hbk : bkM mem bk) (hbr : bkR bk) (hm : mem 88 4 = (mo : Int)) (hm1 : 1 ≤ mo) (hm2 : mo ≤ 150) : CM X (0, 0) 4 mX12_held G0 [vr 88, vi a, vi b, vi wh] mem (pI G0 fun z m => ((¬ heOk a b wh → z = -2) ∧ (heOk a b wh → z = hdA nf fd bk mo a.toNat b.toNat wh 6)) ∧ onWr mem m ∧ keepF mem m) := by
  have hn60 := hf.1
  refine CM.of (by decide +kernel) 2 (Nat.le_of_ble_eq_true rfl) ?_
  show ZZ X (0, 0) 4 mX12_held G0 0 [vr 88, vi a, vi b, vi wh, vd, vd] [] mem _
  have loop : ∀ (a b : Nat) (e i : Nat) (m : Mem), i + e = 6 → heOk a b wh → onWr mem m → keepF mem m → ZZ X (0, 0) 4 mX12_held G0 27 [vr 88, vi a, vi b, vi wh, vi (hdA nf fd bk mo a b wh i), vi (i : Int)] [] m (pI G0 fun z m => ((¬ heOk a b wh → z = -2) ∧ (heOk a b wh → z = hdA nf fd bk mo a b wh 6)) ∧ onWr mem m ∧ keepF mem m) := by
    intro a b e
    induction e with
    | zero =>
      intro i m hi hok ho hk
      have : i = 6 := by omega
      subst this
      refine z_iload dX12_held_27 rfl ?_
      refine z_bipush dX12_held_29 (by decide) ?_
      refine z_icmp_ge 137 dX12_held_31 (by decide) (fun h31 => ?_) (fun h31 => ?_)
      · refine z_iload dX12_held_137 rfl ?_
        refine z_iret dX12_held_139 rfl ?_
        exact ⟨rfl, _, rfl, ⟨fun q => absurd hok q, fun _ => rfl⟩, ho, hk⟩
      · omega
    | succ e ih =>
      intro i m hi hok ho hk
      have hab := hok.1
      have hbd := hdA_bd nf fd bk mo a b wh i
      have join : ∀ (m' : Mem) (acc : Int), acc = hdA nf fd bk mo a b wh i + hdV nf fd bk mo a b wh i → onWr mem m' → keepF mem m' → ZZ X (0, 0) 4 mX12_held G0 131 [vr 88, vi a, vi b, vi wh, vi acc, vi (i : Int)] [] m' (pI G0 fun z m => ((¬ heOk a b wh → z = -2) ∧ (heOk a b wh → z = hdA nf fd bk mo a b wh 6)) ∧ onWr mem m ∧ keepF mem m) := by
        intro m' acc hacc ho' hk'
        subst hacc
        refine z_iinc dX12_held_131 rfl (by omega) (by decide) rfl ?_
        dsimp only [List.set]
        refine z_goto 27 dX12_held_134 (by decide) ?_
        rw [show (i : Int) + 1 = ((i + 1 : Nat) : Int) by omega]
        exact ih (i + 1) m' (by omega) hok ho' hk'
      have bk0 : bkM m bk := fun k j hk hj => by rw [ho.1 32 (by omega)]; exact hbk k j hk hj
      have hf1 := hf.off (m := m) (ho.2 3 (by decide) (by decide) (by decide) (by decide)) (ho.1 91 (by omega))
      have hm' : m 88 4 = (mo : Int) := by rw [ho.2 4 (by decide) (by decide) (by decide) (by decide)]; exact hm
      have b0 := bk0 0 i (by decide) (by omega)
      have b1 := bk0 1 i (by decide) (by omega)
      have b2 := bk0 2 i (by decide) (by omega)
      rw [show 3 * (i : Int) + ((0 : Nat) : Int) = 3 * (i : Int) by omega] at b0
      rw [show ((1 : Nat) : Int) = 1 from rfl] at b1
      rw [show ((2 : Nat) : Int) = 2 from rfl] at b2
      have hr := gatL_rng (mk := (i : Int)) (wo := -1) hfr
      have hsr := gatL_srt fd (i : Int) (-1) nf
      have hlen := gatL_len fd (i : Int) (-1) nf
      refine z_iload dX12_held_27 rfl ?_
      refine z_bipush dX12_held_29 (by decide) ?_
      refine z_icmp_ge 137 dX12_held_31 (by decide) (fun h31 => ?_) (fun h31 => ?_)
      · omega
      · refine z_aload_n dX12_held_34 rfl ?_
        refine z_getR (ty := .int) dX12_held_35 fl_X12_56 (by first | rfl | assumption) rfl rfl ?_
        refine z_iconst dX12_held_38 (by decide) ?_
        refine z_iload dX12_held_39 rfl ?_
        refine z_imul dX12_held_41 (by omega) ?_
        refine z_iald dX12_held_42 (by first | rfl | assumption) (by omega) (by omega) ?_
        rw [b0]
        refine z_iconst dX12_held_43 (by decide) ?_
        refine z_icmp_eq 131 dX12_held_44 (by decide) (fun h44 => ?_) (fun h44 => ?_)
        · have hv : hdV nf fd bk mo a b wh i = 0 := if_neg (fun q => q.1 h44)
          first
          | (refine join _ _ ?_ (oo.tr o3.wr) (kk.tr o3.2.2)
             rw [hv]
             rcases hz6 with ⟨w1, w2⟩ | ⟨w1, w2⟩
             · first | omega | rw [if_pos ⟨fun _ => by omega, fun _ => w2⟩] | rw [if_neg (fun q => by have := q.mp w2; omega)]
             · first | omega | rw [if_pos ⟨fun q => absurd q w2, fun q => by omega⟩] | rw [if_neg (fun q => absurd (q.mpr (by omega)) w2)])
          | (refine join _ _ ?_ oo kk; rw [hv]; omega)
          | (refine join _ _ ?_ ho hk; rw [hv]; omega)
        · have hsc := bk_sch hbr (by omega : i < 6) h44
          refine z_aload_n dX12_held_47 rfl ?_
          refine z_iload dX12_held_48 rfl ?_
          refine z_aload_n dX12_held_50 rfl ?_
          refine z_getR (ty := .int) dX12_held_51 fl_X12_56 (by first | rfl | assumption) rfl rfl ?_
          refine z_iconst dX12_held_54 (by decide) ?_
          refine z_iload dX12_held_55 rfl ?_
          refine z_imul dX12_held_57 (by omega) ?_
          refine z_iconst dX12_held_58 (by decide) ?_
          refine z_iadd dX12_held_59 (by omega) ?_
          refine z_iald dX12_held_60 (by first | rfl | assumption) (by omega) (by omega) ?_
          rw [b1]
          refine z_aload_n dX12_held_61 rfl ?_
          refine z_getR (ty := .int) dX12_held_62 fl_X12_56 (by first | rfl | assumption) rfl rfl ?_
          refine z_iconst dX12_held_65 (by decide) ?_
          refine z_iload dX12_held_66 rfl ?_
          refine z_imul dX12_held_68 (by omega) ?_
          refine z_iconst dX12_held_69 (by decide) ?_
          refine z_iadd dX12_held_70 (by omega) ?_
          refine z_iald dX12_held_71 (by first | rfl | assumption) (by omega) (by omega) ?_
          rw [b2]
          refine z_iconst dX12_held_72 (by decide) ?_
          refine z_V4i dX12_held_73 ok_X12_ready lk_X12_180 (by first | rfl | assumption) rfl rfl (Nat.le_of_ble_eq_true rfl) (by decide) (cm_X12_ready (P := True) (Or.inl ⟨rfl, trivial⟩) hf1 hfr hm' hm1 hm2) (fun z2 m2 hq2 => ?_)
          obtain ⟨p1, p2, p3, p4, o2, k2⟩ := hq2
          have oo := ho.tr o2
          have kk := hk.tr k2
          refine z_iconst dX12_held_76 (by decide) ?_
          refine z_icmp_ne 131 dX12_held_77 (by decide) (fun h77 => ?_) (fun h77 => ?_)
          · have hv : hdV nf fd bk mo a b wh i = 0 := if_neg (fun q => h77 (p3 ⟨⟨by omega, by omega, hsc.2.1.1, hsc.2.1.2, hsc.2.2.1, hsc.2.2.2⟩, trivial⟩ q.2))
            first
            | (refine join _ _ ?_ (oo.tr o3.wr) (kk.tr o3.2.2)
               rw [hv]
               rcases hz6 with ⟨w1, w2⟩ | ⟨w1, w2⟩
               · first | omega | rw [if_pos ⟨fun _ => by omega, fun _ => w2⟩] | rw [if_neg (fun q => by have := q.mp w2; omega)]
               · first | omega | rw [if_pos ⟨fun q => absurd q w2, fun q => by omega⟩] | rw [if_neg (fun q => absurd (q.mpr (by omega)) w2)])
            | (refine join _ _ ?_ oo kk; rw [hv]; omega)
            | (refine join _ _ ?_ ho hk; rw [hv]; omega)
          · obtain ⟨⟨hok2, yw⟩, rw2, nu⟩ := p4 (by omega)
            have hv : hdV nf fd bk mo a b wh i = if hdI nf fd bk mo a b i ↔ wh = 0 then 1 else 0 := if_pos ⟨h44, yw⟩
            obtain ⟨e1, e2, e3, e4⟩ := lo_ok hr hsr (by omega) (by omega) yw hm1
            have hmo2 : m2 88 4 = (mo : Int) := by rw [o2.2 4 (by decide) (by decide) (by decide) (by decide)]; exact hm'
            refine z_aload_n dX12_held_80 rfl ?_
            refine z_iload_n dX12_held_81 rfl ?_
            refine z_iload_n dX12_held_82 rfl ?_
            refine z_V2v dX12_held_83 ok_X12_spans lk_X12_199 (by first | rfl | assumption) rfl rfl (Nat.le_of_ble_eq_true rfl) (by decide) (cm_X12_spans rw2 hmo2 (by omega) e2 e3 e4 hm2 (by omega) (by omega) (by omega)) (fun m3 hq3 => ?_)
            obtain ⟨⟨x3, y3⟩, o3, -, -⟩ := hq3
            have b0' : m3 32 (3 * (i : Int)) = bk 0 i := by rw [o3.1 32 (by omega), o2.1 32 (by omega)]; exact b0
            refine z_iload dX12_held_86 rfl ?_
            refine z_aload_n dX12_held_88 rfl ?_
            refine z_getR (ty := .int) dX12_held_89 fl_X12_56 (by first | rfl | assumption) rfl rfl ?_
            refine z_iconst dX12_held_92 (by decide) ?_
            refine z_iload dX12_held_93 rfl ?_
            refine z_imul dX12_held_95 (by omega) ?_
            refine z_iald dX12_held_96 (by first | rfl | assumption) (by omega) (by omega) ?_
            rw [b0']
            refine z_i2l dX12_held_97 ?_
            refine z_aload_n dX12_held_98 rfl ?_
            refine z_gI 10 dX12_held_99 fl_X12_190 (by first | rfl | assumption) rfl rfl ?_
            rw [x3]
            refine z_i2l dX12_held_102 ?_
            refine z_aload_n dX12_held_103 rfl ?_
            refine z_gI 11 dX12_held_104 fl_X12_193 (by first | rfl | assumption) rfl rfl ?_
            rw [y3]
            refine z_i2l dX12_held_107 ?_
            refine z_S3i dX12_held_108 ok_X12_in lk_X12_97 (Nat.le_of_ble_eq_true rfl) (by decide) (cm_X12_in) (fun z6 m6 hq6 => ?_)
            obtain ⟨hz6, rfl⟩ := hq6
            refine z_iload_n dX12_held_111 rfl ?_
            refine z_if_ne 119 dX12_held_112 (by decide) (fun h112 => ?_) (fun h112 => ?_)
            · refine z_iconst dX12_held_119 (by decide) ?_
              refine z_icmp_ne 127 dX12_held_120 (by decide) (fun h120 => ?_) (fun h120 => ?_)
              · refine z_iconst dX12_held_127 (by decide) ?_
                refine z_iadd dX12_held_128 (by omega) ?_
                refine z_istore dX12_held_129 (by decide) rfl ?_
                dsimp only [List.set]
                first
                | (refine join _ _ ?_ (oo.tr o3.wr) (kk.tr o3.2.2)
                   rw [hv]
                   rcases hz6 with ⟨w1, w2⟩ | ⟨w1, w2⟩
                   · first | omega | rw [if_pos ⟨fun _ => by omega, fun _ => w2⟩] | rw [if_neg (fun q => by have := q.mp w2; omega)]
                   · first | omega | rw [if_pos ⟨fun q => absurd q w2, fun q => by omega⟩] | rw [if_neg (fun q => absurd (q.mpr (by omega)) w2)])
                | (refine join _ _ ?_ oo kk; rw [hv]; omega)
                | (refine join _ _ ?_ ho hk; rw [hv]; omega)
              · refine z_iconst dX12_held_123 (by decide) ?_
                refine z_goto 128 dX12_held_124 (by decide) ?_
                refine z_iadd dX12_held_128 (by omega) ?_
                refine z_istore dX12_held_129 (by decide) rfl ?_
                dsimp only [List.set]
                first
                | (refine join _ _ ?_ (oo.tr o3.wr) (kk.tr o3.2.2)
                   rw [hv]
                   rcases hz6 with ⟨w1, w2⟩ | ⟨w1, w2⟩
                   · first | omega | rw [if_pos ⟨fun _ => by omega, fun _ => w2⟩] | rw [if_neg (fun q => by have := q.mp w2; omega)]
                   · first | omega | rw [if_pos ⟨fun q => absurd q w2, fun q => by omega⟩] | rw [if_neg (fun q => absurd (q.mpr (by omega)) w2)])
                | (refine join _ _ ?_ oo kk; rw [hv]; omega)
                | (refine join _ _ ?_ ho hk; rw [hv]; omega)
            · refine z_iconst dX12_held_115 (by decide) ?_
              refine z_goto 120 dX12_held_116 (by decide) ?_
              refine z_icmp_ne 127 dX12_held_120 (by decide) (fun h120 => ?_) (fun h120 => ?_)
              · refine z_iconst dX12_held_127 (by decide) ?_
                refine z_iadd dX12_held_128 (by omega) ?_
                refine z_istore dX12_held_129 (by decide) rfl ?_
                dsimp only [List.set]
                first
                | (refine join _ _ ?_ (oo.tr o3.wr) (kk.tr o3.2.2)
                   rw [hv]
                   rcases hz6 with ⟨w1, w2⟩ | ⟨w1, w2⟩
                   · first | omega | rw [if_pos ⟨fun _ => by omega, fun _ => w2⟩] | rw [if_neg (fun q => by have := q.mp w2; omega)]
                   · first | omega | rw [if_pos ⟨fun q => absurd q w2, fun q => by omega⟩] | rw [if_neg (fun q => absurd (q.mpr (by omega)) w2)])
                | (refine join _ _ ?_ oo kk; rw [hv]; omega)
                | (refine join _ _ ?_ ho hk; rw [hv]; omega)
              · refine z_iconst dX12_held_123 (by decide) ?_
                refine z_goto 128 dX12_held_124 (by decide) ?_
                refine z_iadd dX12_held_128 (by omega) ?_
                refine z_istore dX12_held_129 (by decide) rfl ?_
                dsimp only [List.set]
                first
                | (refine join _ _ ?_ (oo.tr o3.wr) (kk.tr o3.2.2)
                   rw [hv]
                   rcases hz6 with ⟨w1, w2⟩ | ⟨w1, w2⟩
                   · first | omega | rw [if_pos ⟨fun _ => by omega, fun _ => w2⟩] | rw [if_neg (fun q => by have := q.mp w2; omega)]
                   · first | omega | rw [if_pos ⟨fun q => absurd q w2, fun q => by omega⟩] | rw [if_neg (fun q => absurd (q.mpr (by omega)) w2)])
                | (refine join _ _ ?_ oo kk; rw [hv]; omega)
                | (refine join _ _ ?_ ho hk; rw [hv]; omega)
  refine z_iload_n dX12_held_0 rfl ?_
  refine z_iload_n dX12_held_1 rfl ?_
  refine z_S2i dX12_held_2 ok_X12_isPart lk_X12_196 (Nat.le_of_ble_eq_true rfl) (by decide) (cm_X12_isPart) (fun z1 m1 hq1 => ?_)
  obtain ⟨hz1, rfl⟩ := hq1
  refine z_if_eq 18 dX12_held_5 (by decide) (fun h5 => ?_) (fun h5 => ?_)
  · have no1 := hz1.no h5
    refine z_bipush dX12_held_18 (by decide) ?_
    refine z_iret dX12_held_20 rfl ?_
    first
    | exact ⟨rfl, _, rfl, ⟨fun _ => rfl, fun q => absurd q.1 no1⟩, onWr.rf, fun _ _ _ h => h⟩
    | exact ⟨rfl, _, rfl, ⟨fun _ => rfl, fun q => absurd q.2 no2⟩, onWr.rf, fun _ _ _ h => h⟩
  · have yes1 := hz1.yes h5
    refine z_iload_n dX12_held_8 rfl ?_
    refine z_i2l dX12_held_9 ?_
    refine z_lconst (z := 0) dX12_held_10 rfl (by decide) ?_
    refine z_lconst (z := 1) dX12_held_11 rfl (by decide) ?_
    refine z_S3i dX12_held_12 ok_X12_in lk_X12_97 (Nat.le_of_ble_eq_true rfl) (by decide) (cm_X12_in) (fun z2 m2 hq2 => ?_)
    obtain ⟨hz2, rfl⟩ := hq2
    refine z_if_ne 21 dX12_held_15 (by decide) (fun h15 => ?_) (fun h15 => ?_)
    · have yes2 := hz2.yes h15
      refine z_iconst dX12_held_21 (by decide) ?_
      refine z_istore dX12_held_22 (by decide) rfl ?_
      dsimp only [List.set]
      refine z_iconst dX12_held_24 (by decide) ?_
      refine z_istore dX12_held_25 (by decide) rfl ?_
      dsimp only [List.set]
      obtain ⟨a', rfl⟩ : ∃ a' : Nat, a = (a' : Int) := ⟨a.toNat, by omega⟩
      obtain ⟨b', rfl⟩ : ∃ b' : Nat, b = (b' : Int) := ⟨b.toNat, by omega⟩
      simp only [Int.toNat_natCast]
      exact loop a' b' 6 0 _ (by omega) ⟨yes1, yes2⟩ onWr.rf (fun _ _ _ h => h)
    · have no2 := hz2.no h15
      refine z_bipush dX12_held_18 (by decide) ?_
      refine z_iret dX12_held_20 rfl ?_
      first
      | exact ⟨rfl, _, rfl, ⟨fun _ => rfl, fun q => absurd q.1 no1⟩, onWr.rf, fun _ _ _ h => h⟩
      | exact ⟨rfl, _, rfl, ⟨fun _ => rfl, fun q => absurd q.2 no2⟩, onWr.rf, fun _ _ _ h => h⟩
end SureM
