/-! ===== tally ===== -/
theorem cnt_no {nw : Nat} {wd : Nat → Nat → Int} {R : List Nat} (hn : R.Nodup) (h6 : ∀ a ∈ R, a < 6) {g : Int → Int} {U : Nat} (h : ∀ k, ext R g U k → ¬ okK nw wd k = true) (P : KP) : cnt (andP (okK nw wd) P) R g U = 0 := by
  rw [cnt_eq (Q := fun _ => false) R hn h6 g U (fun k hk => ?_)]
  · exact cnt_none _ _ _
  · have q := h k hk
    unfold andP
    cases w : okK nw wd k
    · rfl
    · exact absurd w q
theorem cnt_ok {nw : Nat} {wd : Nat → Nat → Int} {R : List Nat} (hn : R.Nodup) (h6 : ∀ a ∈ R, a < 6) {g : Int → Int} {U : Nat} (h : ∀ k, ext R g U k → okK nw wd k = true) (P : KP) : cnt (andP (okK nw wd) P) R g U = cnt P R g U := by
  refine cnt_eq R hn h6 g U (fun k hk => ?_)
  unfold andP
  rw [h k hk, Bool.true_and]
section Tally
variable {X : Nat × (Int → Int)} {nw : Nat} {wd : Nat → Nat → Int}
theorem rest_fg {mem : Mem} {O R : List Nat} {U : Nat} (hs : frS mem O R U) (g : Int → Int) {l f : Nat} (hlR : l ∈ R) (hf : f < 10) : decide (0 < cnt (fgP l f) R g U) = !U.testBit f := by
  have hR := hs.nd
  have hR6 : ∀ a ∈ R, a < 6 := fun a ha => hs.lt ha
  have hlen := hs.1.len
  have hl := hR6 l hlR
  have hU := hs.2.2.2.2.2.1
  cases hb : U.testBit f
  · refine decide_eq_true ?_
    have hpe := List.perm_cons_erase hlR
    have hne := (List.Perm.nodup_iff hpe).mp hR
    rw [cnt_perm hpe hR]
    refine s10_pos.mpr ⟨f, hf, ?_⟩
    rw [hb, if_neg (by decide)]
    have hlt : ∀ a ∈ R.erase l, a < 6 := fun a ha => hR6 a (List.mem_of_mem_erase ha)
    rw [cnt_eq (P := fgP l f) (Q := fun _ => true) (R.erase l) (List.nodup_cons.mp hne).2 hlt (updF g (l : Int) (f : Int)) (U ||| 2 ^ f) (fun k hk => (decide_eq_true (by rw [hk.1 l hl (List.nodup_cons.mp hne).1, updF_eq]) : decide (k (l : Int) = (f : Int)) = true)), cnt_true, crd_or hb hf, hU]
    have hle := hpe.length_eq
    rw [List.length_cons] at hle
    exact fallN_pos _ _ (by omega)
  · refine decide_eq_false fun hp => ?_
    obtain ⟨k, hk, hkf⟩ := (cnt_pos (fgP_resp hl) R hR hR6 g U).mp hp
    obtain ⟨f', h1, h2, h3⟩ := hk.2.1 l hlR
    have := of_decide_eq_true hkf
    have hff : f' = f := by omega
    subst hff
    rw [hb] at h2
    cases h2
/-- what has been told of the free letters -/
def accR (mem m : Mem) (R : List Nat) (K : KP → Nat) : Prop := (∀ l ∈ R, bOr (mem 27 (l : Int)) (m 27 (l : Int)) (fun f => decide (0 < K (fgP l f)))) ∧ (∀ l : Nat, l < 6 → l ∉ R → m 27 (l : Int) = mem 27 (l : Int)) ∧ ∀ x, x ≠ 27 → m x = mem x
theorem accR.rf {mem : Mem} {R : List Nat} (h6 : ∀ a ∈ R, a < 6) (hb : bitsR mem) {K : KP → Nat} (hK : ∀ P, K P = 0) : accR mem mem R K := by
  refine ⟨fun l hl => bOr.rf (hb l (h6 l hl)) fun f _ => ?_, fun _ _ _ => rfl, fun _ _ => rfl⟩
  rw [hK]
  rfl
theorem accR.tr {mem m1 m2 : Mem} {R : List Nat} {K1 K2 K : KP → Nat} (h1 : accR mem m1 R K1) (h2 : accR m1 m2 R K2) (hK : ∀ P, K P = K1 P + K2 P) : accR mem m2 R K := by
  refine ⟨fun l hl => (h1.1 l hl).tr (h2.1 l hl) fun f _ => ?_, fun l a b => (h2.2.1 l a b).trans (h1.2.1 l a b), fun x hx => (h2.2.2 x hx).trans (h1.2.2 x hx)⟩
  rw [hK]
  by_cases q1 : 0 < K1 (fgP l f)
  · rw [decide_eq_true q1, Bool.true_or]
    exact decide_eq_true (by omega)
  · rw [decide_eq_false q1, Bool.false_or]
    by_cases q2 : 0 < K2 (fgP l f)
    · rw [decide_eq_true q2, decide_eq_true (by omega)]
    · rw [decide_eq_false q2, decide_eq_false (by omega)]
theorem accR.br {mem m : Mem} {R : List Nat} {K : KP → Nat} (h : accR mem m R K) (hb : bitsR mem) : bitsR m := fun l hl => by
  by_cases q : l ∈ R
  · obtain ⟨a, b, e1, e2, e3, e4, e5⟩ := h.1 l q
    exact ⟨b, e3, e4⟩
  · rw [h.2.1 l hl q]
    exact hb l hl
theorem wdC.o27 {mem m : Mem} (h : wdC mem nw wd) (e : ∀ x, x ≠ 27 → m x = mem x) : wdC m nw wd := ⟨h.1, by rw [e 22 (by decide)]; exact h.2.1, fun k i hk hi => by rw [e (23 + k) (by omega)]; exact h.2.2 k i hk hi⟩
/-- one figure for the letter a -/
def tlF (nw : Nat) (wd : Nat → Nat → Int) (P : KP) (R : List Nat) (g : Int → Int) (a U : Nat) (f : Nat) : Nat := if U.testBit f = true then 0 else cnt (andP (okK nw wd) P) R (updF g (a : Int) (f : Int)) (U ||| 2 ^ f)
abbrev tlQ (nw : Nat) (wd : Nat → Nat → Int) (mem : Mem) (R : List Nat) (U : Nat) : zPost := pI G0 fun z m => z = ((cnt (andP (okK nw wd) trP) R (mem 28) U : Nat) : Int) ∧ accR mem m R (fun P => cnt (andP (okK nw wd) P) R (mem 28) U)
theorem tally0 (r : Nat) {O R : List Nat} {U : Nat} {mem : Mem} (hs : frS mem O R U) (hop : opI nw wd (mem 28) R U 0) (hb : bitsR mem) : CM X (0, 0) (r + 2) mX10_tally G0 [vr 22, vi (O.length : Int), vi ((0 : Nat) : Int)] mem (tlQ nw wd mem R U) := by
  have key := fun P : KP => cnt_ok (P := P) hs.nd (fun a ha => hs.lt ha) (fun k hk => hop.all hk)
  refine CM.of (by decide +kernel) 5 (Nat.le_of_ble_eq_true rfl) ?_
  show ZZ X (0, 0) (r + 2) mX10_tally G0 0 [vr 22, vi (O.length : Int), vi ((0 : Nat) : Int), vd, vd, vd, vd, vd] [] mem _
  refine z_iload_n dX10_tally_0 rfl ?_
  refine z_if_ne 9 dX10_tally_1 (by decide) (fun h1 => ?_) (fun h1 => ?_)
  · omega
  · refine z_aload_n dX10_tally_4 rfl ?_
    refine z_V0i dX10_tally_5 ok_X10_countRest lk_X10_83 (by first | rfl | assumption) rfl rfl (Nat.le_of_ble_eq_true rfl) (by omega) (cm_X10_countRest hs hb) (fun z1 m1 hm1 => ?_)
    obtain ⟨hz1, q1, q2, q3⟩ := hm1
    refine z_iret dX10_tally_8 rfl ?_
    refine ⟨rfl, _, rfl, ?_, ⟨fun l hl => ?_, q2, q3⟩⟩
    · rw [hz1, key]
      show _ = ((cnt (fun _ => true) R (mem 28) U : Nat) : Int)
      rw [cnt_true, hs.2.2.2.2.2.1]
    · obtain ⟨a, b, e1, e2, e3, e4, e5⟩ := q1 l hl
      refine ⟨a, b, e1, e2, e3, e4, fun f hf => ?_⟩
      show _ = (_ || decide (0 < cnt (andP (okK nw wd) (fgP l f)) R (mem 28) U))
      rw [e5 f hf, key, rest_fg hs (mem 28) hl hf]
theorem cnt_at {R : List Nat} (hn : R.Nodup) (h6 : ∀ a ∈ R, a < 6) {a : Nat} (ha : a < 6) (hna : a ∉ R) (g : Int → Int) (U f h : Nat) : cnt (andP (okK nw wd) (fgP a h)) R (updF g (a : Int) (f : Int)) U = if f = h then cnt (andP (okK nw wd) trP) R (updF g (a : Int) (f : Int)) U else 0 := by
  by_cases q : f = h
  · subst q
    rw [if_pos rfl]
    refine cnt_eq R hn h6 _ _ (fun k hk => ?_)
    unfold andP fgP trP
    rw [hk.1 a ha hna, updF_eq, decide_eq_true rfl]
  · rw [if_neg q, cnt_eq (Q := fun _ => false) R hn h6 _ _ (fun k hk => ?_)]
    · exact cnt_none _ _ _
    · unfold andP fgP
      rw [hk.1 a ha hna, updF_eq, decide_eq_false (by omega), Bool.and_false]
theorem cm_X10_tally : ∀ (r : Nat) (O R : List Nat) (U S : Nat) (mem : Mem), R.length = r → wdC mem nw wd → wdR nw wd → frS mem O R U → opI nw wd (mem 28) R U S → bitsR mem → CM X (0, 0) (r + 2) mX10_tally G0 [vr 22, vi (O.length : Int), vi (S : Int)] mem (tlQ nw wd mem R U) := by
  intro r
  induction r with
  | zero =>
    intro O R U S mem hr0 hf hr hs hop hb
    have h0 : S = 0 := by
      refine Classical.byContradiction fun q => ?_
      obtain ⟨a, ha⟩ := hop.some q
      rw [List.length_eq_zero_iff.mp hr0] at ha
      exact absurd ha List.not_mem_nil
    subst h0
    exact tally0 0 hs hop hb
  | succ r ihr =>
    intro O R U S mem hr1 hf hr hs hop hb
    by_cases h0 : S = 0
    · subst h0
      exact tally0 (r + 1) hs hop hb
    have hlen := hs.1.len
    have hU := hs.2.2.2.2.1
    have hR6 : ∀ a ∈ R, a < 6 := fun a ha => hs.lt ha
    have main : ∀ a : Nat, a ∈ R → ∀ (e f : Nat) (m : Mem) (u6 u7 : VV), f + e = 10 → accR mem m R (fun P => s10 (tlF nw wd P (R.erase a) (mem 28) a U) f) → ZZ X (0, 0) (r + 1 + 2) mX10_tally G0 31 [vr 22, vi (O.length : Int), vi (S : Int), vi (a : Int), vi ((s10 (tlF nw wd trP (R.erase a) (mem 28) a U) f : Nat) : Int), vi (f : Int), u6, u7] [] m (tlQ nw wd mem R U) := by
      intro a ha
      have ha6 := hR6 a ha
      have hpe := List.perm_cons_erase ha
      have hne := (List.Perm.nodup_iff hpe).mp hs.nd
      have hna : a ∉ R.erase a := (List.nodup_cons.mp hne).1
      have hnd' : (R.erase a).Nodup := (List.nodup_cons.mp hne).2
      have hE6 : ∀ b ∈ R.erase a, b < 6 := fun b hb => hR6 b (List.mem_of_mem_erase hb)
      have hEl : (R.erase a).length = r := by
        have := hpe.length_eq
        rw [List.length_cons] at this
        omega
      have hcn : ∀ P : KP, cnt (andP (okK nw wd) P) R (mem 28) U = s10 (tlF nw wd P (R.erase a) (mem 28) a U) 10 := fun P => by
        rw [cnt_perm hpe hs.nd]
        rfl
      have hbd : s10 (tlF nw wd trP (R.erase a) (mem 28) a U) 10 ≤ 1000000 := by
        rw [← hcn]
        refine Nat.le_trans (cnt_le _ _ _ _) (Nat.le_trans (fallN_le _ _) ?_)
        exact Nat.le_trans (Nat.pow_le_pow_right (by decide) (show R.length ≤ 6 by omega)) (by decide)
      intro e
      induction e with
      | zero =>
        intro f m u6 u7 hfe hac
        have : f = 10 := by omega
        subst this
        refine z_iload dX10_tally_31 rfl ?_
        refine z_bipush dX10_tally_33 (by decide) ?_
        refine z_icmp_ge 130 dX10_tally_35 (by decide) (fun h35 => ?_) (fun h35 => ?_)
        · refine z_iload dX10_tally_130 rfl ?_
          refine z_iret dX10_tally_132 rfl ?_
          refine ⟨rfl, _, rfl, by rw [hcn], ?_⟩
          have e : (fun P : KP => cnt (andP (okK nw wd) P) R (mem 28) U) = fun P => s10 (tlF nw wd P (R.erase a) (mem 28) a U) 10 := funext fun P => hcn P
          rw [e]
          exact hac
        · omega
      | succ e ih =>
        intro f m u6 u7 hfe hac
        have hf10 : f < 10 := by omega
        have e28 : m 28 = mem 28 := hac.2.2 28 (by decide)
        have hsm : frS m O R U := hs.off e28 (hac.2.2 29 (by decide)) (by rw [hac.2.2 22 (by decide)])
        have h22 : m 22 10 = (U : Int) := hsm.2.2.2.1
        have hbm := hac.br hb
        have hfm := hf.o27 hac.2.2
        have hbit := bit_at (n := U) (w := f) (by omega) (by omega)
        have hst : s10 (tlF nw wd trP (R.erase a) (mem 28) a U) (f + 1) = s10 (tlF nw wd trP (R.erase a) (mem 28) a U) f + tlF nw wd trP (R.erase a) (mem 28) a U f := rfl
        have hmono := s10_mono (F := tlF nw wd trP (R.erase a) (mem 28) a U) (a := f + 1) (b := 10) (by omega)
        have h2p : 2 ^ f ≤ 2 ^ 9 := Nat.pow_le_pow_right (by decide) (by omega)
        have nxt : ∀ (m' : Mem) (t : Nat) (u6 u7 : VV), t = s10 (tlF nw wd trP (R.erase a) (mem 28) a U) (f + 1) → accR m m' R (fun P => tlF nw wd P (R.erase a) (mem 28) a U f) → ZZ X (0, 0) (r + 1 + 2) mX10_tally G0 124 [vr 22, vi (O.length : Int), vi (S : Int), vi (a : Int), vi (t : Int), vi (f : Int), u6, u7] [] m' (tlQ nw wd mem R U) := by
          intro m' t u6 u7 ht hac'
          subst ht
          refine z_iinc dX10_tally_124 rfl (by omega) (by decide) rfl ?_
          dsimp only [List.set]
          refine z_goto 31 dX10_tally_127 (by decide) ?_
          exact ih (f + 1) m' u6 u7 (by omega) (hac.tr hac' fun P => rfl)
        have join : ∀ (m' : Mem) (w : Nat) (z6 : Int) (u7 : VV), U.testBit f = false → w = cnt (andP (okK nw wd) trP) (R.erase a) (updF (mem 28) (a : Int) (f : Int)) (U ||| 2 ^ f) → accR (gvM m a f U) m' (R.erase a) (fun P => cnt (andP (okK nw wd) P) (R.erase a) (updF (mem 28) (a : Int) (f : Int)) (U ||| 2 ^ f)) → ZZ X (0, 0) (r + 1 + 2) mX10_tally G0 88 [vr 22, vi (O.length : Int), vi (S : Int), vi (a : Int), vi ((s10 (tlF nw wd trP (R.erase a) (mem 28) a U) f : Nat) : Int), vi (f : Int), vi z6, u7] [vi (w : Int)] m' (tlQ nw wd mem R U) := by
          intro m' w z6 u7 htb hw hac'
          have hF : ∀ P : KP, tlF nw wd P (R.erase a) (mem 28) a U f = cnt (andP (okK nw wd) P) (R.erase a) (updF (mem 28) (a : Int) (f : Int)) (U ||| 2 ^ f) := fun P => by
            unfold tlF
            rw [htb, if_neg (by decide)]
          have hFw := hF trP
          rw [← hw] at hFw
          have h27 : tbM m' a U 27 = m' 27 := by
            unfold tbM
            rw [mset_ne _ (by decide), mset_ne _ (by decide), mset_ne _ (by decide)]
          have hg27 : gvM m a f U 27 = m 27 := gvN _ _ _ _ (by decide) (by decide) (by decide)
          have hx : ∀ x, x ≠ 27 → tbM m' a U x = m x := tb_gv hsm ha (fun x => x ≠ 27) (fun x hx => hac'.2.2 x hx)
          obtain ⟨b0, hb0, hb0'⟩ := hbm a ha6
          have hma : m' 27 (a : Int) = (b0 : Int) := by rw [hac'.2.1 a ha6 hna, hg27]; exact hb0
          have h28' : m' 28 (a : Int) = (f : Int) := by rw [hac'.2.2 28 (by decide), gv28, updF_eq]
          have h22' : m' 22 10 = ((U ||| 2 ^ f : Nat) : Int) := by rw [hac'.2.2 22 (by decide), gv22]
          have put : ∀ c : Nat, c < 1024 → (∀ h : Nat, h < 10 → c.testBit h = (b0.testBit h || decide (0 < if f = h then w else 0))) → ZZ X (0, 0) (r + 1 + 2) mX10_tally G0 116 [vr 22, vi (O.length : Int), vi (S : Int), vi (a : Int), vi ((s10 (tlF nw wd trP (R.erase a) (mem 28) a U) f : Nat) : Int), vi (f : Int), vi z6, vi (w : Int)] [vi (c : Int), vi (a : Int), vr 27] (tbM m' a U) (tlQ nw wd mem R U) := by
            intro c hc hcb
            refine z_iast dX10_tally_116 (by first | rfl | assumption) (by omega) (by omega) ?_
            refine z_iload dX10_tally_117 rfl ?_
            refine z_iload dX10_tally_119 rfl ?_
            refine z_iadd dX10_tally_121 (by omega) ?_
            refine z_istore dX10_tally_122 (by decide) rfl ?_
            dsimp only [List.set]
            rw [show ((s10 (tlF nw wd trP (R.erase a) (mem 28) a U) f : Nat) : Int) + (w : Int) = ((s10 (tlF nw wd trP (R.erase a) (mem 28) a U) f + w : Nat) : Int) by omega]
            refine nxt _ _ _ _ (by omega) ⟨fun l hl => ?_, fun l hl hn => ?_, fun x hx' => ?_⟩
            · by_cases q : l = a
              · subst q
                rw [mset_eq]
                refine ⟨b0, c, hb0, hb0', rfl, hc, fun h hh => ?_⟩
                show _ = (_ || decide (0 < tlF nw wd (fgP l h) (R.erase l) (mem 28) l U f))
                rw [hcb h hh, hF, cnt_at hnd' hE6 ha6 hna, ← hw]
              · rw [mset_nej _ _ (by omega), h27]
                have q2 : l ∈ R.erase a := (List.mem_erase_of_ne q).mpr hl
                have := hac'.1 l q2
                rw [hg27] at this
                simp only [hF]
                exact this
            · have q : l ≠ a := fun t => hn (t ▸ ha)
              rw [mset_nej _ _ (by omega), h27, hac'.2.1 l hl (fun t => hn (List.mem_of_mem_erase t)), hg27]
            · rw [mset_ne _ hx']
              exact hx x hx'
          refine z_kill 7 ?_
          dsimp only [List.set]
          refine z_istore dX10_tally_88 (by decide) rfl ?_
          dsimp only [List.set]
          refine z_aload_n dX10_tally_90 rfl ?_
          refine z_iload_n dX10_tally_91 rfl ?_
          refine z_V1v dX10_tally_92 ok_X10_takeBack lk_X10_93 (by first | rfl | assumption) rfl rfl (Nat.le_of_ble_eq_true rfl) (by omega) (cm_X10_takeBack (U := U) ha6 hf10 hU htb h28' h22') (fun m2 hm2 => ?_)
          subst hm2
          refine z_aload_n dX10_tally_95 rfl ?_
          refine z_getR (ty := .int) dX10_tally_96 fl_X10_24 (by first | rfl | assumption) rfl rfl ?_
          refine z_iload_n dX10_tally_99 rfl ?_
          refine z_dup2 dX10_tally_100 (by intro z q; cases q) (by intro z q; cases q) ?_
          refine z_iald dX10_tally_101 (by first | rfl | assumption) (by omega) (by omega) ?_
          rw [h27, hma]
          refine z_iload dX10_tally_102 rfl ?_
          refine z_if_le 114 dX10_tally_104 (by decide) (fun h104 => ?_) (fun h104 => ?_)
          · have hw0 : w = 0 := by omega
            refine z_iconst dX10_tally_114 (by decide) ?_
            first
            | (refine z_ior dX10_tally_115 ?_
               rw [ior_nat (by omega) (by omega)]
               refine put (b0 ||| 2 ^ f) (or_lt2 hb0' (by omega)) (fun h hh => ?_)
               rw [tb_or]
               by_cases q : f = h
               · rw [if_pos q, decide_eq_true hw1, decide_eq_true q]
               · rw [if_neg q, decide_eq_false q]
                 rfl)
            | (refine z_ior dX10_tally_115 ?_
               rw [ior_0 (by omega)]
               refine put b0 hb0' (fun h hh => ?_)
               rw [hw0, show (if f = h then 0 else 0) = 0 from ite_self 0, decide_eq_false (Nat.lt_irrefl 0), Bool.or_false])
          · have hw1 : 0 < w := by omega
            refine z_iconst dX10_tally_107 (by decide) ?_
            refine z_iload dX10_tally_108 rfl ?_
            refine z_ishl dX10_tally_110 ?_
            rw [shl1' (by omega)]
            refine z_goto 115 dX10_tally_111 (by decide) ?_
            first
            | (refine z_ior dX10_tally_115 ?_
               rw [ior_nat (by omega) (by omega)]
               refine put (b0 ||| 2 ^ f) (or_lt2 hb0' (by omega)) (fun h hh => ?_)
               rw [tb_or]
               by_cases q : f = h
               · rw [if_pos q, decide_eq_true hw1, decide_eq_true q]
               · rw [if_neg q, decide_eq_false q]
                 rfl)
            | (refine z_ior dX10_tally_115 ?_
               rw [ior_0 (by omega)]
               refine put b0 hb0' (fun h hh => ?_)
               rw [hw0, show (if f = h then 0 else 0) = 0 from ite_self 0, decide_eq_false (Nat.lt_irrefl 0), Bool.or_false])
        refine z_kill 6 ?_
        refine z_kill 7 ?_
        dsimp only [List.set]
        refine z_iload dX10_tally_31 rfl ?_
        refine z_bipush dX10_tally_33 (by decide) ?_
        refine z_icmp_ge 130 dX10_tally_35 (by decide) (fun h35 => ?_) (fun h35 => ?_)
        · omega
        · refine z_iload_n dX10_tally_38 rfl ?_
          refine z_iconst dX10_tally_39 (by decide) ?_
          refine z_icmp_eq 130 dX10_tally_40 (by decide) (fun h40 => ?_) (fun h40 => ?_)
          · omega
          · refine z_aload_n dX10_tally_43 rfl ?_
            refine z_gI 10 dX10_tally_44 fl_X10_76 (by first | rfl | assumption) rfl rfl ?_
            rw [h22]
            refine z_iload dX10_tally_47 rfl ?_
            refine z_ishr dX10_tally_49 ?_
            refine z_iconst dX10_tally_50 (by decide) ?_
            refine z_iand dX10_tally_51 ?_
            rw [hbit]
            refine z_if_ne 124 dX10_tally_52 (by decide) (fun h52 => ?_) (fun h52 => ?_)
            · have htb : U.testBit f = true := by rw [tb_dm]; exact decide_eq_true (by omega)
              exact nxt _ _ _ _ (by rw [hst]; unfold tlF; rw [htb, if_pos rfl]; rfl) (accR.rf hR6 hbm fun P => by unfold tlF; rw [htb, if_pos rfl])
            · have htb : U.testBit f = false := by rw [tb_dm]; exact decide_eq_false (by omega)
              have hgs := hsm.give ha hf10 htb
              have hfg : wdC (gvM m a f U) nw wd := hfm.os (onSk.gv a f U)
              have g28 : gvM m a f U 28 = updF (mem 28) (a : Int) (f : Int) := by rw [gv28, e28]
              have hbg : bitsR (gvM m a f U) := fun l hl => by rw [gvN _ _ _ _ (by decide) (by decide) (by decide)]; exact hbm l hl
              refine z_aload_n dX10_tally_55 rfl ?_
              refine z_iload_n dX10_tally_56 rfl ?_
              refine z_iload dX10_tally_57 rfl ?_
              refine z_V2v dX10_tally_59 ok_X10_give lk_X10_89 (by first | rfl | assumption) rfl rfl (Nat.le_of_ble_eq_true rfl) (by omega) (cm_X10_give (U := U) ha6 hf10 h22 hU) (fun m1 hm1 => ?_)
              subst hm1
              refine z_aload_n dX10_tally_62 rfl ?_
              refine z_iload_n dX10_tally_63 rfl ?_
              refine z_V1i dX10_tally_64 ok_X10_undecided lk_X10_79 (by first | rfl | assumption) rfl rfl (Nat.le_of_ble_eq_true rfl) (by omega) (cm_X10_undecided hfg hr hgs hop.1 (fun w hw hb k hk => hop.2.1 w hw hb k (by rw [← e28]; exact ext_put hsm ha hf10 htb (by rw [gv28] at hk; exact hk)))) (fun z2 m2 hm2 => ?_)
              obtain ⟨q2, hmm⟩ := hm2
              subst hmm
              rw [g28] at q2
              refine z_istore dX10_tally_67 (by decide) rfl ?_
              dsimp only [List.set]
              refine z_iload dX10_tally_69 rfl ?_
              refine z_iconst dX10_tally_71 (by decide) ?_
              refine z_icmp_ne 79 dX10_tally_72 (by decide) (fun h72 => ?_) (fun h72 => ?_)
              · obtain ⟨S', hS', hop'⟩ : ∃ S' : Nat, z2 = (S' : Int) ∧ opI nw wd (updF (mem 28) (a : Int) (f : Int)) (R.erase a) (U ||| 2 ^ f) S' := by
                  rcases q2 with q | q
                  · exact absurd q.1 h72
                  · exact q
                subst hS'
                rw [← g28] at hop'
                refine z_aload_n dX10_tally_79 rfl ?_
                refine z_iload_n dX10_tally_80 rfl ?_
                refine z_iconst dX10_tally_81 (by decide) ?_
                refine z_iadd dX10_tally_82 (by omega) ?_
                rw [show (O.length : Int) + 1 = (((O ++ [a]).length : Nat) : Int) by rw [List.length_append]; rfl]
                refine z_iload dX10_tally_83 rfl ?_
                refine z_S3i dX10_tally_85 ok_X10_tally lk_X10_64 (Nat.le_of_ble_eq_true rfl) (by omega) (ihr (O ++ [a]) (R.erase a) (U ||| 2 ^ f) S' _ hEl hfg hr hgs hop' hbg) (fun z3 m3 hm3 => ?_)
                obtain ⟨hz3, ac3⟩ := hm3
                rw [g28] at hz3 ac3
                subst hz3
                first
                | exact join _ _ _ _ htb rfl ac3
                | exact join _ 0 _ _ htb (hz0 trP).symm (accR.rf hE6 hbg hz0)
              · have hno : ∀ k, ext (R.erase a) (updF (mem 28) (a : Int) (f : Int)) (U ||| 2 ^ f) k → ¬ okK nw wd k = true := by
                  rcases q2 with q | ⟨S', q, -⟩
                  · exact q.2
                  · omega
                have hz0 : ∀ P, cnt (andP (okK nw wd) P) (R.erase a) (updF (mem 28) (a : Int) (f : Int)) (U ||| 2 ^ f) = 0 := cnt_no hnd' hE6 hno
                refine z_iconst dX10_tally_75 (by decide) ?_
                refine z_goto 88 dX10_tally_76 (by decide) ?_
                first
                | exact join _ _ _ _ htb rfl ac3
                | exact join _ 0 _ _ htb (hz0 trP).symm (accR.rf hE6 hbg hz0)
    refine CM.of (by decide +kernel) 5 (Nat.le_of_ble_eq_true rfl) ?_
    show ZZ X (0, 0) (r + 1 + 2) mX10_tally G0 0 [vr 22, vi (O.length : Int), vi (S : Int), vd, vd, vd, vd, vd] [] mem _
    refine z_iload_n dX10_tally_0 rfl ?_
    refine z_if_ne 9 dX10_tally_1 (by decide) (fun h1 => ?_) (fun h1 => ?_)
    · refine z_iload_n dX10_tally_9 rfl ?_
      refine z_bipush dX10_tally_10 (by decide) ?_
      refine z_icmp_ge 23 dX10_tally_12 (by decide) (fun h12 => ?_) (fun h12 => ?_)
      · omega
      · refine z_aload_n dX10_tally_15 rfl ?_
        refine z_iload_n dX10_tally_16 rfl ?_
        refine z_V1i dX10_tally_17 ok_X10_freeLetterOf lk_X10_86 (by first | rfl | assumption) rfl rfl (Nat.le_of_ble_eq_true rfl) (by omega) (cm_X10_freeLetterOf hf hr hs hop h0) (fun z1 m1 hm1 => ?_)
        obtain ⟨⟨a, ha, hz1⟩, hmm⟩ := hm1
        subst m1
        subst hz1
        refine z_goto 24 dX10_tally_20 (by decide) ?_
        refine z_istore_n dX10_tally_24 (by decide) rfl ?_
        dsimp only [List.set]
        refine z_iconst dX10_tally_25 (by decide) ?_
        refine z_istore dX10_tally_26 (by decide) rfl ?_
        dsimp only [List.set]
        refine z_iconst dX10_tally_28 (by decide) ?_
        refine z_istore dX10_tally_29 (by decide) rfl ?_
        dsimp only [List.set]
        exact main a ha 10 0 mem _ _ (by omega) (accR.rf hR6 hb fun _ => rfl)
    · omega
end Tally
