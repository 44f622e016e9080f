/-! ===== the reference finds its keys ===== -/
def tsF (F : Nat → Nat) : Nat → Nat → Nat
  | _, 0 => 0
  | f, e + 1 => F f + tsF F (f + 1) e
theorem tsF_s10 (F : Nat → Nat) : ∀ e f : Nat, s10 F f + tsF F f e = s10 F (f + e)
  | 0, f => rfl
  | e + 1, f => by
    have ih := tsF_s10 F e (f + 1)
    have h1 : s10 F (f + 1) = s10 F f + F f := rfl
    rw [show f + 1 + e = f + (e + 1) by omega] at ih
    show s10 F f + (F f + tsF F (f + 1) e) = _
    omega
theorem tsF_all (F : Nat → Nat) : tsF F 0 10 = s10 F 10 := by
  have := tsF_s10 F 10 0
  have h0 : s10 F 0 = 0 := rfl
  rw [show 0 + 10 = 10 from rfl] at this
  omega
theorem tsF_congr {F H : Nat → Nat} (h : ∀ i, F i = H i) (f e : Nat) : tsF F f e = tsF H f e := by
  rw [show F = H from funext h]
def fkF (nw : Nat) (wd : Nat → Nat → Int) (g : Int → Int) (d U : Nat) (P : KP) : Nat → Nat := fun f => if U.testBit f = true then 0 else cnt (andP (okK nw wd) P) (six.drop (d + 1)) (updF g (d : Int) (f : Int)) (U ||| 2 ^ f)
theorem six_drop : ∀ d : Fin 6, six.drop d.val = d.val :: six.drop (d.val + 1) := by decide
theorem six_out : ∀ a d : Fin 6, a.val ∉ six.drop (d.val + 1) → a.val ≤ d.val := by decide
section FK
variable {X : Nat × (Int → Int)} {mem : Mem} {nw : Nat} {wd : Nat → Nat → Int} {c n : Nat}
theorem fkF_cnt {d : Nat} (hd : d < 6) (g : Int → Int) (U : Nat) (P : KP) : cnt (andP (okK nw wd) P) (six.drop d) g U = s10 (fkF nw wd g d U P) 10 := by
  rw [six_drop ⟨d, hd⟩]
  rfl
theorem fkF_congr {d U : Nat} (hd : d < 6) {g g' : Int → Int} {P : KP} (hP : resp P) (h : ∀ a : Nat, a < d → g (a : Int) = g' (a : Int)) (f : Nat) : fkF nw wd g d U P f = fkF nw wd g' d U P f := by
  unfold fkF
  rw [cnt_congr (resp_and (okK_resp nw wd) hP) (six.drop (d + 1)) (updF g (d : Int) (f : Int)) (updF g' (d : Int) (f : Int)) (U ||| 2 ^ f) fun a ha hn => ?_]
  have hle := six_out ⟨a, ha⟩ ⟨d, hd⟩ hn
  dsimp only at hle
  by_cases q : a = d
  · subst q; rw [updF_eq, updF_eq]
  · rw [updF_ne _ _ (by omega), updF_ne _ _ (by omega)]
    exact h a (by omega)
theorem updF_self {g : Int → Int} {j v : Int} (h : g j = v) : updF g j v = g := by
  funext i
  unfold updF
  by_cases q : i = j
  · rw [if_pos q, q, h]
  · rw [if_neg q]
theorem wdM.ky {m : Mem} (h : wdM mem nw wd) (ho : onKy mem m) : wdM m nw wd := ⟨h.1, (ho.2 13 (by decide) (by decide) (by decide) (by decide) (by decide)).trans h.2.1, fun k i hk hi => by rw [ho.1 95 (by decide) (by decide) (by decide)]; exact h.2.2 k i hk hi⟩
def fkQ (nw : Nat) (wd : Nat → Nat → Int) (c n : Nat) (mem : Mem) : Mem → Prop := fun m => stR m c n (fun P => keyC nw wd P) ∧ onKy mem m
theorem fk91 (hf : wdM mem nw wd) (hr : wdR nw wd) (hl : n ≤ 4) (hc : c < 1296) : ∀ (r d : Nat), d + r = 5 → ∀ (e f : Nat), f + e = 10 → ∀ (m : Mem) (U : Nat) (K : KP → Nat), m 96 (d : Int) = (f : Int) → (∀ a : Nat, a < d → 0 ≤ m 96 (a : Int) ∧ m 96 (a : Int) ≤ 9) → U < 1024 → K trP + tsF (fkF nw wd (m 96) d U trP) f e ≤ 500000 → stR m c n K → onKy mem m → (∀ (m' : Mem) (K' : KP → Nat), (∀ a : Nat, a < d → m' 96 (a : Int) = m 96 (a : Int)) → stR m' c n K' → (∀ P, resp P → K' P = K P + tsF (fkF nw wd (m 96) d U P) f e) → onKy mem m' → ZZ X (0, 0) 2 mX12_findKeys G0 48 [vr 88, vi (n : Int), vi (c : Int), vi ((d : Int) - 1), vi (U : Int)] [] m' (pV G0 (fkQ nw wd c n mem))) → ZZ X (0, 0) 2 mX12_findKeys G0 91 [vr 88, vi (n : Int), vi (c : Int), vi (d : Int), vi (U : Int)] [] m (pV G0 (fkQ nw wd c n mem)) := by
  intro r
  induction r with
  | zero =>
    intro d hd e
    induction e with
    | zero =>
      intro f hfe m U K hk hfig hU hbd hst ho kont
      have : f = 10 := by omega
      subst this
      have k0 := kont m K (fun _ _ => rfl) hst (fun P _ => rfl) ho
      refine z_aload_n dX12_findKeys_91 rfl ?_
      refine z_getR (ty := .int) dX12_findKeys_92 fl_X12_31 (by first | rfl | assumption) rfl rfl ?_
      refine z_iload_n dX12_findKeys_95 rfl ?_
      refine z_iald dX12_findKeys_96 (by first | rfl | assumption) (by omega) (by omega) ?_
      rw [hk]
      refine z_bipush dX12_findKeys_97 (by decide) ?_
      refine z_icmp_ge 130 dX12_findKeys_99 (by decide) (fun h99 => ?_) (fun h99 => ?_)
      · refine z_aload_n dX12_findKeys_130 rfl ?_
        refine z_getR (ty := .int) dX12_findKeys_131 fl_X12_31 (by first | rfl | assumption) rfl rfl ?_
        refine z_iload_n dX12_findKeys_134 rfl ?_
        refine z_iald dX12_findKeys_135 (by first | rfl | assumption) (by omega) (by omega) ?_
        rw [hk]
        refine z_bipush dX12_findKeys_136 (by decide) ?_
        refine z_icmp_ne 147 dX12_findKeys_138 (by decide) (fun h138 => ?_) (fun h138 => ?_)
        · omega
        · refine z_iinc dX12_findKeys_141 rfl (by omega) (by decide) rfl ?_
          dsimp only [List.set]
          refine z_goto 48 dX12_findKeys_144 (by decide) ?_
          rw [show (d : Int) + -1 = (d : Int) - 1 by omega]
          exact k0
      · omega
    | succ e ihe =>
      intro f hfe m U K hk hfig hU hbd hst ho kont
      have hd6 : d < 6 := by omega
      have hbit := bit_at (n := U) (w := f) (by omega) (by omega)
      have h2f : 2 ^ f ≤ 2 ^ 9 := Nat.pow_le_pow_right (by decide) (by omega)
      have hts : ∀ P, tsF (fkF nw wd (m 96) d U P) f (e + 1) = fkF nw wd (m 96) d U P f + tsF (fkF nw wd (m 96) d U P) (f + 1) e := fun P => rfl
      rw [hts] at hbd
      have step : ∀ (m1 : Mem) (K1 : KP → Nat), (∀ a : Nat, a < d → m1 96 (a : Int) = m 96 (a : Int)) → stR m1 c n K1 → onKy mem m1 → (∀ P, resp P → K1 P = K P + fkF nw wd (m 96) d U P f) → ZZ X (0, 0) 2 mX12_findKeys G0 91 [vr 88, vi (n : Int), vi (c : Int), vi (d : Int), vi (U : Int)] [] (mset m1 96 (d : Int) ((f : Int) + 1)) (pV G0 (fkQ nw wd c n mem)) := by
        intro m1 K1 a1 s1 o1 k1
        have ag : ∀ a : Nat, a < d → mset m1 96 (d : Int) ((f : Int) + 1) 96 (a : Int) = m 96 (a : Int) := fun a ha => by rw [mset_nej _ _ (by omega)]; exact a1 a ha
        have hcg : ∀ P, resp P → tsF (fkF nw wd (mset m1 96 (d : Int) ((f : Int) + 1) 96) d U P) (f + 1) e = tsF (fkF nw wd (m 96) d U P) (f + 1) e := fun P hP => tsF_congr (fkF_congr hd6 hP ag) _ _
        refine ihe (f + 1) (by omega) (mset m1 96 (d : Int) ((f : Int) + 1)) U K1 (mset_eq _ _ _ _) (fun a ha => by rw [ag a ha]; exact hfig a ha) hU (by rw [hcg _ trP_resp, k1 _ trP_resp]; omega) (s1.off (mset_ne _ (by decide) _ _) (mset_ne _ (by decide) _ _)) (o1.tr ⟨fun x _ h2 _ => mset_ne _ h2 _ _, fun j _ _ _ _ _ => by rw [mset_ne _ (by decide)]⟩) (fun m' K' h1 h2 h3 h4 => kont m' K' (fun a ha => (h1 a ha).trans (ag a ha)) h2 (fun P hP => by rw [h3 P hP, hcg P hP, k1 P hP, hts]; omega) h4)
      have again : U.testBit f = false → ∀ (m1 : Mem) (K1 : KP → Nat), (∀ a : Nat, a < d → m1 96 (a : Int) = m 96 (a : Int)) → m1 96 (d : Int) = (f : Int) → stR m1 c n K1 → onKy mem m1 → (∀ P, resp P → K1 P = K P + fkF nw wd (m 96) d U P f) → ZZ X (0, 0) 2 mX12_findKeys G0 48 [vr 88, vi (n : Int), vi (c : Int), vi (d : Int), vi ((U ||| 2 ^ f : Nat) : Int)] [] m1 (pV G0 (fkQ nw wd c n mem)) := by
        intro htb m1 K1 a1 d1 s1 o1 k1
        have st := step m1 K1 a1 s1 o1 k1
        have hclr := iand_clr ⟨U, hU⟩ ⟨f, by omega⟩ htb
        dsimp only at hclr
        have hx := ixor_m1 ⟨2 ^ f, by omega⟩
        dsimp only at hx
        refine z_iload_n dX12_findKeys_48 rfl ?_
        refine z_if_lt 192 dX12_findKeys_49 (by decide) (fun h49 => ?_) (fun h49 => ?_)
        · omega
        · refine z_iload dX12_findKeys_52 rfl ?_
          refine z_aload_n dX12_findKeys_54 rfl ?_
          refine z_getR (ty := .int) dX12_findKeys_55 fl_X12_31 (by first | rfl | assumption) rfl rfl ?_
          refine z_iload_n dX12_findKeys_58 rfl ?_
          refine z_iald dX12_findKeys_59 (by first | rfl | assumption) (by omega) (by omega) ?_
          rw [d1]
          refine z_iconst dX12_findKeys_60 (by decide) ?_
          refine z_icmp_ne 68 dX12_findKeys_61 (by decide) (fun h61 => ?_) (fun h61 => ?_)
          · refine z_iconst dX12_findKeys_68 (by decide) ?_
            refine z_aload_n dX12_findKeys_69 rfl ?_
            refine z_getR (ty := .int) dX12_findKeys_70 fl_X12_31 (by first | rfl | assumption) rfl rfl ?_
            refine z_iload_n dX12_findKeys_73 rfl ?_
            refine z_iald dX12_findKeys_74 (by first | rfl | assumption) (by omega) (by omega) ?_
            rw [d1]
            refine z_ishl dX12_findKeys_75 ?_
            rw [shl1' (by omega)]
            refine z_iconst dX12_findKeys_76 (by decide) ?_
            refine z_ixor dX12_findKeys_77 ?_
            rw [hx]
            refine z_iand dX12_findKeys_78 ?_
            rw [hclr]
            refine z_istore dX12_findKeys_79 (by decide) rfl ?_
            dsimp only [List.set]
            refine z_aload_n dX12_findKeys_81 rfl ?_
            refine z_getR (ty := .int) dX12_findKeys_82 fl_X12_31 (by first | rfl | assumption) rfl rfl ?_
            refine z_iload_n dX12_findKeys_85 rfl ?_
            refine z_dup2 dX12_findKeys_86 (by intro z q; cases q) (by intro z q; cases q) ?_
            refine z_iald dX12_findKeys_87 (by first | rfl | assumption) (by omega) (by omega) ?_
            rw [d1]
            refine z_iconst dX12_findKeys_88 (by decide) ?_
            refine z_iadd dX12_findKeys_89 (by omega) ?_
            refine z_iast dX12_findKeys_90 (by first | rfl | assumption) (by omega) (by omega) ?_
            exact st
          · omega
      refine z_aload_n dX12_findKeys_91 rfl ?_
      refine z_getR (ty := .int) dX12_findKeys_92 fl_X12_31 (by first | rfl | assumption) rfl rfl ?_
      refine z_iload_n dX12_findKeys_95 rfl ?_
      refine z_iald dX12_findKeys_96 (by first | rfl | assumption) (by omega) (by omega) ?_
      rw [hk]
      refine z_bipush dX12_findKeys_97 (by decide) ?_
      refine z_icmp_ge 130 dX12_findKeys_99 (by decide) (fun h99 => ?_) (fun h99 => ?_)
      · omega
      · refine z_iload dX12_findKeys_102 rfl ?_
        refine z_aload_n dX12_findKeys_104 rfl ?_
        refine z_getR (ty := .int) dX12_findKeys_105 fl_X12_31 (by first | rfl | assumption) rfl rfl ?_
        refine z_iload_n dX12_findKeys_108 rfl ?_
        refine z_iald dX12_findKeys_109 (by first | rfl | assumption) (by omega) (by omega) ?_
        rw [hk]
        refine z_ishr dX12_findKeys_110 ?_
        refine z_iconst dX12_findKeys_111 (by decide) ?_
        refine z_iand dX12_findKeys_112 ?_
        rw [hbit]
        refine z_iconst dX12_findKeys_113 (by decide) ?_
        refine z_icmp_ne 130 dX12_findKeys_114 (by decide) (fun h114 => ?_) (fun h114 => ?_)
        · have htb : U.testBit f = false := by rw [tb_dm]; exact decide_eq_false (by omega)
          refine z_aload_n dX12_findKeys_130 rfl ?_
          refine z_getR (ty := .int) dX12_findKeys_131 fl_X12_31 (by first | rfl | assumption) rfl rfl ?_
          refine z_iload_n dX12_findKeys_134 rfl ?_
          refine z_iald dX12_findKeys_135 (by first | rfl | assumption) (by omega) (by omega) ?_
          rw [hk]
          refine z_bipush dX12_findKeys_136 (by decide) ?_
          refine z_icmp_ne 147 dX12_findKeys_138 (by decide) (fun h138 => ?_) (fun h138 => ?_)
          · refine z_iload dX12_findKeys_147 rfl ?_
            refine z_iconst dX12_findKeys_149 (by decide) ?_
            refine z_aload_n dX12_findKeys_150 rfl ?_
            refine z_getR (ty := .int) dX12_findKeys_151 fl_X12_31 (by first | rfl | assumption) rfl rfl ?_
            refine z_iload_n dX12_findKeys_154 rfl ?_
            refine z_iald dX12_findKeys_155 (by first | rfl | assumption) (by omega) (by omega) ?_
            rw [hk]
            refine z_ishl dX12_findKeys_156 ?_
            rw [shl1' (by omega)]
            refine z_ior dX12_findKeys_157 ?_
            rw [ior_nat (by omega) (by omega)]
            refine z_istore dX12_findKeys_158 (by decide) rfl ?_
            dsimp only [List.set]
            refine z_iload_n dX12_findKeys_160 rfl ?_
            refine z_iconst dX12_findKeys_161 (by decide) ?_
            refine z_icmp_ge 178 dX12_findKeys_162 (by decide) (fun h162 => ?_) (fun h162 => ?_)
            · have d5 : d = 5 := by omega
              have hg6 : figR (m 96) := by
                intro a ha
                by_cases q : a = d
                · rw [q, hk]; omega
                · exact hfig a (by omega)
              have hus := updF_self hk
              have hF : ∀ P, fkF nw wd (m 96) d U P f = if okK nw wd (m 96) = true ∧ P (m 96) = true then 1 else 0 := by
                intro P
                unfold fkF
                rw [htb, if_neg (by decide), hus, d5]
                show (if andP (okK nw wd) P (m 96) = true then 1 else 0) = _
                unfold andP
                cases okK nw wd (m 96) <;> cases P (m 96) <;> rfl
              refine z_aload_n dX12_findKeys_178 rfl ?_
              refine z_V0i dX12_findKeys_179 ok_X12_holds lk_X12_244 (by first | rfl | assumption) rfl rfl (Nat.le_of_ble_eq_true rfl) (by decide) (cm_X12_holds (hf.ky ho) hr hg6) (fun z1 m2 hm2 => ?_)
              obtain ⟨hz1, hmm⟩ := hm2
              subst hmm
              refine z_if_eq 48 dX12_findKeys_182 (by decide) (fun h182 => ?_) (fun h182 => ?_)
              · have hno := hz1.no h182
                first
                | exact again htb _ K (fun _ _ => rfl) hk hst ho (fun P _ => by rw [hF, if_neg (fun q => hno q.1)]; rfl)
                | (refine again htb _ _ (fun a _ => by rw [e3]) (by rw [e3]; exact hk) s3 (ho.tr o3) (fun P _ => ?_)
                   rw [hF]
                   by_cases q : P (m2 96) = true
                   · rw [if_pos q, if_pos ⟨hyes, q⟩]
                   · rw [if_neg q, if_neg (fun t => q t.2)])
              · have hyes := hz1.yes h182
                refine z_aload_n dX12_findKeys_185 rfl ?_
                refine z_V0v dX12_findKeys_186 ok_X12_notes lk_X12_248 (by first | rfl | assumption) rfl rfl (Nat.le_of_ble_eq_true rfl) (by decide) (cm_X12_notes hg6 hl hc (by omega) hst) (fun m3 hm3 => ?_)
                obtain ⟨s3, e3, o3⟩ := hm3
                refine z_goto 48 dX12_findKeys_189 (by decide) ?_
                first
                | exact again htb _ K (fun _ _ => rfl) hk hst ho (fun P _ => by rw [hF, if_neg (fun q => hno q.1)]; rfl)
                | (refine again htb _ _ (fun a _ => by rw [e3]) (by rw [e3]; exact hk) s3 (ho.tr o3) (fun P _ => ?_)
                   rw [hF]
                   by_cases q : P (m2 96) = true
                   · rw [if_pos q, if_pos ⟨hyes, q⟩]
                   · rw [if_neg q, if_neg (fun t => q t.2)])
            · omega
          · omega
        · have htb : U.testBit f = true := by rw [tb_dm]; exact decide_eq_true (by omega)
          refine z_aload_n dX12_findKeys_117 rfl ?_
          refine z_getR (ty := .int) dX12_findKeys_118 fl_X12_31 (by first | rfl | assumption) rfl rfl ?_
          refine z_iload_n dX12_findKeys_121 rfl ?_
          refine z_dup2 dX12_findKeys_122 (by intro z q; cases q) (by intro z q; cases q) ?_
          refine z_iald dX12_findKeys_123 (by first | rfl | assumption) (by omega) (by omega) ?_
          rw [hk]
          refine z_iconst dX12_findKeys_124 (by decide) ?_
          refine z_iadd dX12_findKeys_125 (by omega) ?_
          refine z_iast dX12_findKeys_126 (by first | rfl | assumption) (by omega) (by omega) ?_
          refine z_goto 91 dX12_findKeys_127 (by decide) ?_
          exact step _ K (fun _ _ => rfl) hst ho (fun P _ => by unfold fkF; rw [htb, if_pos rfl]; rfl)
  | succ r ihr =>
    intro d hd e
    induction e with
    | zero =>
      intro f hfe m U K hk hfig hU hbd hst ho kont
      have : f = 10 := by omega
      subst this
      have k0 := kont m K (fun _ _ => rfl) hst (fun P _ => rfl) ho
      refine z_aload_n dX12_findKeys_91 rfl ?_
      refine z_getR (ty := .int) dX12_findKeys_92 fl_X12_31 (by first | rfl | assumption) rfl rfl ?_
      refine z_iload_n dX12_findKeys_95 rfl ?_
      refine z_iald dX12_findKeys_96 (by first | rfl | assumption) (by omega) (by omega) ?_
      rw [hk]
      refine z_bipush dX12_findKeys_97 (by decide) ?_
      refine z_icmp_ge 130 dX12_findKeys_99 (by decide) (fun h99 => ?_) (fun h99 => ?_)
      · refine z_aload_n dX12_findKeys_130 rfl ?_
        refine z_getR (ty := .int) dX12_findKeys_131 fl_X12_31 (by first | rfl | assumption) rfl rfl ?_
        refine z_iload_n dX12_findKeys_134 rfl ?_
        refine z_iald dX12_findKeys_135 (by first | rfl | assumption) (by omega) (by omega) ?_
        rw [hk]
        refine z_bipush dX12_findKeys_136 (by decide) ?_
        refine z_icmp_ne 147 dX12_findKeys_138 (by decide) (fun h138 => ?_) (fun h138 => ?_)
        · omega
        · refine z_iinc dX12_findKeys_141 rfl (by omega) (by decide) rfl ?_
          dsimp only [List.set]
          refine z_goto 48 dX12_findKeys_144 (by decide) ?_
          rw [show (d : Int) + -1 = (d : Int) - 1 by omega]
          exact k0
      · omega
    | succ e ihe =>
      intro f hfe m U K hk hfig hU hbd hst ho kont
      have hd6 : d < 6 := by omega
      have hbit := bit_at (n := U) (w := f) (by omega) (by omega)
      have h2f : 2 ^ f ≤ 2 ^ 9 := Nat.pow_le_pow_right (by decide) (by omega)
      have hts : ∀ P, tsF (fkF nw wd (m 96) d U P) f (e + 1) = fkF nw wd (m 96) d U P f + tsF (fkF nw wd (m 96) d U P) (f + 1) e := fun P => rfl
      rw [hts] at hbd
      have step : ∀ (m1 : Mem) (K1 : KP → Nat), (∀ a : Nat, a < d → m1 96 (a : Int) = m 96 (a : Int)) → stR m1 c n K1 → onKy mem m1 → (∀ P, resp P → K1 P = K P + fkF nw wd (m 96) d U P f) → ZZ X (0, 0) 2 mX12_findKeys G0 91 [vr 88, vi (n : Int), vi (c : Int), vi (d : Int), vi (U : Int)] [] (mset m1 96 (d : Int) ((f : Int) + 1)) (pV G0 (fkQ nw wd c n mem)) := by
        intro m1 K1 a1 s1 o1 k1
        have ag : ∀ a : Nat, a < d → mset m1 96 (d : Int) ((f : Int) + 1) 96 (a : Int) = m 96 (a : Int) := fun a ha => by rw [mset_nej _ _ (by omega)]; exact a1 a ha
        have hcg : ∀ P, resp P → tsF (fkF nw wd (mset m1 96 (d : Int) ((f : Int) + 1) 96) d U P) (f + 1) e = tsF (fkF nw wd (m 96) d U P) (f + 1) e := fun P hP => tsF_congr (fkF_congr hd6 hP ag) _ _
        refine ihe (f + 1) (by omega) (mset m1 96 (d : Int) ((f : Int) + 1)) U K1 (mset_eq _ _ _ _) (fun a ha => by rw [ag a ha]; exact hfig a ha) hU (by rw [hcg _ trP_resp, k1 _ trP_resp]; omega) (s1.off (mset_ne _ (by decide) _ _) (mset_ne _ (by decide) _ _)) (o1.tr ⟨fun x _ h2 _ => mset_ne _ h2 _ _, fun j _ _ _ _ _ => by rw [mset_ne _ (by decide)]⟩) (fun m' K' h1 h2 h3 h4 => kont m' K' (fun a ha => (h1 a ha).trans (ag a ha)) h2 (fun P hP => by rw [h3 P hP, hcg P hP, k1 P hP, hts]; omega) h4)
      have again : U.testBit f = false → ∀ (m1 : Mem) (K1 : KP → Nat), (∀ a : Nat, a < d → m1 96 (a : Int) = m 96 (a : Int)) → m1 96 (d : Int) = (f : Int) → stR m1 c n K1 → onKy mem m1 → (∀ P, resp P → K1 P = K P + fkF nw wd (m 96) d U P f) → ZZ X (0, 0) 2 mX12_findKeys G0 48 [vr 88, vi (n : Int), vi (c : Int), vi (d : Int), vi ((U ||| 2 ^ f : Nat) : Int)] [] m1 (pV G0 (fkQ nw wd c n mem)) := by
        intro htb m1 K1 a1 d1 s1 o1 k1
        have st := step m1 K1 a1 s1 o1 k1
        have hclr := iand_clr ⟨U, hU⟩ ⟨f, by omega⟩ htb
        dsimp only at hclr
        have hx := ixor_m1 ⟨2 ^ f, by omega⟩
        dsimp only at hx
        refine z_iload_n dX12_findKeys_48 rfl ?_
        refine z_if_lt 192 dX12_findKeys_49 (by decide) (fun h49 => ?_) (fun h49 => ?_)
        · omega
        · refine z_iload dX12_findKeys_52 rfl ?_
          refine z_aload_n dX12_findKeys_54 rfl ?_
          refine z_getR (ty := .int) dX12_findKeys_55 fl_X12_31 (by first | rfl | assumption) rfl rfl ?_
          refine z_iload_n dX12_findKeys_58 rfl ?_
          refine z_iald dX12_findKeys_59 (by first | rfl | assumption) (by omega) (by omega) ?_
          rw [d1]
          refine z_iconst dX12_findKeys_60 (by decide) ?_
          refine z_icmp_ne 68 dX12_findKeys_61 (by decide) (fun h61 => ?_) (fun h61 => ?_)
          · refine z_iconst dX12_findKeys_68 (by decide) ?_
            refine z_aload_n dX12_findKeys_69 rfl ?_
            refine z_getR (ty := .int) dX12_findKeys_70 fl_X12_31 (by first | rfl | assumption) rfl rfl ?_
            refine z_iload_n dX12_findKeys_73 rfl ?_
            refine z_iald dX12_findKeys_74 (by first | rfl | assumption) (by omega) (by omega) ?_
            rw [d1]
            refine z_ishl dX12_findKeys_75 ?_
            rw [shl1' (by omega)]
            refine z_iconst dX12_findKeys_76 (by decide) ?_
            refine z_ixor dX12_findKeys_77 ?_
            rw [hx]
            refine z_iand dX12_findKeys_78 ?_
            rw [hclr]
            refine z_istore dX12_findKeys_79 (by decide) rfl ?_
            dsimp only [List.set]
            refine z_aload_n dX12_findKeys_81 rfl ?_
            refine z_getR (ty := .int) dX12_findKeys_82 fl_X12_31 (by first | rfl | assumption) rfl rfl ?_
            refine z_iload_n dX12_findKeys_85 rfl ?_
            refine z_dup2 dX12_findKeys_86 (by intro z q; cases q) (by intro z q; cases q) ?_
            refine z_iald dX12_findKeys_87 (by first | rfl | assumption) (by omega) (by omega) ?_
            rw [d1]
            refine z_iconst dX12_findKeys_88 (by decide) ?_
            refine z_iadd dX12_findKeys_89 (by omega) ?_
            refine z_iast dX12_findKeys_90 (by first | rfl | assumption) (by omega) (by omega) ?_
            exact st
          · omega
      refine z_aload_n dX12_findKeys_91 rfl ?_
      refine z_getR (ty := .int) dX12_findKeys_92 fl_X12_31 (by first | rfl | assumption) rfl rfl ?_
      refine z_iload_n dX12_findKeys_95 rfl ?_
      refine z_iald dX12_findKeys_96 (by first | rfl | assumption) (by omega) (by omega) ?_
      rw [hk]
      refine z_bipush dX12_findKeys_97 (by decide) ?_
      refine z_icmp_ge 130 dX12_findKeys_99 (by decide) (fun h99 => ?_) (fun h99 => ?_)
      · omega
      · refine z_iload dX12_findKeys_102 rfl ?_
        refine z_aload_n dX12_findKeys_104 rfl ?_
        refine z_getR (ty := .int) dX12_findKeys_105 fl_X12_31 (by first | rfl | assumption) rfl rfl ?_
        refine z_iload_n dX12_findKeys_108 rfl ?_
        refine z_iald dX12_findKeys_109 (by first | rfl | assumption) (by omega) (by omega) ?_
        rw [hk]
        refine z_ishr dX12_findKeys_110 ?_
        refine z_iconst dX12_findKeys_111 (by decide) ?_
        refine z_iand dX12_findKeys_112 ?_
        rw [hbit]
        refine z_iconst dX12_findKeys_113 (by decide) ?_
        refine z_icmp_ne 130 dX12_findKeys_114 (by decide) (fun h114 => ?_) (fun h114 => ?_)
        · have htb : U.testBit f = false := by rw [tb_dm]; exact decide_eq_false (by omega)
          refine z_aload_n dX12_findKeys_130 rfl ?_
          refine z_getR (ty := .int) dX12_findKeys_131 fl_X12_31 (by first | rfl | assumption) rfl rfl ?_
          refine z_iload_n dX12_findKeys_134 rfl ?_
          refine z_iald dX12_findKeys_135 (by first | rfl | assumption) (by omega) (by omega) ?_
          rw [hk]
          refine z_bipush dX12_findKeys_136 (by decide) ?_
          refine z_icmp_ne 147 dX12_findKeys_138 (by decide) (fun h138 => ?_) (fun h138 => ?_)
          · refine z_iload dX12_findKeys_147 rfl ?_
            refine z_iconst dX12_findKeys_149 (by decide) ?_
            refine z_aload_n dX12_findKeys_150 rfl ?_
            refine z_getR (ty := .int) dX12_findKeys_151 fl_X12_31 (by first | rfl | assumption) rfl rfl ?_
            refine z_iload_n dX12_findKeys_154 rfl ?_
            refine z_iald dX12_findKeys_155 (by first | rfl | assumption) (by omega) (by omega) ?_
            rw [hk]
            refine z_ishl dX12_findKeys_156 ?_
            rw [shl1' (by omega)]
            refine z_ior dX12_findKeys_157 ?_
            rw [ior_nat (by omega) (by omega)]
            refine z_istore dX12_findKeys_158 (by decide) rfl ?_
            dsimp only [List.set]
            refine z_iload_n dX12_findKeys_160 rfl ?_
            refine z_iconst dX12_findKeys_161 (by decide) ?_
            refine z_icmp_ge 178 dX12_findKeys_162 (by decide) (fun h162 => ?_) (fun h162 => ?_)
            · omega
            · refine z_iinc dX12_findKeys_165 rfl (by omega) (by decide) rfl ?_
              dsimp only [List.set]
              rw [show (d : Int) + 1 = ((d + 1 : Nat) : Int) by omega]
              refine z_aload_n dX12_findKeys_168 rfl ?_
              refine z_getR (ty := .int) dX12_findKeys_169 fl_X12_31 (by first | rfl | assumption) rfl rfl ?_
              refine z_iload_n dX12_findKeys_172 rfl ?_
              refine z_iconst dX12_findKeys_173 (by decide) ?_
              refine z_iast dX12_findKeys_174 (by first | rfl | assumption) (by omega) (by omega) ?_
              generalize hm1 : mset m 96 ((d + 1 : Nat) : Int) (-1) = m1
              have e1 : m1 96 ((d + 1 : Nat) : Int) = -1 := by rw [← hm1]; exact mset_eq _ _ _ _
              refine z_goto 48 dX12_findKeys_175 (by decide) ?_
              refine z_iload_n dX12_findKeys_48 rfl ?_
              refine z_if_lt 192 dX12_findKeys_49 (by decide) (fun h49 => ?_) (fun h49 => ?_)
              · omega
              · refine z_iload dX12_findKeys_52 rfl ?_
                refine z_aload_n dX12_findKeys_54 rfl ?_
                refine z_getR (ty := .int) dX12_findKeys_55 fl_X12_31 (by first | rfl | assumption) rfl rfl ?_
                refine z_iload_n dX12_findKeys_58 rfl ?_
                refine z_iald dX12_findKeys_59 (by first | rfl | assumption) (by omega) (by omega) ?_
                rw [e1]
                refine z_iconst dX12_findKeys_60 (by decide) ?_
                refine z_icmp_ne 68 dX12_findKeys_61 (by decide) (fun h61 => ?_) (fun h61 => ?_)
                · omega
                · refine z_iconst dX12_findKeys_64 (by decide) ?_
                  refine z_goto 78 dX12_findKeys_65 (by decide) ?_
                  refine z_iand dX12_findKeys_78 ?_
                  rw [iand_m1 ⟨U ||| 2 ^ f, or_lt ⟨U, hU⟩ ⟨f, by omega⟩⟩]
                  refine z_istore dX12_findKeys_79 (by decide) rfl ?_
                  dsimp only [List.set]
                  refine z_aload_n dX12_findKeys_81 rfl ?_
                  refine z_getR (ty := .int) dX12_findKeys_82 fl_X12_31 (by first | rfl | assumption) rfl rfl ?_
                  refine z_iload_n dX12_findKeys_85 rfl ?_
                  refine z_dup2 dX12_findKeys_86 (by intro z q; cases q) (by intro z q; cases q) ?_
                  refine z_iald dX12_findKeys_87 (by first | rfl | assumption) (by omega) (by omega) ?_
                  rw [e1]
                  refine z_iconst dX12_findKeys_88 (by decide) ?_
                  refine z_iadd dX12_findKeys_89 (by omega) ?_
                  rw [show (-1 : Int) + 1 = ((0 : Nat) : Int) from rfl]
                  refine z_iast dX12_findKeys_90 (by first | rfl | assumption) (by omega) (by omega) ?_
                  first
                  | exact step _ K (fun _ _ => rfl) hst ho (fun P _ => by unfold fkF; rw [htb, if_pos rfl]; rfl)
                  | (generalize hm2 : mset m1 96 ((d + 1 : Nat) : Int) ((0 : Nat) : Int) = m2
                     have ag : ∀ a : Nat, a < d + 1 → m2 96 (a : Int) = m 96 (a : Int) := fun a ha => by rw [← hm2, ← hm1, mset_nej _ _ (by omega), mset_nej _ _ (by omega)]
                     have hF : ∀ P, resp P → tsF (fkF nw wd (m2 96) (d + 1) (U ||| 2 ^ f) P) 0 10 = fkF nw wd (m 96) d U P f := by
                       intro P hP
                       rw [tsF_all, ← fkF_cnt (by omega)]
                       unfold fkF
                       rw [htb, if_neg (by decide)]
                       refine cnt_congr (resp_and (okK_resp nw wd) hP) _ _ _ _ (fun a ha hn => ?_)
                       have hle := six_out ⟨a, ha⟩ ⟨d, hd6⟩ hn
                       dsimp only at hle
                       rw [ag a (by omega)]
                       by_cases q : a = d
                       · rw [q, updF_eq]; exact hk
                       · rw [updF_ne _ _ (by omega)]
                     refine ihr (d + 1) (by omega) 10 0 (by omega) m2 (U ||| 2 ^ f) K ?_ (fun a ha => ?_) (or_lt ⟨U, hU⟩ ⟨f, by omega⟩) (by rw [hF _ trP_resp]; omega) (hst.off ?_ ?_) (ho.tr ⟨fun x _ h2 _ => ?_, fun j _ _ _ _ _ => ?_⟩) (fun m' K' h1 h2 h3 h4 => ?_)
                     · rw [← hm2]; exact mset_eq _ _ _ _
                     · rw [ag a ha]
                       by_cases q : a = d
                       · rw [q, hk]; omega
                       · exact hfig a (by omega)
                     · rw [← hm2, ← hm1, mset_ne _ (by decide), mset_ne _ (by decide)]
                     · rw [← hm2, ← hm1, mset_ne _ (by decide), mset_ne _ (by decide)]
                     · rw [← hm2, ← hm1, mset_ne _ h2, mset_ne _ h2]
                     · rw [← hm2, ← hm1, mset_ne _ (by decide), mset_ne _ (by decide)]
                     · rw [show ((d + 1 : Nat) : Int) - 1 = (d : Int) by omega]
                       exact again htb m' K' (fun a ha => (h1 a (by omega)).trans (ag a (by omega))) ((h1 d (by omega)).trans ((ag d (by omega)).trans hk)) h2 h4 (fun P hP => by rw [h3 P hP, hF P hP]))
          · omega
        · have htb : U.testBit f = true := by rw [tb_dm]; exact decide_eq_true (by omega)
          refine z_aload_n dX12_findKeys_117 rfl ?_
          refine z_getR (ty := .int) dX12_findKeys_118 fl_X12_31 (by first | rfl | assumption) rfl rfl ?_
          refine z_iload_n dX12_findKeys_121 rfl ?_
          refine z_dup2 dX12_findKeys_122 (by intro z q; cases q) (by intro z q; cases q) ?_
          refine z_iald dX12_findKeys_123 (by first | rfl | assumption) (by omega) (by omega) ?_
          rw [hk]
          refine z_iconst dX12_findKeys_124 (by decide) ?_
          refine z_iadd dX12_findKeys_125 (by omega) ?_
          refine z_iast dX12_findKeys_126 (by first | rfl | assumption) (by omega) (by omega) ?_
          refine z_goto 91 dX12_findKeys_127 (by decide) ?_
          first
          | exact step _ K (fun _ _ => rfl) hst ho (fun P _ => by unfold fkF; rw [htb, if_pos rfl]; rfl)
          | (generalize hm2 : mset m1 96 ((d + 1 : Nat) : Int) ((0 : Nat) : Int) = m2
             have ag : ∀ a : Nat, a < d + 1 → m2 96 (a : Int) = m 96 (a : Int) := fun a ha => by rw [← hm2, ← hm1, mset_nej _ _ (by omega), mset_nej _ _ (by omega)]
             have hF : ∀ P, resp P → tsF (fkF nw wd (m2 96) (d + 1) (U ||| 2 ^ f) P) 0 10 = fkF nw wd (m 96) d U P f := by
               intro P hP
               rw [tsF_all, ← fkF_cnt (by omega)]
               unfold fkF
               rw [htb, if_neg (by decide)]
               refine cnt_congr (resp_and (okK_resp nw wd) hP) _ _ _ _ (fun a ha hn => ?_)
               have hle := six_out ⟨a, ha⟩ ⟨d, hd6⟩ hn
               dsimp only at hle
               rw [ag a (by omega)]
               by_cases q : a = d
               · rw [q, updF_eq]; exact hk
               · rw [updF_ne _ _ (by omega)]
             refine ihr (d + 1) (by omega) 10 0 (by omega) m2 (U ||| 2 ^ f) K ?_ (fun a ha => ?_) (or_lt ⟨U, hU⟩ ⟨f, by omega⟩) (by rw [hF _ trP_resp]; omega) (hst.off ?_ ?_) (ho.tr ⟨fun x _ h2 _ => ?_, fun j _ _ _ _ _ => ?_⟩) (fun m' K' h1 h2 h3 h4 => ?_)
             · rw [← hm2]; exact mset_eq _ _ _ _
             · rw [ag a ha]
               by_cases q : a = d
               · rw [q, hk]; omega
               · exact hfig a (by omega)
             · rw [← hm2, ← hm1, mset_ne _ (by decide), mset_ne _ (by decide)]
             · rw [← hm2, ← hm1, mset_ne _ (by decide), mset_ne _ (by decide)]
             · rw [← hm2, ← hm1, mset_ne _ h2, mset_ne _ h2]
             · rw [← hm2, ← hm1, mset_ne _ (by decide), mset_ne _ (by decide)]
             · rw [show ((d + 1 : Nat) : Int) - 1 = (d : Int) by omega]
               exact again htb m' K' (fun a ha => (h1 a (by omega)).trans (ag a (by omega))) ((h1 d (by omega)).trans ((ag d (by omega)).trans hk)) h2 h4 (fun P hP => by rw [h3 P hP, hF P hP]))
theorem cm_X12_findKeys (hf : wdM mem nw wd) (hr : wdR nw wd) (hl : n ≤ 4) (hc : c < 1296) : CM X (0, 0) 2 mX12_findKeys G0 [vr 88, vi (n : Int), vi (c : Int)] mem (pV G0 (fkQ nw wd c n mem)) := by
  have hcl := cnt_le (andP (okK nw wd) trP) (six.drop 0) (fun _ => 0) 0
  rw [show fallN (crd 0) (six.drop 0).length = 151200 from rfl] at hcl
  refine CM.of (by decide +kernel) 2 (Nat.le_of_ble_eq_true rfl) ?_
  show ZZ X (0, 0) 2 mX12_findKeys G0 0 [vr 88, vi (n : Int), vi (c : Int), vd, vd] [] mem _
  have loop : ∀ (e l : Nat) (m : Mem), l + e = 6 → (m 88 17 = (n : Int) ∧ m 88 18 = (c : Int)) → m 88 15 = 0 → (∀ a : Nat, a < l → m 97 (a : Int) = 0) → onKy mem m → ZZ X (0, 0) 2 mX12_findKeys G0 17 [vr 88, vi (n : Int), vi (c : Int), vi (l : Int), vd] [] m (pV G0 (fkQ nw wd c n mem)) := by
    intro e
    induction e with
    | zero =>
      intro l m hle i1 i2 i3 ho
      have : l = 6 := by omega
      subst this
      refine z_iload_n dX12_findKeys_17 rfl ?_
      refine z_bipush dX12_findKeys_18 (by decide) ?_
      refine z_icmp_ge 36 dX12_findKeys_20 (by decide) (fun h20 => ?_) (fun h20 => ?_)
      · refine z_iconst dX12_findKeys_36 (by decide) ?_
        refine z_istore_n dX12_findKeys_37 (by decide) rfl ?_
        dsimp only [List.set]
        refine z_aload_n dX12_findKeys_38 rfl ?_
        refine z_getR (ty := .int) dX12_findKeys_39 fl_X12_31 (by first | rfl | assumption) rfl rfl ?_
        refine z_iconst dX12_findKeys_42 (by decide) ?_
        refine z_iconst dX12_findKeys_43 (by decide) ?_
        refine z_iast dX12_findKeys_44 (by first | rfl | assumption) (by omega) (by omega) ?_
        generalize hm1 : mset m 96 0 (-1) = m1
        have e1 : m1 96 0 = -1 := by rw [← hm1]; exact mset_eq _ _ _ _
        refine z_iconst dX12_findKeys_45 (by decide) ?_
        refine z_istore dX12_findKeys_46 (by decide) rfl ?_
        dsimp only [List.set]
        refine z_iload_n dX12_findKeys_48 rfl ?_
        refine z_if_lt 192 dX12_findKeys_49 (by decide) (fun h49 => ?_) (fun h49 => ?_)
        · omega
        · refine z_iload dX12_findKeys_52 rfl ?_
          refine z_aload_n dX12_findKeys_54 rfl ?_
          refine z_getR (ty := .int) dX12_findKeys_55 fl_X12_31 (by first | rfl | assumption) rfl rfl ?_
          refine z_iload_n dX12_findKeys_58 rfl ?_
          refine z_iald dX12_findKeys_59 (by first | rfl | assumption) (by omega) (by omega) ?_
          rw [e1]
          refine z_iconst dX12_findKeys_60 (by decide) ?_
          refine z_icmp_ne 68 dX12_findKeys_61 (by decide) (fun h61 => ?_) (fun h61 => ?_)
          · omega
          · refine z_iconst dX12_findKeys_64 (by decide) ?_
            refine z_goto 78 dX12_findKeys_65 (by decide) ?_
            refine z_iand dX12_findKeys_78 ?_
            rw [show iandV 0 (-1) = ((0 : Nat) : Int) from iand_m1 ⟨0, by decide⟩]
            refine z_istore dX12_findKeys_79 (by decide) rfl ?_
            dsimp only [List.set]
            refine z_aload_n dX12_findKeys_81 rfl ?_
            refine z_getR (ty := .int) dX12_findKeys_82 fl_X12_31 (by first | rfl | assumption) rfl rfl ?_
            refine z_iload_n dX12_findKeys_85 rfl ?_
            refine z_dup2 dX12_findKeys_86 (by intro z q; cases q) (by intro z q; cases q) ?_
            refine z_iald dX12_findKeys_87 (by first | rfl | assumption) (by omega) (by omega) ?_
            rw [e1]
            refine z_iconst dX12_findKeys_88 (by decide) ?_
            refine z_iadd dX12_findKeys_89 (by omega) ?_
            rw [show (-1 : Int) + 1 = ((0 : Nat) : Int) from rfl]
            refine z_iast dX12_findKeys_90 (by first | rfl | assumption) (by omega) (by omega) ?_
            generalize hm2 : mset m1 96 0 ((0 : Nat) : Int) = m2
            have e88 : m2 88 = m 88 := by rw [← hm2, ← hm1, mset_ne _ (by decide), mset_ne _ (by decide)]
            have e97 : m2 97 = m 97 := by rw [← hm2, ← hm1, mset_ne _ (by decide), mset_ne _ (by decide)]
            have hst : stR m2 c n (fun _ => 0) := by
              refine ⟨⟨by rw [e88]; exact i1.1, by rw [e88]; exact i1.2⟩, by rw [e88]; exact i2, fun l hl => ⟨0, by rw [e97]; exact i3 l hl, by decide, fun f _ => ?_⟩, fun _ _ => Nat.le_refl _, fun q => absurd q (Nat.lt_irrefl 0)⟩
              rw [Nat.zero_testBit]
              rfl
            have hall : ∀ P, resp P → tsF (fkF nw wd (m2 96) 0 0 P) 0 10 = keyC nw wd P := by
              intro P hP
              rw [tsF_all, ← fkF_cnt (by decide)]
              exact cnt_congr (resp_and (okK_resp nw wd) hP) six _ _ _ (fun a ha hn => absurd (six_mem ha) hn)
            refine fk91 hf hr hl hc 5 0 (by omega) 10 0 (by omega) m2 0 (fun _ => 0) ?_ (fun a ha => by omega) (by decide) ?_ hst (ho.tr ⟨fun x _ h2 _ => ?_, fun j _ _ _ _ _ => by rw [e88]⟩) (fun m' K' h1 h2 h3 h4 => ?_)
            · rw [← hm2]; exact mset_eq _ _ _ _
            · rw [hall _ trP_resp]
              have : keyC nw wd trP ≤ 151200 := hcl
              omega
            · rw [← hm2, ← hm1, mset_ne _ h2, mset_ne _ h2]
            · refine z_iload_n dX12_findKeys_48 rfl ?_
              refine z_if_lt 192 dX12_findKeys_49 (by decide) (fun h49 => ?_) (fun h49 => by omega)
              refine z_vret dX12_findKeys_192 rfl ?_
              exact ⟨rfl, rfl, h2.congr (fun P hP => by rw [h3 P hP, hall P hP]; omega), h4⟩
      · omega
    | succ e ih =>
      intro l m hle i1 i2 i3 ho
      refine z_iload_n dX12_findKeys_17 rfl ?_
      refine z_bipush dX12_findKeys_18 (by decide) ?_
      refine z_icmp_ge 36 dX12_findKeys_20 (by decide) (fun h20 => ?_) (fun h20 => ?_)
      · omega
      · refine z_aload_n dX12_findKeys_23 rfl ?_
        refine z_getR (ty := .int) dX12_findKeys_24 fl_X12_34 (by first | rfl | assumption) rfl rfl ?_
        refine z_iload_n dX12_findKeys_27 rfl ?_
        refine z_iconst dX12_findKeys_28 (by decide) ?_
        refine z_iast dX12_findKeys_29 (by first | rfl | assumption) (by omega) (by omega) ?_
        refine z_iinc dX12_findKeys_30 rfl (by omega) (by decide) rfl ?_
        dsimp only [List.set]
        refine z_goto 17 dX12_findKeys_33 (by decide) ?_
        refine ih (l + 1) _ (by omega) (by rw [mset_ne _ (by decide)]; exact i1) (by rw [mset_ne _ (by decide)]; exact i2) (fun a ha => ?_) (ho.tr ⟨fun x _ _ h3 => mset_ne _ h3 _ _, fun j _ _ _ _ _ => by rw [mset_ne _ (by decide)]⟩)
        by_cases q : a = l
        · subst q; exact mset_eq _ _ _ _
        · rw [mset_nej _ _ (by omega)]; exact i3 a (by omega)
  refine z_aload_n dX12_findKeys_0 rfl ?_
  refine z_iload_n dX12_findKeys_1 rfl ?_
  refine z_pI 17 dX12_findKeys_2 fm_X12_232 (by first | rfl | assumption) rfl rfl ?_
  refine z_aload_n dX12_findKeys_5 rfl ?_
  refine z_iload_n dX12_findKeys_6 rfl ?_
  refine z_pI 18 dX12_findKeys_7 fm_X12_235 (by first | rfl | assumption) rfl rfl ?_
  refine z_aload_n dX12_findKeys_10 rfl ?_
  refine z_iconst dX12_findKeys_11 (by decide) ?_
  refine z_pI 15 dX12_findKeys_12 fm_X12_229 (by first | rfl | assumption) rfl rfl ?_
  refine z_iconst dX12_findKeys_15 (by decide) ?_
  refine z_istore_n dX12_findKeys_16 (by decide) rfl ?_
  dsimp only [List.set]
  refine loop 6 0 _ (by omega) ⟨?_, ?_⟩ (mset_eq _ _ _ _) (fun a ha => by omega) ⟨fun x h1 _ _ => ?_, fun j q1 q2 q3 _ _ => ?_⟩
  · rw [mset_nej _ _ (by decide), mset_nej _ _ (by decide)]; exact mset_eq _ _ _ _
  · rw [mset_nej _ _ (by decide)]; exact mset_eq _ _ _ _
  · rw [mset_ne _ h1, mset_ne _ h1, mset_ne _ h1]
  · rw [mset_nej _ _ q1, mset_nej _ _ q3, mset_nej _ _ q2]
theorem cm_X12_keys (hf : wdM mem nw wd) (hr : wdR nw wd) : CM X (0, 0) 3 mX12_keys G0 [vr 88] mem (pI G0 fun z m => z = (keyC nw wd trP : Int) ∧ onKy mem m) := by
  refine CM.of (by decide +kernel) 0 (Nat.le_of_ble_eq_true rfl) ?_
  show ZZ X (0, 0) 3 mX12_keys G0 0 [vr 88] [] mem _
  refine z_aload_n dX12_keys_0 rfl ?_
  refine z_iconst dX12_keys_1 (by decide) ?_
  refine z_iconst dX12_keys_2 (by decide) ?_
  refine z_V2v dX12_keys_3 ok_X12_findKeys lk_X12_251 (by first | rfl | assumption) rfl rfl (Nat.le_of_ble_eq_true rfl) (by decide) (cm_X12_findKeys (n := 1) (c := 0) hf hr (by decide) (by decide)) (fun m1 hm1 => ?_)
  refine z_aload_n dX12_keys_6 rfl ?_
  refine z_gI 15 dX12_keys_7 fl_X12_229 (by first | rfl | assumption) rfl rfl ?_
  rw [hm1.1.2.1]
  refine z_iret dX12_keys_10 rfl ?_
  exact ⟨rfl, _, rfl, rfl, hm1.2⟩
theorem cm_X12_may {l : Int} (hf : wdM mem nw wd) (hr : wdR nw wd) : CM X (0, 0) 3 mX12_may G0 [vr 88, vi l] mem (pI G0 fun z m => myA nw wd l z ∧ onKy mem m) := by
  refine CM.of (by decide +kernel) 0 (Nat.le_of_ble_eq_true rfl) ?_
  show ZZ X (0, 0) 3 mX12_may G0 0 [vr 88, vi l] [] mem _
  refine z_iload_n dX12_may_0 rfl ?_
  refine z_i2l dX12_may_1 ?_
  refine z_lconst (z := 0) dX12_may_2 rfl (by decide) ?_
  refine z_ldc2 (z := 5) dX12_may_3 kc_X12_101 (by decide) ?_
  refine z_S3i dX12_may_6 ok_X12_in lk_X12_97 (Nat.le_of_ble_eq_true rfl) (by decide) (cm_X12_in) (fun z1 m1 hm1 => ?_)
  obtain ⟨hz1, hmm⟩ := hm1
  subst hmm
  refine z_if_ne 15 dX12_may_9 (by decide) (fun h9 => ?_) (fun h9 => ?_)
  · have yes := hz1.yes h9
    obtain ⟨l', rfl⟩ : ∃ l' : Nat, l = (l' : Int) := ⟨l.toNat, by omega⟩
    refine z_aload_n dX12_may_15 rfl ?_
    refine z_iconst dX12_may_16 (by decide) ?_
    refine z_iconst dX12_may_17 (by decide) ?_
    refine z_V2v dX12_may_18 ok_X12_findKeys lk_X12_251 (by first | rfl | assumption) rfl rfl (Nat.le_of_ble_eq_true rfl) (by decide) (cm_X12_findKeys (n := 1) (c := 0) hf hr (by decide) (by decide)) (fun m2 hm2 => ?_)
    refine z_aload_n dX12_may_21 rfl ?_
    refine z_getR (ty := .int) dX12_may_22 fl_X12_34 (by first | rfl | assumption) rfl rfl ?_
    refine z_iload_n dX12_may_25 rfl ?_
    refine z_iald dX12_may_26 (by first | rfl | assumption) (by omega) (by omega) ?_
    refine z_iret dX12_may_27 rfl ?_
    exact ⟨rfl, _, rfl, ⟨fun q => absurd yes q, fun _ => hm2.1.2.2.1 l' (by omega)⟩, hm2.2⟩
  · have no := hz1.no h9
    refine z_bipush dX12_may_12 (by decide) ?_
    refine z_iret dX12_may_14 rfl ?_
    exact ⟨rfl, _, rfl, ⟨fun _ => rfl, fun q => absurd q no⟩, onKy.rf⟩
theorem cm_X12_reads {l c wh : Int} (hf : wdM mem nw wd) (hr : wdR nw wd) : CM X (0, 0) 3 mX12_reads G0 [vr 88, vi l, vi c, vi wh] mem (pI G0 fun z m => rsA nw wd l c wh z ∧ onKy mem m) := by
  refine CM.of (by decide +kernel) 0 (Nat.le_of_ble_eq_true rfl) ?_
  show ZZ X (0, 0) 3 mX12_reads G0 0 [vr 88, vi l, vi c, vi wh] [] mem _
  refine z_iload_n dX12_reads_0 rfl ?_
  refine z_iload_n dX12_reads_1 rfl ?_
  refine z_S2i dX12_reads_2 ok_X12_areLetters lk_X12_220 (Nat.le_of_ble_eq_true rfl) (by decide) (cm_X12_areLetters) (fun z1 m1 hm1 => ?_)
  obtain ⟨hz1, hmm⟩ := hm1
  subst hmm
  refine z_if_eq 18 dX12_reads_5 (by decide) (fun h5 => ?_) (fun h5 => ?_)
  · have no1 := hz1.no h5
    refine z_bipush dX12_reads_18 (by decide) ?_
    refine z_iret dX12_reads_20 rfl ?_
    first
    | exact ⟨rfl, _, rfl, ⟨fun _ => rfl, fun q => absurd q.1 no1⟩, onKy.rf⟩
    | exact ⟨rfl, _, rfl, ⟨fun _ => rfl, fun q => absurd q.2 no2⟩, onKy.rf⟩
  · have yes1 := hz1.yes h5
    obtain ⟨l', c', rfl, rfl, a1, a2, a3⟩ := okRow_nat yes1
    refine z_iload_n dX12_reads_8 rfl ?_
    refine z_i2l dX12_reads_9 ?_
    refine z_lconst (z := 0) dX12_reads_10 rfl (by decide) ?_
    refine z_lconst (z := 1) dX12_reads_11 rfl (by decide) ?_
    refine z_S3i dX12_reads_12 ok_X12_in lk_X12_97 (Nat.le_of_ble_eq_true rfl) (by decide) (cm_X12_in) (fun z2 m2 hm2 => ?_)
    obtain ⟨hz2, hmm⟩ := hm2
    subst hmm
    refine z_if_ne 21 dX12_reads_15 (by decide) (fun h15 => ?_) (fun h15 => ?_)
    · have yes2 := hz2.yes h15
      refine z_aload_n dX12_reads_21 rfl ?_
      refine z_iload_n dX12_reads_22 rfl ?_
      refine z_iload_n dX12_reads_23 rfl ?_
      refine z_V2v dX12_reads_24 ok_X12_findKeys lk_X12_251 (by first | rfl | assumption) rfl rfl (Nat.le_of_ble_eq_true rfl) (by decide) (cm_X12_findKeys (n := l') (c := c') hf hr a2 a3) (fun m3 hm3 => ?_)
      obtain ⟨⟨i1, i2, i3, i4, i5⟩, o3⟩ := hm3
      have i2' : m3 88 15 = (keyC nw wd trP : Int) := i2
      refine z_aload_n dX12_reads_27 rfl ?_
      refine z_gI 15 dX12_reads_28 fl_X12_229 (by first | rfl | assumption) rfl rfl ?_
      rw [i2']
      refine z_if_ne 38 dX12_reads_31 (by decide) (fun h31 => ?_) (fun h31 => ?_)
      · have hk0 : 0 < keyC nw wd trP := by omega
        obtain ⟨⟨x1, x2⟩, y1, y2⟩ := i5 hk0
        refine z_iload_n dX12_reads_38 rfl ?_
        refine z_if_ne 49 dX12_reads_39 (by decide) (fun h39 => ?_) (fun h39 => ?_)
        · have hfin : rdR nw wd c' l' wh (m3 88 20) := ⟨fun q => by omega, fun _ => ⟨y1, fun q => absurd q h39, fun _ => y2⟩⟩
          refine z_aload_n dX12_reads_49 rfl ?_
          refine z_gI 20 dX12_reads_50 fl_X12_241 (by first | rfl | assumption) rfl rfl ?_
          refine z_iret dX12_reads_53 rfl ?_
          refine ⟨rfl, _, rfl, ⟨fun q => absurd ⟨yes1, yes2⟩ q, fun _ => ?_⟩, o3⟩
          rw [Int.toNat_natCast, Int.toNat_natCast]
          exact hfin
        · have hfin : rdR nw wd c' l' wh (m3 88 19) := ⟨fun q => by omega, fun _ => ⟨x1, fun _ => x2, fun q => absurd h39 q⟩⟩
          refine z_aload_n dX12_reads_42 rfl ?_
          refine z_gI 19 dX12_reads_43 fl_X12_238 (by first | rfl | assumption) rfl rfl ?_
          refine z_goto 53 dX12_reads_46 (by decide) ?_
          refine z_iret dX12_reads_53 rfl ?_
          refine ⟨rfl, _, rfl, ⟨fun q => absurd ⟨yes1, yes2⟩ q, fun _ => ?_⟩, o3⟩
          rw [Int.toNat_natCast, Int.toNat_natCast]
          exact hfin
      · have hfin : rdR nw wd c' l' wh (-1) := ⟨fun _ => rfl, fun q => by omega⟩
        refine z_iconst dX12_reads_34 (by decide) ?_
        refine z_goto 53 dX12_reads_35 (by decide) ?_
        refine z_iret dX12_reads_53 rfl ?_
        refine ⟨rfl, _, rfl, ⟨fun q => absurd ⟨yes1, yes2⟩ q, fun _ => ?_⟩, o3⟩
        rw [Int.toNat_natCast, Int.toNat_natCast]
        exact hfin
    · have no2 := hz2.no h15
      refine z_bipush dX12_reads_18 (by decide) ?_
      refine z_iret dX12_reads_20 rfl ?_
      first
      | exact ⟨rfl, _, rfl, ⟨fun _ => rfl, fun q => absurd q.1 no1⟩, onKy.rf⟩
      | exact ⟨rfl, _, rfl, ⟨fun _ => rfl, fun q => absurd q.2 no2⟩, onKy.rf⟩
end FK
