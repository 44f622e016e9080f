/-! ===== held: the class ===== -/
section HeldC
variable {X : Nat × (Int → Int)} {mem : Mem} {nf mo : Nat} {fd bk : Nat → Nat → Int}
def heOk (a b wh : Int) : Prop := parOk a b ∧ 0 ≤ wh ∧ wh ≤ 1
theorem bk_sch (hb : bkR bk) {i : Nat} (hi : i < 6) (h : ¬ bk 0 i = -1) : (1 ≤ bk 0 i ∧ bk 0 i ≤ 150) ∧ (0 ≤ bk 1 i ∧ bk 1 i ≤ 9999) ∧ (1 ≤ bk 2 i ∧ bk 2 i ≤ 99) := by
  rcases hb i hi with q | q
  · exact absurd q h
  · exact q
theorem cm_X11_held {a b wh : Int} (hf : finC mem nf fd) (hfr : finR nf fd) (hbk : bkC mem bk) (hbr : bkR bk) (hm : mem 0 10 = (mo : Int)) (hm1 : 1 ≤ mo) (hm2 : mo ≤ 150) : CM X (0, 0) 5 mX11_held G0 [vr 0, vi a, vi b, vi wh] mem (pI G0 fun z m => ((¬ heOk a b wh → z = -2) ∧ (heOk a b wh → z = hdA nf fd bk mo a.toNat b.toNat wh 6)) ∧ onSv mem m) := by
  have hn60 := hf.1
  refine CM.of (by decide +kernel) 3 (Nat.le_of_ble_eq_true rfl) ?_
  show ZZ X (0, 0) 5 mX11_held G0 0 [vr 0, vi a, vi b, vi wh, vd, vd, vd] [] mem _
  have loop : ∀ (a b : Nat) (e i : Nat) (m : Mem) (u6 : VV), i + e = 6 → heOk a b wh → onSv mem m → ZZ X (0, 0) 5 mX11_held G0 26 [vr 0, vi a, vi b, vi wh, vi (hdA nf fd bk mo a b wh i), vi (i : Int), u6] [] m (pI G0 fun z m => ((¬ heOk a b wh → z = -2) ∧ (heOk a b wh → z = hdA nf fd bk mo a b wh 6)) ∧ onSv mem m) := by
    intro a b e
    induction e with
    | zero =>
      intro i m u6 hi hok ho
      have : i = 6 := by omega
      subst this
      refine z_iload dX11_held_26 rfl ?_
      refine z_bipush dX11_held_28 (by decide) ?_
      refine z_icmp_ge 136 dX11_held_30 (by decide) (fun h30 => ?_) (fun h30 => ?_)
      · refine z_iload dX11_held_136 rfl ?_
        refine z_iret dX11_held_138 rfl ?_
        exact ⟨rfl, _, rfl, ⟨fun q => absurd hok q, fun _ => rfl⟩, ho⟩
      · omega
    | succ e ih =>
      intro i m u6 hi hok ho
      have hab := hok.1
      have hbd := hdA_bd nf fd bk mo a b wh i
      have join : ∀ (m' : Mem) (acc : Int) (u6 : VV), acc = hdA nf fd bk mo a b wh i + hdV nf fd bk mo a b wh i → onSv mem m' → ZZ X (0, 0) 5 mX11_held G0 130 [vr 0, vi a, vi b, vi wh, vi acc, vi (i : Int), u6] [] m' (pI G0 fun z m => ((¬ heOk a b wh → z = -2) ∧ (heOk a b wh → z = hdA nf fd bk mo a b wh 6)) ∧ onSv mem m) := by
        intro m' acc u6 hacc ho'
        subst hacc
        refine z_iinc dX11_held_130 rfl (by omega) (by decide) rfl ?_
        dsimp only [List.set]
        refine z_goto 26 dX11_held_133 (by decide) ?_
        rw [show (i : Int) + 1 = ((i + 1 : Nat) : Int) by omega]
        exact ih (i + 1) m' u6 (by omega) hok ho'
      have bk0 : bkC m bk := fun k j hk hj => by rw [ho _ (by omega)]; exact hbk k j hk hj
      have hf1 := hf.off (m := m) fun x h1 h2 => ho x (by omega)
      have hm' : m 0 10 = (mo : Int) := by rw [ho 0 (by omega)]; exact hm
      have b0 := bk0 0 i (by decide) (by omega)
      have b1 := bk0 1 i (by decide) (by omega)
      have b2 := bk0 2 i (by decide) (by omega)
      have hr := gatL_rng (mk := (i : Int)) (wo := -1) hfr
      have hsr := gatL_srt fd (i : Int) (-1) nf
      have hlen := gatL_len fd (i : Int) (-1) nf
      refine z_kill 6 ?_
      dsimp only [List.set]
      refine z_iload dX11_held_26 rfl ?_
      refine z_bipush dX11_held_28 (by decide) ?_
      refine z_icmp_ge 136 dX11_held_30 (by decide) (fun h30 => ?_) (fun h30 => ?_)
      · omega
      · refine z_aload_n dX11_held_33 rfl ?_
        refine z_getR (ty := .int) dX11_held_34 fl_X11_68 (by first | rfl | assumption) rfl rfl ?_
        refine z_iload dX11_held_37 rfl ?_
        refine z_V1i dX11_held_39 ok_X1_has lk_X11_237 (by first | rfl | assumption) rfl rfl (Nat.le_of_ble_eq_true rfl) (by decide) (cm_X1_has bk0 (by omega : i < 6)) (fun z1 m1 hq1 => ?_)
        obtain ⟨hz1, rfl⟩ := hq1
        refine z_if_eq 130 dX11_held_42 (by decide) (fun h42 => ?_) (fun h42 => ?_)
        · have no1 := hz1.no h42
          have hv : hdV nf fd bk mo a b wh i = 0 := if_neg (fun q => no1 q.1)
          first
          | (refine join _ _ _ ?_ ho3; rw [hv]; omega)
          | (refine join _ _ _ ?_ ho; rw [hv]; omega)
          | (refine join _ _ _ ?_ (fun x hx => (o5 x (by omega)).trans (ho3 x hx))
             rw [hv]
             rcases hz6 with ⟨w1, w2⟩ | ⟨w1, w2⟩
             · first | omega | rw [if_pos ⟨fun _ => by omega, fun _ => w2⟩] | rw [if_neg (fun q => by have := q.mp w2; omega)]
             · first | omega | rw [if_pos ⟨fun q => absurd q w2, fun q => by omega⟩] | rw [if_neg (fun q => absurd (q.mpr (by omega)) w2)])
        · have yes1 := hz1.yes h42
          have hsc := bk_sch hbr (by omega : i < 6) yes1
          refine z_aload_n dX11_held_45 rfl ?_
          refine z_iload dX11_held_46 rfl ?_
          refine z_iconst dX11_held_48 (by decide) ?_
          refine z_aload_n dX11_held_49 rfl ?_
          refine z_getR (ty := .int) dX11_held_50 fl_X11_68 (by first | rfl | assumption) rfl rfl ?_
          refine z_getR (ty := .int) dX11_held_53 fl_X11_241 (by first | rfl | assumption) rfl rfl ?_
          refine z_iload dX11_held_56 rfl ?_
          refine z_iald dX11_held_58 (by first | rfl | assumption) (by omega) (by omega) ?_
          rw [b1]
          refine z_aload_n dX11_held_59 rfl ?_
          refine z_getR (ty := .int) dX11_held_60 fl_X11_68 (by first | rfl | assumption) rfl rfl ?_
          refine z_getR (ty := .int) dX11_held_63 fl_X11_244 (by first | rfl | assumption) rfl rfl ?_
          refine z_iload dX11_held_66 rfl ?_
          refine z_iald dX11_held_68 (by first | rfl | assumption) (by omega) (by omega) ?_
          rw [b2]
          refine z_V4i dX11_held_69 ok_X11_weigh lk_X11_118 (by first | rfl | assumption) rfl rfl (Nat.le_of_ble_eq_true rfl) (by decide) (cm_X11_weigh (mk := (i : Int)) (wo := -1) hf1 hfr hm' hm1 hm2 (by omega) (by omega) (by omega)) (fun z3 m3 hq3 => ?_)
          obtain ⟨hz3, su3, mk3, o3⟩ := hq3
          have ho3 : onSv mem m3 := fun x hx => (o3 x hx).trans (ho x hx)
          refine z_if_eq 130 dX11_held_72 (by decide) (fun h72 => ?_) (fun h72 => ?_)
          · have nw := hz3.no h72
            have hv : hdV nf fd bk mo a b wh i = 0 := if_neg (fun q => nw q.2)
            first
            | (refine join _ _ _ ?_ ho3; rw [hv]; omega)
            | (refine join _ _ _ ?_ ho; rw [hv]; omega)
            | (refine join _ _ _ ?_ (fun x hx => (o5 x (by omega)).trans (ho3 x hx))
               rw [hv]
               rcases hz6 with ⟨w1, w2⟩ | ⟨w1, w2⟩
               · first | omega | rw [if_pos ⟨fun _ => by omega, fun _ => w2⟩] | rw [if_neg (fun q => by have := q.mp w2; omega)]
               · first | omega | rw [if_pos ⟨fun q => absurd q w2, fun q => by omega⟩] | rw [if_neg (fun q => absurd (q.mpr (by omega)) w2)])
          · have yw := hz3.yes h72
            have hv : hdV nf fd bk mo a b wh i = if hdI nf fd bk mo a b i ↔ wh = 0 then 1 else 0 := if_pos ⟨yes1, yw⟩
            obtain ⟨e1, e2, e3, e4⟩ := lo_ok hr hsr (by omega) (by omega) yw hm1
            have su4 := su3 (by have := hz3.val; omega)
            have b0' : m3 76 (i : Int) = bk 0 i := by rw [o3 76 (by omega)]; exact b0
            refine z_aload_n dX11_held_75 rfl ?_
            refine z_getR (ty := .int) dX11_held_76 fl_X11_68 (by first | rfl | assumption) rfl rfl ?_
            refine z_getR (ty := .int) dX11_held_79 fl_X11_247 (by first | rfl | assumption) rfl rfl ?_
            refine z_iload dX11_held_82 rfl ?_
            refine z_iald dX11_held_84 (by first | rfl | assumption) (by omega) (by omega) ?_
            rw [b0']
            refine z_aload_n dX11_held_85 rfl ?_
            refine z_getR (ty := .int) dX11_held_86 fl_X11_26 (by first | rfl | assumption) rfl rfl ?_
            refine z_gI 5 dX11_held_89 fl_X11_129 (by first | rfl | assumption) rfl rfl ?_
            rw [su4.1.2.1]
            refine z_aload_n dX11_held_92 rfl ?_
            refine z_getR (ty := .int) dX11_held_93 fl_X11_26 (by first | rfl | assumption) rfl rfl ?_
            refine z_iload_n dX11_held_96 rfl ?_
            refine z_iload_n dX11_held_97 rfl ?_
            refine z_V2i dX11_held_98 ok_X9_spanEnd lk_X11_132 (by first | rfl | assumption) rfl rfl (Nat.le_of_ble_eq_true rfl) (by decide) (cm_X9_spanEnd su4 (by omega) e2 e3 e4 hm2 (by omega) (by omega) (by omega)) (fun z5 m5 hq5 => ?_)
            obtain ⟨rfl, o5⟩ := hq5
            refine z_S3i dX11_held_101 ok_X11_within lk_X11_83 (Nat.le_of_ble_eq_true rfl) (by decide) (cm_X11_within) (fun z6 m6 hq6 => ?_)
            obtain ⟨hz6, rfl⟩ := hq6
            refine z_istore dX11_held_104 (by decide) rfl ?_
            dsimp only [List.set]
            refine z_iload dX11_held_106 rfl ?_
            refine z_iload dX11_held_108 rfl ?_
            refine z_iload_n dX11_held_110 rfl ?_
            refine z_if_ne 118 dX11_held_111 (by decide) (fun h111 => ?_) (fun h111 => ?_)
            · refine z_iconst dX11_held_118 (by decide) ?_
              refine z_icmp_ne 126 dX11_held_119 (by decide) (fun h119 => ?_) (fun h119 => ?_)
              · refine z_iconst dX11_held_126 (by decide) ?_
                refine z_iadd dX11_held_127 (by omega) ?_
                refine z_istore dX11_held_128 (by decide) rfl ?_
                dsimp only [List.set]
                first
                | (refine join _ _ _ ?_ ho3; rw [hv]; omega)
                | (refine join _ _ _ ?_ ho; rw [hv]; omega)
                | (refine join _ _ _ ?_ (fun x hx => (o5 x (by omega)).trans (ho3 x hx))
                   rw [hv]
                   rcases hz6 with ⟨w1, w2⟩ | ⟨w1, w2⟩
                   · first | omega | rw [if_pos ⟨fun _ => by omega, fun _ => w2⟩] | rw [if_neg (fun q => by have := q.mp w2; omega)]
                   · first | omega | rw [if_pos ⟨fun q => absurd q w2, fun q => by omega⟩] | rw [if_neg (fun q => absurd (q.mpr (by omega)) w2)])
              · refine z_iconst dX11_held_122 (by decide) ?_
                refine z_goto 127 dX11_held_123 (by decide) ?_
                refine z_iadd dX11_held_127 (by omega) ?_
                refine z_istore dX11_held_128 (by decide) rfl ?_
                dsimp only [List.set]
                first
                | (refine join _ _ _ ?_ ho3; rw [hv]; omega)
                | (refine join _ _ _ ?_ ho; rw [hv]; omega)
                | (refine join _ _ _ ?_ (fun x hx => (o5 x (by omega)).trans (ho3 x hx))
                   rw [hv]
                   rcases hz6 with ⟨w1, w2⟩ | ⟨w1, w2⟩
                   · first | omega | rw [if_pos ⟨fun _ => by omega, fun _ => w2⟩] | rw [if_neg (fun q => by have := q.mp w2; omega)]
                   · first | omega | rw [if_pos ⟨fun q => absurd q w2, fun q => by omega⟩] | rw [if_neg (fun q => absurd (q.mpr (by omega)) w2)])
            · refine z_iconst dX11_held_114 (by decide) ?_
              refine z_goto 119 dX11_held_115 (by decide) ?_
              refine z_icmp_ne 126 dX11_held_119 (by decide) (fun h119 => ?_) (fun h119 => ?_)
              · refine z_iconst dX11_held_126 (by decide) ?_
                refine z_iadd dX11_held_127 (by omega) ?_
                refine z_istore dX11_held_128 (by decide) rfl ?_
                dsimp only [List.set]
                first
                | (refine join _ _ _ ?_ ho3; rw [hv]; omega)
                | (refine join _ _ _ ?_ ho; rw [hv]; omega)
                | (refine join _ _ _ ?_ (fun x hx => (o5 x (by omega)).trans (ho3 x hx))
                   rw [hv]
                   rcases hz6 with ⟨w1, w2⟩ | ⟨w1, w2⟩
                   · first | omega | rw [if_pos ⟨fun _ => by omega, fun _ => w2⟩] | rw [if_neg (fun q => by have := q.mp w2; omega)]
                   · first | omega | rw [if_pos ⟨fun q => absurd q w2, fun q => by omega⟩] | rw [if_neg (fun q => absurd (q.mpr (by omega)) w2)])
              · refine z_iconst dX11_held_122 (by decide) ?_
                refine z_goto 127 dX11_held_123 (by decide) ?_
                refine z_iadd dX11_held_127 (by omega) ?_
                refine z_istore dX11_held_128 (by decide) rfl ?_
                dsimp only [List.set]
                first
                | (refine join _ _ _ ?_ ho3; rw [hv]; omega)
                | (refine join _ _ _ ?_ ho; rw [hv]; omega)
                | (refine join _ _ _ ?_ (fun x hx => (o5 x (by omega)).trans (ho3 x hx))
                   rw [hv]
                   rcases hz6 with ⟨w1, w2⟩ | ⟨w1, w2⟩
                   · first | omega | rw [if_pos ⟨fun _ => by omega, fun _ => w2⟩] | rw [if_neg (fun q => by have := q.mp w2; omega)]
                   · first | omega | rw [if_pos ⟨fun q => absurd q w2, fun q => by omega⟩] | rw [if_neg (fun q => absurd (q.mpr (by omega)) w2)])
  refine z_iload_n dX11_held_0 rfl ?_
  refine z_iload_n dX11_held_1 rfl ?_
  refine z_S2i dX11_held_2 ok_X11_isPart lk_X11_126 (Nat.le_of_ble_eq_true rfl) (by decide) (cm_X11_isPart) (fun z1 m1 hq1 => ?_)
  obtain ⟨hz1, rfl⟩ := hq1
  refine z_if_eq 17 dX11_held_5 (by decide) (fun h5 => ?_) (fun h5 => ?_)
  · have no1 := hz1.no h5
    refine z_bipush dX11_held_17 (by decide) ?_
    refine z_iret dX11_held_19 rfl ?_
    first
    | exact ⟨rfl, _, rfl, ⟨fun _ => rfl, fun q => absurd q.1 no1⟩, fun _ _ => rfl⟩
    | exact ⟨rfl, _, rfl, ⟨fun _ => rfl, fun q => absurd q.2 no2⟩, fun _ _ => rfl⟩
  · have yes1 := hz1.yes h5
    refine z_iload_n dX11_held_8 rfl ?_
    refine z_iconst dX11_held_9 (by decide) ?_
    refine z_iconst dX11_held_10 (by decide) ?_
    refine z_S3i dX11_held_11 ok_X11_within lk_X11_83 (Nat.le_of_ble_eq_true rfl) (by decide) (cm_X11_within) (fun z2 m2 hq2 => ?_)
    obtain ⟨hz2, rfl⟩ := hq2
    refine z_if_ne 20 dX11_held_14 (by decide) (fun h14 => ?_) (fun h14 => ?_)
    · have yes2 := hz2.yes h14
      refine z_iconst dX11_held_20 (by decide) ?_
      refine z_istore dX11_held_21 (by decide) rfl ?_
      dsimp only [List.set]
      refine z_iconst dX11_held_23 (by decide) ?_
      refine z_istore dX11_held_24 (by decide) rfl ?_
      dsimp only [List.set]
      obtain ⟨a', rfl⟩ : ∃ a' : Nat, a = (a' : Int) := ⟨a.toNat, by omega⟩
      obtain ⟨b', rfl⟩ : ∃ b' : Nat, b = (b' : Int) := ⟨b.toNat, by omega⟩
      simp only [Int.toNat_natCast]
      exact loop a' b' 6 0 _ _ (by omega) ⟨yes1, yes2⟩ (fun _ _ => rfl)
    · have no2 := hz2.no h14
      refine z_bipush dX11_held_17 (by decide) ?_
      refine z_iret dX11_held_19 rfl ?_
      first
      | exact ⟨rfl, _, rfl, ⟨fun _ => rfl, fun q => absurd q.1 no1⟩, fun _ _ => rfl⟩
      | exact ⟨rfl, _, rfl, ⟨fun _ => rfl, fun q => absurd q.2 no2⟩, fun _ _ => rfl⟩
end HeldC
