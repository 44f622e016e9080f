/-! ===== the class lists its words by ripeness ===== -/
theorem s10_one {F H : Nat → Nat} {w : Nat} : ∀ {n : Nat}, w < n → (∀ i, i < n → i ≠ w → F i = H i) → s10 F n + H w = s10 H n + F w
  | 0, h, _ => by omega
  | n + 1, hw, h => by
    show s10 F n + F n + H w = s10 H n + H n + F w
    by_cases q : w = n
    · subst q
      rw [s10_congr (F := F) (H := H) fun i hi => h i (by omega) (by omega)]
      omega
    · have ih := s10_one (F := F) (H := H) (w := w) (n := n) (by omega) (fun i hi hn => h i (by omega) hn)
      have := h n (by omega) (fun t => q t.symm)
      omega
theorem s10_le {F : Nat → Nat} (h : ∀ i, F i ≤ 1) : ∀ n : Nat, s10 F n ≤ n
  | 0 => Nat.le_refl 0
  | n + 1 => by
    have h1 := s10_le h n
    have h2 := h n
    show s10 F n + F n ≤ n + 1
    omega
def lsC (rp : Nat → Nat) (nw d w : Nat) : Nat := s10 (fun v => if rp v < d ∨ (rp v = d ∧ v < w) then 1 else 0) nw
theorem lsC_step {rp : Nat → Nat} {nw d w : Nat} (hw : w < nw) : lsC rp nw d (w + 1) = lsC rp nw d w + (if rp w = d then 1 else 0) := by
  have h := s10_one (F := fun v => if rp v < d ∨ (rp v = d ∧ v < w + 1) then 1 else 0) (H := fun v => if rp v < d ∨ (rp v = d ∧ v < w) then 1 else 0) hw (fun i _ hn => by
    by_cases q : rp i < d ∨ (rp i = d ∧ i < w)
    · rw [if_pos q, if_pos (by omega)]
    · rw [if_neg q, if_neg (by omega)])
  unfold lsC
  by_cases q : rp w = d
  · rw [if_pos (show rp w < d ∨ (rp w = d ∧ w < w + 1) by omega), if_neg (show ¬ (rp w < d ∨ (rp w = d ∧ w < w)) by omega)] at h
    rw [if_pos q]
    omega
  · rw [if_neg q]
    by_cases q2 : rp w < d
    · rw [if_pos (show rp w < d ∨ (rp w = d ∧ w < w + 1) by omega), if_pos (show rp w < d ∨ (rp w = d ∧ w < w) by omega)] at h
      omega
    · rw [if_neg (show ¬ (rp w < d ∨ (rp w = d ∧ w < w + 1)) by omega), if_neg (show ¬ (rp w < d ∨ (rp w = d ∧ w < w)) by omega)] at h
      omega
theorem lsC_le (rp : Nat → Nat) (nw d w : Nat) : lsC rp nw d w ≤ nw := s10_le (fun i => by split <;> omega) nw
theorem lsC_next (rp : Nat → Nat) (nw d : Nat) : lsC rp nw d nw = lsC rp nw (d + 1) 0 := s10_congr fun i hi => by
  by_cases q : rp i < d ∨ (rp i = d ∧ i < nw)
  · rw [if_pos q, if_pos (by omega)]
  · rw [if_neg q, if_neg (by omega)]
theorem lsC_0 (rp : Nat → Nat) (nw : Nat) : lsC rp nw 0 0 = 0 := by
  unfold lsC
  rw [s10_congr (H := fun _ => 0) fun i _ => if_neg (by omega), s10_zero]
section Lists
variable {X : Nat × (Int → Int)} {mem : Mem} {nw : Nat} {wd : Nat → Nat → Int}
def onO3 (mem m : Mem) : Prop := (∀ x, x ≠ 22 → x ≠ 28 → x ≠ 29 → x ≠ 31 → x ≠ 32 → m x = mem x) ∧ ∀ j : Int, j ≠ 10 → m 22 j = mem 22 j
theorem onO2.o3 {m : Mem} (h : onO2 mem m) : onO3 mem m := ⟨fun x a b c _ _ => h.1 x a b c, h.2⟩
theorem onO3.tr {m1 m2 : Mem} (h : onO3 mem m1) (h2 : onO3 m1 m2) : onO3 mem m2 := ⟨fun x a b c d e => (h2.1 x a b c d e).trans (h.1 x a b c d e), fun j a => (h2.2 j a).trans (h.2 j a)⟩
theorem wdC.o3 {m : Mem} (h : wdC mem nw wd) (ho : onO3 mem m) : wdC m nw wd := ⟨h.1, (ho.2 4 (by decide)).trans h.2.1, fun k i hk hi => by rw [ho.1 (23 + k) (by omega) (by omega) (by omega) (by omega) (by omega)]; exact h.2.2 k i hk hi⟩
theorem ordAt.off {m : Mem} {O : List Nat} (h : ordAt mem O) (h10 : m 22 10 = mem 22 10) (h28 : m 28 = mem 28) (h29 : m 29 = mem 29) : ordAt m O := by
  unfold ordAt
  rw [h10, h28, h29]
  exact h
/-- what stands of the list when a word is looked at -/
def lstS (m : Mem) (nw : Nat) (rp : Nat → Nat) (d w n : Nat) : Prop := (∀ d' : Nat, d' < d → ripS m nw rp d') ∧ ∃ a : Nat, (d = 0 → a = 0) ∧ (0 < d → m 32 ((d - 1 : Nat) : Int) = (a : Int)) ∧ a ≤ n ∧ (∀ d' : Nat, d' < d → ∃ b : Nat, m 32 (d' : Int) = (b : Int) ∧ b ≤ a) ∧ (∀ i : Nat, a ≤ i → i < n → ∃ v : Nat, v < nw ∧ m 31 (i : Int) = (v : Int) ∧ rp v = d) ∧ (∀ v : Nat, v < w → v < nw → rp v = d → ∃ i : Nat, a ≤ i ∧ i < n ∧ m 31 (i : Int) = (v : Int))
theorem ripS.put {m : Mem} {rp : Nat → Nat} {d n : Nat} {v : Int} (h : ripS m nw rp d) (hb : ∀ b : Nat, m 32 (d : Int) = (b : Int) → b ≤ n) : ripS (mset m 31 (n : Int) v) nw rp d := by
  obtain ⟨a, b, h1, h2, h3, h4, h5, h6, h7⟩ := h
  have hbn := hb b h3
  refine ⟨a, b, h1, fun q => by rw [mset_ne _ (by decide)]; exact h2 q, by rw [mset_ne _ (by decide)]; exact h3, h4, h5, fun i p q => ?_, fun w p q => ?_⟩
  · obtain ⟨w, e1, e2, e3⟩ := h6 i p q
    exact ⟨w, e1, by rw [mset_nej _ _ (by omega)]; exact e2, e3⟩
  · obtain ⟨i, e1, e2, e3⟩ := h7 w p q
    exact ⟨i, e1, e2, by rw [mset_nej _ _ (by omega)]; exact e3⟩
theorem ripS.up {m : Mem} {rp : Nat → Nat} {d D : Nat} {v : Int} (h : ripS m nw rp d) (hd : d < D) : ripS (mset m 32 (D : Int) v) nw rp d := by
  obtain ⟨a, b, h1, h2, h3, h4, h5, h6, h7⟩ := h
  refine ⟨a, b, h1, fun q => by rw [mset_nej _ _ (by omega)]; exact h2 q, by rw [mset_nej _ _ (by omega)]; exact h3, h4, h5, fun i p q => ?_, fun w p q => ?_⟩
  · rw [mset_ne _ (by decide)]; exact h6 i p q
  · rw [mset_ne _ (by decide)]; exact h7 w p q
theorem cm_X10_orderWords {O R : List Nat} (hf : wdC mem nw wd) (hr : wdR nw wd) (hO : ordAt mem O) (hP : ordP O R) : CM X (0, 0) 3 mX10_orderWords G0 [vr 22] mem (pV G0 fun m => ∃ S R' : List Nat, ordAt m (O ++ S) ∧ ordP (O ++ S) R' ∧ (∀ w : Nat, w < nw → ∀ j, j < (wd 0 w).toNat → ltr (wd 1 w).toNat j ∈ O ++ S) ∧ (∀ d : Nat, d < 6 → ripS m nw (ripN m wd) d) ∧ onO3 mem m) := by
  have hn := hf.1
  refine CM.of (by decide +kernel) 3 (Nat.le_of_ble_eq_true rfl) ?_
  show ZZ X (0, 0) 3 mX10_orderWords G0 0 [vr 22, vd, vd, vd] [] mem _
  have second : ∀ (m0 : Mem) (S R' : List Nat), ordAt m0 (O ++ S) → ordP (O ++ S) R' → (∀ w : Nat, w < nw → ∀ j, j < (wd 0 w).toNat → ltr (wd 1 w).toNat j ∈ O ++ S) → onO3 mem m0 → ∀ (e d : Nat) (m : Mem) (u3 : VV), d + e = 6 → (∀ x, x ≠ 31 → x ≠ 32 → m x = m0 x) → lstS m nw (ripN m0 wd) d 0 (lsC (ripN m0 wd) nw d 0) → ZZ X (0, 0) 3 mX10_orderWords G0 36 [vr 22, vi (lsC (ripN m0 wd) nw d 0 : Int), vi (d : Int), u3] [] m (pV G0 fun m => ∃ S R' : List Nat, ordAt m (O ++ S) ∧ ordP (O ++ S) R' ∧ (∀ w : Nat, w < nw → ∀ j, j < (wd 0 w).toNat → ltr (wd 1 w).toNat j ∈ O ++ S) ∧ (∀ d : Nat, d < 6 → ripS m nw (ripN m wd) d) ∧ onO3 mem m) := by
    intro m0 S R' hO0 hP0 hin ho0 e
    have hrip := fun (w : Nat) (hw : w < nw) => rip_ok hr hO0 hw (hin w hw)
    generalize hrp : ripN m0 wd = rp at *
    induction e with
    | zero =>
      intro d m u3 hd ho hl
      have : d = 6 := by omega
      subst this
      have e29 : m 29 = m0 29 := ho 29 (by decide) (by decide)
      have e22 : m 22 = m0 22 := ho 22 (by decide) (by decide)
      have hrm : ripN m wd = rp := by
        rw [← hrp]
        funext w
        unfold ripN
        rw [e29]
      refine z_iload_n dX10_orderWords_36 rfl ?_
      refine z_bipush dX10_orderWords_37 (by decide) ?_
      refine z_icmp_ge 96 dX10_orderWords_39 (by decide) (fun h39 => ?_) (fun h39 => ?_)
      · refine z_vret dX10_orderWords_96 rfl ?_
        refine ⟨rfl, rfl, S, R', hO0.off (by rw [e22]) (ho 28 (by decide) (by decide)) e29, hP0, hin, fun d hd => ?_, ho0.tr ⟨fun x _ _ _ h4 h5 => ho x h4 h5, fun j _ => by rw [e22]⟩⟩
        rw [hrm]
        exact hl.1 d hd
      · omega
    | succ e ih =>
      intro d m u3 hd ho hl
      have inner : ∀ (k w : Nat) (m : Mem), w + k = nw → (∀ x, x ≠ 31 → x ≠ 32 → m x = m0 x) → lstS m nw rp d w (lsC rp nw d w) → ZZ X (0, 0) 3 mX10_orderWords G0 44 [vr 22, vi (lsC rp nw d w : Int), vi (d : Int), vi (w : Int)] [] m (pV G0 fun m => ∃ S R' : List Nat, ordAt m (O ++ S) ∧ ordP (O ++ S) R' ∧ (∀ w : Nat, w < nw → ∀ j, j < (wd 0 w).toNat → ltr (wd 1 w).toNat j ∈ O ++ S) ∧ (∀ d : Nat, d < 6 → ripS m nw (ripN m wd) d) ∧ onO3 mem m) := by
        intro k
        induction k with
        | zero =>
          intro w m hw ho hl
          have : w = nw := by omega
          subst this
          have hsz : m 22 4 = (w : Int) := by rw [ho 22 (by decide) (by decide)]; exact ((hf.o3 ho0).2.1)
          have hle := lsC_le rp w d w
          obtain ⟨l1, a, a1, a2, a3, a4, a5, a6⟩ := hl
          refine z_iload_n dX10_orderWords_44 rfl ?_
          refine z_aload_n dX10_orderWords_45 rfl ?_
          refine z_gI 4 dX10_orderWords_46 fl_X10_49 (by first | rfl | assumption) rfl rfl ?_
          rw [hsz]
          refine z_icmp_ge 83 dX10_orderWords_49 (by decide) (fun h49 => ?_) (fun h49 => ?_)
          · refine z_aload_n dX10_orderWords_83 rfl ?_
            refine z_getR (ty := .int) dX10_orderWords_84 fl_X10_39 (by first | rfl | assumption) rfl rfl ?_
            refine z_iload_n dX10_orderWords_87 rfl ?_
            refine z_iload_n dX10_orderWords_88 rfl ?_
            refine z_iast dX10_orderWords_89 (by first | rfl | assumption) (by omega) (by omega) ?_
            refine z_iinc dX10_orderWords_90 rfl (by omega) (by decide) rfl ?_
            dsimp only [List.set]
            refine z_goto 36 dX10_orderWords_93 (by decide) ?_
            rw [show (d : Int) + 1 = ((d + 1 : Nat) : Int) by omega]
            refine lsC_next rp w d ▸ ih (d + 1) _ _ (by omega) (fun x h1 h2 => (mset_ne _ h2 _ _).trans (ho x h1 h2)) ?_
            rw [← lsC_next rp w d]
            refine ⟨fun d' hd' => ?_, lsC rp w d w, fun q => by omega, fun _ => ?_, Nat.le_refl _, fun d' hd' => ?_, fun i p q => by omega, fun v p => by omega⟩
            · by_cases q : d' = d
              · subst q
                refine ⟨a, lsC rp w d' w, a1, fun q => by rw [mset_nej _ _ (by omega)]; exact a2 q, mset_eq _ _ _ _, a3, by omega, fun i p q => ?_, fun v p q => ?_⟩
                · rw [mset_ne _ (by decide)]; exact a5 i p q
                · rw [mset_ne _ (by decide)]; exact a6 v p p q
              · exact (l1 d' (by omega)).up (by omega)
            · rw [show d + 1 - 1 = d by omega]; exact mset_eq _ _ _ _
            · by_cases q : d' = d
              · subst q; exact ⟨_, mset_eq _ _ _ _, Nat.le_refl _⟩
              · obtain ⟨b, b1, b2⟩ := a4 d' (by omega)
                exact ⟨b, by rw [mset_nej _ _ (by omega)]; exact b1, by omega⟩
          · omega
        | succ k ihk =>
          intro w m hw ho hl
          have hsz : m 22 4 = (nw : Int) := by rw [ho 22 (by decide) (by decide)]; exact ((hf.o3 ho0).2.1)
          have hfm : wdC m nw wd := (hf.o3 ho0).o3 ⟨fun x _ _ _ h4 h5 => ho x h4 h5, fun j _ => by rw [ho 22 (by decide) (by decide)]⟩
          have hst := lsC_step (rp := rp) (nw := nw) (d := d) (w := w) (by omega)
          have hle := lsC_le rp nw d (w + 1)
          have hrw : ripW (m 29) (wd 1 w).toNat (wd 0 w).toNat (wd 0 w).toNat = (rp w : Int) := by
            rw [ho 29 (by decide) (by decide)]
            exact (hrip w (by omega)).1
          obtain ⟨l1, a, a1, a2, a3, a4, a5, a6⟩ := hl
          have nxt : ∀ m' : Mem, (∀ x, x ≠ 31 → x ≠ 32 → m' x = m0 x) → lstS m' nw rp d (w + 1) (lsC rp nw d (w + 1)) → ZZ X (0, 0) 3 mX10_orderWords G0 77 [vr 22, vi (lsC rp nw d (w + 1) : Int), vi (d : Int), vi (w : Int)] [] m' (pV G0 fun m => ∃ S R' : List Nat, ordAt m (O ++ S) ∧ ordP (O ++ S) R' ∧ (∀ w : Nat, w < nw → ∀ j, j < (wd 0 w).toNat → ltr (wd 1 w).toNat j ∈ O ++ S) ∧ (∀ d : Nat, d < 6 → ripS m nw (ripN m wd) d) ∧ onO3 mem m) := by
            intro m' ho' hl'
            refine z_iinc dX10_orderWords_77 rfl (by omega) (by decide) rfl ?_
            dsimp only [List.set]
            refine z_goto 44 dX10_orderWords_80 (by decide) ?_
            exact ihk (w + 1) m' (by omega) ho' hl'
          refine z_iload_n dX10_orderWords_44 rfl ?_
          refine z_aload_n dX10_orderWords_45 rfl ?_
          refine z_gI 4 dX10_orderWords_46 fl_X10_49 (by first | rfl | assumption) rfl rfl ?_
          rw [hsz]
          refine z_icmp_ge 83 dX10_orderWords_49 (by decide) (fun h49 => ?_) (fun h49 => ?_)
          · omega
          · refine z_aload_n dX10_orderWords_52 rfl ?_
            refine z_iload_n dX10_orderWords_53 rfl ?_
            refine z_V1i dX10_orderWords_54 ok_X10_ripeAt lk_X10_98 (by first | rfl | assumption) rfl rfl (Nat.le_of_ble_eq_true rfl) (by decide) (cm_X10_ripeAt hfm hr (by omega : w < nw)) (fun z1 m1 hm1 => ?_)
            obtain ⟨hz1, hmm⟩ := hm1
            subst hmm
            rw [hrw] at hz1
            subst hz1
            refine z_iload_n dX10_orderWords_57 rfl ?_
            refine z_icmp_ne 77 dX10_orderWords_58 (by decide) (fun h58 => ?_) (fun h58 => ?_)
            · rw [if_neg (by omega)] at hst
              first
              | (rw [show (lsC rp nw d w : Int) = (lsC rp nw d (w + 1) : Int) by omega]
                 refine nxt _ ho ⟨l1, a, a1, a2, by omega, a4, fun i p q => a5 i p (by omega), fun v p q t => ?_⟩
                 obtain ⟨i, i1, i2, i3⟩ := a6 v (by by_cases s : v = w; (subst s; omega); omega) q t
                 exact ⟨i, i1, by omega, i3⟩)
              | (rw [show (lsC rp nw d w : Int) + 1 = (lsC rp nw d (w + 1) : Int) by omega]
                 refine nxt _ (fun x h1 h2 => (mset_ne _ h1 _ _).trans (ho x h1 h2)) ⟨fun d' hd' => ?_, a, a1, fun q => by rw [mset_ne _ (by decide)]; exact a2 q, by omega, fun d' hd' => ?_, fun i p q => ?_, fun v p q t => ?_⟩
                 · refine (l1 d' hd').put (fun b hb => ?_)
                   obtain ⟨b', b1, b2⟩ := a4 d' hd'
                   omega
                 · rw [mset_ne _ (by decide)]; exact a4 d' hd'
                 · by_cases s : i = lsC rp nw d w
                   · subst s; exact ⟨w, by omega, mset_eq _ _ _ _, hrd⟩
                   · rw [mset_nej _ _ (by omega)]; exact a5 i p (by omega)
                 · by_cases s : v = w
                   · subst s; exact ⟨lsC rp nw d v, a3, by omega, mset_eq _ _ _ _⟩
                   · obtain ⟨i, i1, i2, i3⟩ := a6 v (by omega) q t
                     exact ⟨i, i1, by omega, by rw [mset_nej _ _ (by omega)]; exact i3⟩)
            · have hrd : rp w = d := by omega
              rw [if_pos hrd] at hst
              refine z_iload_n dX10_orderWords_61 rfl ?_
              refine z_bipush dX10_orderWords_62 (by decide) ?_
              refine z_icmp_ge 77 dX10_orderWords_64 (by decide) (fun h64 => ?_) (fun h64 => ?_)
              · omega
              · refine z_aload_n dX10_orderWords_67 rfl ?_
                refine z_getR (ty := .int) dX10_orderWords_68 fl_X10_36 (by first | rfl | assumption) rfl rfl ?_
                refine z_iload_n dX10_orderWords_71 rfl ?_
                refine z_iload_n dX10_orderWords_72 rfl ?_
                refine z_iast dX10_orderWords_73 (by first | rfl | assumption) (by omega) (by omega) ?_
                refine z_iinc dX10_orderWords_74 rfl (by omega) (by decide) rfl ?_
                dsimp only [List.set]
                first
                | (rw [show (lsC rp nw d w : Int) = (lsC rp nw d (w + 1) : Int) by omega]
                   refine nxt _ ho ⟨l1, a, a1, a2, by omega, a4, fun i p q => a5 i p (by omega), fun v p q t => ?_⟩
                   obtain ⟨i, i1, i2, i3⟩ := a6 v (by by_cases s : v = w; (subst s; omega); omega) q t
                   exact ⟨i, i1, by omega, i3⟩)
                | (rw [show (lsC rp nw d w : Int) + 1 = (lsC rp nw d (w + 1) : Int) by omega]
                   refine nxt _ (fun x h1 h2 => (mset_ne _ h1 _ _).trans (ho x h1 h2)) ⟨fun d' hd' => ?_, a, a1, fun q => by rw [mset_ne _ (by decide)]; exact a2 q, by omega, fun d' hd' => ?_, fun i p q => ?_, fun v p q t => ?_⟩
                   · refine (l1 d' hd').put (fun b hb => ?_)
                     obtain ⟨b', b1, b2⟩ := a4 d' hd'
                     omega
                   · rw [mset_ne _ (by decide)]; exact a4 d' hd'
                   · by_cases s : i = lsC rp nw d w
                     · subst s; exact ⟨w, by omega, mset_eq _ _ _ _, hrd⟩
                     · rw [mset_nej _ _ (by omega)]; exact a5 i p (by omega)
                   · by_cases s : v = w
                     · subst s; exact ⟨lsC rp nw d v, a3, by omega, mset_eq _ _ _ _⟩
                     · obtain ⟨i, i1, i2, i3⟩ := a6 v (by omega) q t
                       exact ⟨i, i1, by omega, by rw [mset_nej _ _ (by omega)]; exact i3⟩)
      refine z_kill 3 ?_
      dsimp only [List.set]
      refine z_iload_n dX10_orderWords_36 rfl ?_
      refine z_bipush dX10_orderWords_37 (by decide) ?_
      refine z_icmp_ge 96 dX10_orderWords_39 (by decide) (fun h39 => ?_) (fun h39 => ?_)
      · omega
      · refine z_iconst dX10_orderWords_42 (by decide) ?_
        refine z_istore_n dX10_orderWords_43 (by decide) rfl ?_
        dsimp only [List.set]
        exact inner nw 0 m (by omega) ho hl
  have first1 : ∀ (e w : Nat) (m : Mem) (u2 u3 : VV) (S R' : List Nat), w + e = nw → ordAt m (O ++ S) → ordP (O ++ S) R' → (∀ v : Nat, v < w → ∀ j, j < (wd 0 v).toNat → ltr (wd 1 v).toNat j ∈ O ++ S) → onO3 mem m → ZZ X (0, 0) 3 mX10_orderWords G0 2 [vr 22, vi (w : Int), u2, u3] [] m (pV G0 fun m => ∃ S R' : List Nat, ordAt m (O ++ S) ∧ ordP (O ++ S) R' ∧ (∀ w : Nat, w < nw → ∀ j, j < (wd 0 w).toNat → ltr (wd 1 w).toNat j ∈ O ++ S) ∧ (∀ d : Nat, d < 6 → ripS m nw (ripN m wd) d) ∧ onO3 mem m) := by
    intro e
    induction e with
    | zero =>
      intro w m u2 u3 S R' hw hO1 hP1 hin ho
      have : w = nw := by omega
      subst this
      have hsz := (hf.o3 ho).2.1
      have sec := second m S R' hO1 hP1 hin ho 6 0 m vd (by omega) (fun _ _ _ => rfl) ⟨fun d' hd' => by omega, 0, fun _ => rfl, fun q => by omega, Nat.zero_le _, fun d' hd' => by omega, fun i p q => by rw [lsC_0] at q; omega, fun v p => by omega⟩
      rw [lsC_0] at sec
      refine z_kill 2 ?_
      refine z_kill 3 ?_
      dsimp only [List.set]
      refine z_iload_n dX10_orderWords_2 rfl ?_
      refine z_aload_n dX10_orderWords_3 rfl ?_
      refine z_gI 4 dX10_orderWords_4 fl_X10_49 (by first | rfl | assumption) rfl rfl ?_
      rw [hsz]
      refine z_icmp_ge 32 dX10_orderWords_7 (by decide) (fun h7 => ?_) (fun h7 => ?_)
      · refine z_iconst dX10_orderWords_32 (by decide) ?_
        refine z_istore_n dX10_orderWords_33 (by decide) rfl ?_
        dsimp only [List.set]
        refine z_iconst dX10_orderWords_34 (by decide) ?_
        refine z_istore_n dX10_orderWords_35 (by decide) rfl ?_
        dsimp only [List.set]
        exact sec
      · omega
    | succ e ih =>
      intro w m u2 u3 S R' hw hO1 hP1 hin ho
      have hfm := hf.o3 ho
      have hsz := hfm.2.1
      obtain ⟨l, c, e0, e1, hl1, hl4, hc⟩ := hr.at (show w < nw by omega)
      have h23 := hfm.2.2 0 w (by decide) (by omega)
      have h24 := hfm.2.2 1 w (by decide) (by omega)
      obtain ⟨S', hS'⟩ := ordT_pre (O ++ S) c l l
      refine z_iload_n dX10_orderWords_2 rfl ?_
      refine z_aload_n dX10_orderWords_3 rfl ?_
      refine z_gI 4 dX10_orderWords_4 fl_X10_49 (by first | rfl | assumption) rfl rfl ?_
      rw [hsz]
      refine z_icmp_ge 32 dX10_orderWords_7 (by decide) (fun h7 => ?_) (fun h7 => ?_)
      · omega
      · refine z_aload_n dX10_orderWords_10 rfl ?_
        refine z_aload_n dX10_orderWords_11 rfl ?_
        refine z_getR (ty := .int) dX10_orderWords_12 fl_X10_11 (by first | rfl | assumption) rfl rfl ?_
        refine z_iload_n dX10_orderWords_15 rfl ?_
        refine z_iald dX10_orderWords_16 (by first | rfl | assumption) (by omega) (by omega) ?_
        rw [h23, e0]
        refine z_aload_n dX10_orderWords_17 rfl ?_
        refine z_getR (ty := .int) dX10_orderWords_18 fl_X10_15 (by first | rfl | assumption) rfl rfl ?_
        refine z_iload_n dX10_orderWords_21 rfl ?_
        refine z_iald dX10_orderWords_22 (by first | rfl | assumption) (by omega) (by omega) ?_
        rw [h24, e1]
        refine z_V2v dX10_orderWords_23 ok_X10_orderRow lk_X10_66 (by first | rfl | assumption) rfl rfl (Nat.le_of_ble_eq_true rfl) (by decide) (cm_X10_orderRow hO1 hP1 hl4 hc) (fun m1 hm1 => ?_)
        obtain ⟨q1, ⟨R2, q2⟩, q3⟩ := hm1
        refine z_iinc dX10_orderWords_26 rfl (by omega) (by decide) rfl ?_
        dsimp only [List.set]
        refine z_goto 2 dX10_orderWords_29 (by decide) ?_
        refine ih (w + 1) _ _ _ (S ++ S') R2 (by omega) ?_ ?_ (fun v hv j hj => ?_) (ho.tr q3.o3)
        · rw [← List.append_assoc, ← hS']; exact q1
        · rw [← List.append_assoc, ← hS']; exact q2
        · rw [← List.append_assoc]
          by_cases t : v = w
          · subst t
            rw [← hS']
            rw [e0, Int.toNat_natCast] at hj
            rw [e1, Int.toNat_natCast]
            exact ordT_all _ hj
          · exact List.mem_append.mpr (Or.inl (hin v (by omega) j hj))
  refine z_iconst dX10_orderWords_0 (by decide) ?_
  refine z_istore_n dX10_orderWords_1 (by decide) rfl ?_
  dsimp only [List.set]
  exact first1 nw 0 _ _ _ [] R (by omega) (by rw [List.append_nil]; exact hO) (by rw [List.append_nil]; exact hP) (fun v hv => by omega) ⟨fun _ _ _ _ _ _ => rfl, fun _ _ => rfl⟩
end Lists
