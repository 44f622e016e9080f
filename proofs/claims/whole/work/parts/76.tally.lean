/-! ===== tally ===== -/
theorem s10_mono {F : Nat → Nat} {a : Nat} : ∀ {b : Nat}, a ≤ b → s10 F a ≤ s10 F b
  | 0, h => by rw [show a = 0 by omega]; exact Nat.le_refl _
  | b + 1, h => by
    by_cases q : a = b + 1
    · rw [q]; exact Nat.le_refl _
    · exact Nat.le_trans (s10_mono (b := b) (by omega)) (Nat.le_add_right _ _)
section Tally
variable {X : Nat × (Int → Int)} {mem : Mem} {nw : Nat} {wd : Nat → Nat → Int} {O R : List Nat} {rp : Nat → Nat}
/-- what the search stands on -/
def stW (m : Mem) (nw : Nat) (wd : Nat → Nat → Int) (O R : List Nat) (rp : Nat → Nat) : Prop := wdC m nw wd ∧ wdR nw wd ∧ ordAt m O ∧ ordP O R ∧ (∀ d : Nat, d < 6 → ripS m nw rp d) ∧ ∀ w : Nat, w < nw → rp w < O.length ∧ ∀ j, j < (wd 0 w).toNat → ∃ i : Nat, i ≤ rp w ∧ i < O.length ∧ ltr (wd 1 w).toNat j = O.getD i 0
def onT (mem m : Mem) : Prop := (∀ x, x ≠ 22 → x ≠ 27 → x ≠ 30 → m x = mem x) ∧ ∀ j : Int, j ≠ 6 → m 22 j = mem 22 j
theorem onT.rf : onT mem mem := ⟨fun _ _ _ _ => rfl, fun _ _ => rfl⟩
theorem onT.tr {m1 m2 : Mem} (h : onT mem m1) (h2 : onT m1 m2) : onT mem m2 := ⟨fun x a b c => (h2.1 x a b c).trans (h.1 x a b c), fun j a => (h2.2 j a).trans (h.2 j a)⟩
theorem stW.off {m : Mem} (h : stW mem nw wd O R rp) (ho : onT mem m) : stW m nw wd O R rp := by
  obtain ⟨h1, h2, h3, h4, h5, h6⟩ := h
  refine ⟨⟨h1.1, (ho.2 4 (by decide)).trans h1.2.1, fun k i hk hi => by rw [ho.1 (23 + k) (by omega) (by omega) (by omega)]; exact h1.2.2 k i hk hi⟩, h2, h3.off (ho.2 10 (by decide)) (ho.1 28 (by decide) (by decide) (by decide)) (ho.1 29 (by decide) (by decide) (by decide)), h4, fun d hd => ?_, h6⟩
  have e := h5 d hd
  unfold ripS at e ⊢
  rw [ho.1 31 (by decide) (by decide) (by decide), ho.1 32 (by decide) (by decide) (by decide)]
  exact e
/-- a letter that has its place already is none of those to come -/
theorem ord_take (hP : ordP O R) {i e : Nat} (hi : i < e) (hil : i < O.length) : O.getD i 0 ∉ O.drop e ++ R := by
  intro h
  rcases List.mem_append.mp h with q | q
  · obtain ⟨j, hj, he⟩ := List.getElem_of_mem q
    rw [List.length_drop] at hj
    rw [List.getElem_drop] at he
    have hn : O.Nodup := (List.nodup_append.mp hP.nd).1
    have := (List.pairwise_iff_getElem.mp hn) i (e + j) hil (by omega) (by omega)
    rw [List.getD_eq_getElem?_getD, List.getElem?_eq_getElem hil, Option.getD_some] at he
    exact this he.symm
  · exact hP.dj (getD_memN hil) q
theorem drop_at {d : Nat} (hd : d < O.length) : O.drop d = O.getD d 0 :: O.drop (d + 1) := by
  rw [List.drop_eq_getElem_cons hd, List.getD_eq_getElem?_getD, List.getElem?_eq_getElem hd, Option.getD_some]
/-- no key beyond a word that fails -/
theorem tally_no (hs : stW mem nw wd O R rp) {g : Int → Int} {d U : Nat} {P : KP} (hno : ¬ ∀ w : Nat, w < nw → rp w = d → okWP wd g w) : cnt (andP (okK nw wd) P) (O.drop (d + 1) ++ R) g U = 0 := by
  obtain ⟨-, -, -, hP, -, h6⟩ := hs
  have hnd : (O.drop (d + 1) ++ R).Nodup := by
    refine List.Nodup.sublist ?_ hP.nd
    exact List.Sublist.append (List.drop_sublist _ _) (List.Sublist.refl _)
  rw [cnt_eq (Q := fun _ => false) _ hnd (fun a ha => hP.lt (by rcases List.mem_append.mp ha with q | q; exact List.mem_append.mpr (Or.inl (List.mem_of_mem_drop q)); exact List.mem_append.mpr (Or.inr q))) g U (fun k hk => ?_)]
  · exact cnt_none _ _ _
  · unfold andP
    cases hq : okK nw wd k
    · rfl
    · refine absurd (fun w hw hrw => ?_) hno
      refine (okWP_congr fun j hj => ?_).mp (okK_iff.mp hq w hw)
      obtain ⟨i, i1, i2, i3⟩ := (h6 w hw).2 j hj
      rw [i3]
      exact hk.1 _ (hP.lt (List.mem_append.mpr (Or.inl (getD_memN i2)))) (ord_take hP (by omega) i2)
/-- all letters of words have figures -/
theorem tally_yes (hs : stW mem nw wd O R rp) {g : Int → Int} {U : Nat} {P : KP} (hyes : ∀ w : Nat, w < nw → okWP wd g w) : cnt (andP (okK nw wd) P) R g U = cnt P R g U := by
  obtain ⟨-, -, -, hP, -, h6⟩ := hs
  refine cnt_eq R (List.nodup_append.mp hP.nd).2.1 (fun a ha => hP.lt (List.mem_append.mpr (Or.inr ha))) g U (fun k hk => ?_)
  unfold andP
  rw [okK_iff.mpr fun w hw => (okWP_congr fun j hj => ?_).mpr (hyes w hw), Bool.true_and]
  obtain ⟨i, i1, i2, i3⟩ := (h6 w hw).2 j hj
  rw [i3]
  exact hk.1 _ (hP.lt (List.mem_append.mpr (Or.inl (getD_memN i2)))) (fun q => hP.dj (getD_memN i2) q)
/-- what letters may be that no word uses -/
theorem note_fg (hP : ordP O R) {g : Int → Int} {U l f : Nat} (hU : crd U = O.length) (hl : l < 6) (hf : f < 10) : decide (0 < cnt (fgP l f) R g U) = noteP O g U l f := by
  have hR : R.Nodup := (List.nodup_append.mp hP.nd).2.1
  have hR6 : ∀ a ∈ R, a < 6 := fun a ha => hP.lt (List.mem_append.mpr (Or.inr ha))
  have hlen := hP.len
  unfold noteP
  by_cases q : l ∈ O
  · rw [if_pos q]
    have hlR : l ∉ R := fun t => hP.dj q t
    congr 1
    refine propext ?_
    rw [cnt_pos (fgP_resp hl) R hR hR6]
    constructor
    · rintro ⟨k, hk, hkf⟩
      have := of_decide_eq_true hkf
      rw [← hk.1 l hl hlR]
      exact this
    · intro hgf
      have hp : 0 < cnt (fun _ => true) R g U := by
        rw [cnt_true, hU]
        exact fallN_pos _ _ (by omega)
      obtain ⟨k, hk, -⟩ := (cnt_pos (P := fun _ => true) (fun _ _ _ => rfl) R hR hR6 g U).mp hp
      refine ⟨k, hk, decide_eq_true ?_⟩
      rw [hk.1 l hl hlR]
      exact hgf
  · rw [if_neg q]
    have hlR : l ∈ R := by
      rcases hP.all hl with t | t
      · exact absurd t q
      · exact t
    cases hb : U.testBit f
    · refine decide_eq_true ?_
      have hpe := List.perm_cons_erase hlR
      have hne := (List.Perm.nodup_iff hpe).mp hR
      rw [cnt_perm hpe hR]
      refine s10_pos.mpr ⟨f, hf, ?_⟩
      rw [hb, if_neg (by decide)]
      have hlt : ∀ a ∈ R.erase l, a < 6 := fun a ha => hR6 a (List.mem_of_mem_erase ha)
      rw [cnt_eq (P := fgP l f) (Q := fun _ => true) (R.erase l) (List.nodup_cons.mp hne).2 hlt (updF g (l : Int) (f : Int)) (U ||| 2 ^ f) (fun k hk => (decide_eq_true (by rw [hk.1 l hl (List.nodup_cons.mp hne).1, updF_eq]) : decide (k (l : Int) = (f : Int)) = true)), cnt_true, crd_or hb hf, hU]
      have hle := hpe.length_eq
      rw [List.length_cons] at hle
      exact fallN_pos _ _ (by omega)
    · refine decide_eq_false fun hp => ?_
      obtain ⟨k, hk, hkf⟩ := (cnt_pos (fgP_resp hl) R hR hR6 g U).mp hp
      obtain ⟨f', h1, h2, h3⟩ := hk.2.1 l hlR
      have := of_decide_eq_true hkf
      have hff : f' = f := by omega
      subst hff
      rw [hb] at h2
      cases h2
/-- what has been told of keys -/
def accC (mem m : Mem) (K : KP → Nat) : Prop := m 22 6 = mem 22 6 + (K trP : Int) ∧ ∀ l : Nat, l < 6 → bOr (mem 27 (l : Int)) (m 27 (l : Int)) (fun f => decide (0 < K (fgP l f)))
theorem accC.rf (hb : bitsR mem) {K : KP → Nat} (hK : ∀ P, resp P → K P = 0) : accC mem mem K := by
  refine ⟨by rw [hK _ trP_resp]; omega, fun l hl => bOr.rf (hb l hl) fun f _ => ?_⟩
  rw [hK _ (fgP_resp hl)]
  rfl
theorem accC.tr {m1 m2 : Mem} {K1 K2 K : KP → Nat} (h1 : accC mem m1 K1) (h2 : accC m1 m2 K2) (hK : ∀ P, resp P → K P = K1 P + K2 P) : accC mem m2 K := by
  refine ⟨by rw [h2.1, h1.1, hK _ trP_resp]; omega, fun l hl => (h1.2 l hl).tr (h2.2 l hl) fun f _ => ?_⟩
  rw [hK _ (fgP_resp hl)]
  by_cases q1 : 0 < K1 (fgP l f)
  · rw [decide_eq_true q1, Bool.true_or]
    exact decide_eq_true (by omega)
  · rw [decide_eq_false q1, Bool.false_or]
    by_cases q2 : 0 < K2 (fgP l f)
    · rw [decide_eq_true q2, decide_eq_true (by omega)]
    · rw [decide_eq_false q2, decide_eq_false (by omega)]
theorem accC.br {m : Mem} {K : KP → Nat} (h : accC mem m K) : bitsR m := fun l hl => by
  obtain ⟨a, b, e1, e2, e3, e4, e5⟩ := h.2 l hl
  exact ⟨b, e3, e4⟩
theorem cm_X10_tally : ∀ (r d U : Nat) (mem : Mem), d + r = O.length → stW mem nw wd O R rp → U < 1024 → crd U = d → figR (mem 30) → bitsR mem → 0 ≤ mem 22 6 → mem 22 6 + (cnt (andP (okK nw wd) trP) (O.drop d ++ R) (mem 30) U : Int) ≤ 1000000 → (∀ w : Nat, w < nw → rp w < d → okWP wd (mem 30) w) → CM X (0, 0) (r + 2) mX10_tally G0 [vr 22, vi (d : Int), vi (U : Int)] mem (pV G0 fun m => accC mem m (fun P => cnt (andP (okK nw wd) P) (O.drop d ++ R) (mem 30) U) ∧ onT mem m ∧ figR (m 30) ∧ ∀ a : Nat, a < 6 → a ∉ O.drop d → m 30 (a : Int) = mem 30 (a : Int)) := by
  intro r
  induction r with
  | zero =>
    intro d U mem hd hs hU hc hg hb h0 h1 hw
    have hdO : d = O.length := by omega
    subst hdO
    have hlen := hs.2.2.2.1.len
    rw [List.drop_length, List.nil_append] at h1 ⊢
    have hall : ∀ w : Nat, w < nw → okWP wd (mem 30) w := fun w hw' => hw w hw' (hs.2.2.2.2.2 w hw').1
    have key := fun P : KP => tally_yes (P := P) (U := U) hs hall
    refine CM.of (by decide +kernel) 1 (Nat.le_of_ble_eq_true rfl) ?_
    show ZZ X (0, 0) 2 mX10_tally G0 0 [vr 22, vi (O.length : Int), vi (U : Int), vd] [] mem _
    refine z_iload_n dX10_tally_0 rfl ?_
    refine z_aload_n dX10_tally_1 rfl ?_
    refine z_gI 10 dX10_tally_2 fl_X10_91 (by first | rfl | assumption) rfl rfl ?_
    rw [hs.2.2.1.1]
    refine z_icmp_ge 14 dX10_tally_5 (by decide) (fun h5 => ?_) (fun h5 => ?_)
    · refine z_aload_n dX10_tally_14 rfl ?_
      refine z_iload_n dX10_tally_15 rfl ?_
      refine z_V1v dX10_tally_16 ok_X10_note lk_X10_107 (by first | rfl | assumption) rfl rfl (Nat.le_of_ble_eq_true rfl) (by decide) (cm_X10_note hs.2.2.1 hs.2.2.2.1 hU hg hb h0 (by omega)) (fun m1 hm1 => ?_)
      obtain ⟨q1, q2, q3, q4⟩ := hm1
      refine z_vret dX10_tally_19 rfl ?_
      refine ⟨rfl, rfl, ⟨?_, fun l hl => ?_⟩, ⟨fun x a b c => q3 x a b, q4⟩, ?_, fun a _ _ => by rw [q3 30 (by decide) (by decide)]⟩
      · rw [q1]
        show _ = _ + ((cnt (andP (okK nw wd) trP) R (mem 30) U : Nat) : Int)
        rw [key]
        show _ = _ + ((cnt (fun _ => true) R (mem 30) U : Nat) : Int)
        rw [cnt_true, hc]
      · obtain ⟨a, b, e1, e2, e3, e4, e5⟩ := q2 l hl
        refine ⟨a, b, e1, e2, e3, e4, fun f hf => ?_⟩
        show _ = (_ || decide (0 < cnt (andP (okK nw wd) (fgP l f)) R (mem 30) U))
        rw [e5 f hf, key, note_fg hs.2.2.2.1 hc hl hf]
      · rw [q3 30 (by decide) (by decide)]; exact hg
    · omega
  | succ r ihr =>
    intro d U mem hd hs hU hc hg hb h0 h1 hw
    have hdl : d < O.length := by omega
    have hlen := hs.2.2.2.1.len
    have hP := hs.2.2.2.1
    obtain ⟨a, ha⟩ : ∃ a, a = O.getD d 0 := ⟨_, rfl⟩
    have haO : a ∈ O := by rw [ha]; exact getD_memN hdl
    have ha6 : a < 6 := hP.lt (List.mem_append.mpr (Or.inl haO))
    have hdr : O.drop d = a :: O.drop (d + 1) := by rw [ha]; exact drop_at hdl
    have hnd : (O.drop d ++ R).Nodup := List.Nodup.sublist (List.Sublist.append (List.drop_sublist _ _) (List.Sublist.refl _)) hP.nd
    have hcn : ∀ P : KP, cnt P (O.drop d ++ R) (mem 30) U = s10 (fun f => if U.testBit f = true then 0 else cnt P (O.drop (d + 1) ++ R) (updF (mem 30) (a : Int) (f : Int)) (U ||| 2 ^ f)) 10 := fun P => by
      rw [hdr]
      rfl
    have loop : ∀ (e f : Nat) (m : Mem), f + e = 10 → accC mem m (fun P => s10 (fun f => if U.testBit f = true then 0 else cnt (andP (okK nw wd) P) (O.drop (d + 1) ++ R) (updF (mem 30) (a : Int) (f : Int)) (U ||| 2 ^ f)) f) → onT mem m → figR (m 30) → (∀ b : Nat, b < 6 → b ∉ O.drop d → m 30 (b : Int) = mem 30 (b : Int)) → ZZ X (0, 0) (r + 1 + 2) mX10_tally G0 22 [vr 22, vi (d : Int), vi (U : Int), vi (f : Int)] [] m (pV G0 fun m => accC mem m (fun P => cnt (andP (okK nw wd) P) (O.drop d ++ R) (mem 30) U) ∧ onT mem m ∧ figR (m 30) ∧ ∀ a : Nat, a < 6 → a ∉ O.drop d → m 30 (a : Int) = mem 30 (a : Int)) := by
      intro e
      induction e with
      | zero =>
        intro f m hf hac ho hgm hag
        have : f = 10 := by omega
        subst this
        refine z_iload_n dX10_tally_22 rfl ?_
        refine z_bipush dX10_tally_23 (by decide) ?_
        refine z_icmp_ge 74 dX10_tally_25 (by decide) (fun h25 => ?_) (fun h25 => ?_)
        · refine z_vret dX10_tally_74 rfl ?_
          refine ⟨rfl, rfl, ?_, ho, hgm, hag⟩
          have e : (fun P : KP => cnt (andP (okK nw wd) P) (O.drop d ++ R) (mem 30) U) = fun P => s10 (fun f => if U.testBit f = true then 0 else cnt (andP (okK nw wd) P) (O.drop (d + 1) ++ R) (updF (mem 30) (a : Int) (f : Int)) (U ||| 2 ^ f)) 10 := funext fun P => hcn _
          rw [e]
          exact hac
        · omega
      | succ e ih =>
        intro f m hf hac ho hgm hag
        have hsm := hs.off ho
        have hbit := bit_at (n := U) (w := f) (by omega) (by omega)
        have nxt : ∀ m' : Mem, accC m m' (fun P => if U.testBit f = true then 0 else cnt (andP (okK nw wd) P) (O.drop (d + 1) ++ R) (updF (mem 30) (a : Int) (f : Int)) (U ||| 2 ^ f)) → onT m m' → figR (m' 30) → (∀ b : Nat, b < 6 → b ∉ O.drop d → m' 30 (b : Int) = m 30 (b : Int)) → ZZ X (0, 0) (r + 1 + 2) mX10_tally G0 68 [vr 22, vi (d : Int), vi (U : Int), vi (f : Int)] [] m' (pV G0 fun m => accC mem m (fun P => cnt (andP (okK nw wd) P) (O.drop d ++ R) (mem 30) U) ∧ onT mem m ∧ figR (m 30) ∧ ∀ a : Nat, a < 6 → a ∉ O.drop d → m 30 (a : Int) = mem 30 (a : Int)) := by
          intro m' hac' ho' hgm' hag'
          refine z_iinc dX10_tally_68 rfl (by omega) (by decide) rfl ?_
          dsimp only [List.set]
          refine z_goto 22 dX10_tally_71 (by decide) ?_
          exact ih (f + 1) m' (by omega) (hac.tr hac' fun P _ => rfl) (ho.tr ho') hgm' (fun b hb hn => (hag' b hb hn).trans (hag b hb hn))
        have h28 : m 28 (d : Int) = (a : Int) := by rw [ha]; exact hsm.2.2.1.2.1 d hdl
        refine z_iload_n dX10_tally_22 rfl ?_
        refine z_bipush dX10_tally_23 (by decide) ?_
        refine z_icmp_ge 74 dX10_tally_25 (by decide) (fun h25 => ?_) (fun h25 => ?_)
        · omega
        · refine z_iload_n dX10_tally_28 rfl ?_
          refine z_iload_n dX10_tally_29 rfl ?_
          refine z_ishr dX10_tally_30 ?_
          refine z_iconst dX10_tally_31 (by decide) ?_
          refine z_iand dX10_tally_32 ?_
          rw [hbit]
          refine z_if_ne 68 dX10_tally_33 (by decide) (fun h33 => ?_) (fun h33 => ?_)
          · have htb : U.testBit f = true := by rw [tb_dm]; exact decide_eq_true (by omega)
            first
            | exact nxt _ (accC.rf hac.br fun P _ => if_pos htb) onT.rf hgm (fun _ _ _ => rfl)
            | exact nxt _ acY (o1.tr o3) fr3 (fun b hb6 hn => (ag3 b hb6 (fun t => hn (by rw [hdr]; exact List.mem_cons_of_mem _ t))).trans (ag1 b hb6 hn))
            | exact nxt _ acN o1 fr1 ag1
          · have htb : U.testBit f = false := by rw [tb_dm]; exact decide_eq_false (by omega)
            refine z_aload_n dX10_tally_36 rfl ?_
            refine z_getR (ty := .int) dX10_tally_37 fl_X10_33 (by first | rfl | assumption) rfl rfl ?_
            refine z_aload_n dX10_tally_40 rfl ?_
            refine z_getR (ty := .int) dX10_tally_41 fl_X10_27 (by first | rfl | assumption) rfl rfl ?_
            refine z_iload_n dX10_tally_44 rfl ?_
            refine z_iald dX10_tally_45 (by first | rfl | assumption) (by omega) (by omega) ?_
            rw [h28]
            refine z_iload_n dX10_tally_46 rfl ?_
            refine z_iast dX10_tally_47 (by first | rfl | assumption) (by omega) (by omega) ?_
            generalize hm1 : mset m 30 (a : Int) (f : Int) = m1
            have o1 : onT m m1 := by rw [← hm1]; exact ⟨fun x _ _ h3 => mset_ne _ h3 _ _, fun j _ => by rw [mset_ne _ (by decide)]⟩
            have g1 : m1 30 = updF (m 30) (a : Int) (f : Int) := by rw [← hm1, mset_at]; rfl
            have e27 : m1 27 = m 27 := by rw [← hm1, mset_ne _ (by decide)]
            have e22 : m1 22 = m 22 := by rw [← hm1, mset_ne _ (by decide)]
            have fr1 : figR (m1 30) := by
              intro b hb6
              rw [g1]
              by_cases q : b = a
              · subst q; rw [updF_eq]; omega
              · rw [updF_ne _ _ (by omega)]; exact hgm b hb6
            have hs1 := hsm.off o1
            have ac1 : accC m m1 (fun _ => 0) := by
              refine ⟨by rw [e22]; show _ = _ + ((0 : Nat) : Int); omega, fun l hl => ?_⟩
              rw [e27]
              exact bOr.rf (hac.br l hl) fun f _ => rfl
            have ag1 : ∀ b : Nat, b < 6 → b ∉ O.drop d → m1 30 (b : Int) = m 30 (b : Int) := by
              intro b hb6 hn
              rw [g1, updF_ne _ _ (by intro t; exact hn (by rw [hdr, show b = a by omega]; exact List.mem_cons_self))]
            have hcg : ∀ P : KP, resp P → cnt (andP (okK nw wd) P) (O.drop (d + 1) ++ R) (updF (mem 30) (a : Int) (f : Int)) (U ||| 2 ^ f) = cnt (andP (okK nw wd) P) (O.drop (d + 1) ++ R) (m1 30) (U ||| 2 ^ f) := by
              intro P hPr
              refine cnt_congr (resp_and (okK_resp nw wd) hPr) _ _ _ _ (fun b hb6 hn => ?_)
              rw [g1]
              by_cases q : b = a
              · subst q; rw [updF_eq, updF_eq]
              · rw [updF_ne _ _ (by omega), updF_ne _ _ (by omega)]
                refine (hag b hb6 fun t => ?_).symm
                rw [hdr] at t
                rcases List.mem_cons.mp t with t | t
                · exact q t
                · exact hn (List.mem_append.mpr (Or.inl t))
            have hFs : m 22 6 = mem 22 6 + ((s10 (fun f => if U.testBit f = true then 0 else cnt (andP (okK nw wd) trP) (O.drop (d + 1) ++ R) (updF (mem 30) (a : Int) (f : Int)) (U ||| 2 ^ f)) f : Nat) : Int) := hac.1
            refine z_aload_n dX10_tally_48 rfl ?_
            refine z_iload_n dX10_tally_49 rfl ?_
            refine z_V1i dX10_tally_50 ok_X10_holdAt lk_X10_111 (by first | rfl | assumption) rfl rfl (Nat.le_of_ble_eq_true rfl) (by omega) (cm_X10_holdAt hs1.1 hs1.2.1 fr1 (by omega : d < 6) (hs1.2.2.2.2.1 d (by omega))) (fun z1 m2 hm2 => ?_)
            obtain ⟨hz1, hmm⟩ := hm2
            subst hmm
            refine z_if_eq 68 dX10_tally_53 (by decide) (fun h53 => ?_) (fun h53 => ?_)
            · have hno := hz1.no h53
              have acN := ac1.tr (K2 := fun P => cnt (andP (okK nw wd) P) (O.drop (d + 1) ++ R) (m2 30) (U ||| 2 ^ f)) (accC.rf ac1.br fun P _ => tally_no hs1 hno) (K := fun P => if U.testBit f = true then 0 else cnt (andP (okK nw wd) P) (O.drop (d + 1) ++ R) (updF (mem 30) (a : Int) (f : Int)) (U ||| 2 ^ f)) (fun P hPr => by rw [htb, if_neg (by decide), hcg P hPr, Nat.zero_add])
              first
              | exact nxt _ (accC.rf hac.br fun P _ => if_pos htb) onT.rf hgm (fun _ _ _ => rfl)
              | exact nxt _ acY (o1.tr o3) fr3 (fun b hb6 hn => (ag3 b hb6 (fun t => hn (by rw [hdr]; exact List.mem_cons_of_mem _ t))).trans (ag1 b hb6 hn))
              | exact nxt _ acN o1 fr1 ag1
            · have hyes := hz1.yes h53
              refine z_aload_n dX10_tally_56 rfl ?_
              refine z_iload_n dX10_tally_57 rfl ?_
              refine z_iconst dX10_tally_58 (by decide) ?_
              refine z_iadd dX10_tally_59 (by omega) ?_
              rw [show (d : Int) + 1 = ((d + 1 : Nat) : Int) by omega]
              refine z_iload_n dX10_tally_60 rfl ?_
              refine z_iconst dX10_tally_61 (by decide) ?_
              refine z_iload_n dX10_tally_62 rfl ?_
              refine z_ishl dX10_tally_63 ?_
              rw [shl1' (by omega)]
              refine z_ior dX10_tally_64 ?_
              rw [ior_nat (by omega) (by have : 2 ^ f ≤ 2 ^ 9 := Nat.pow_le_pow_right (by decide) (by omega); omega)]
              have hF := hcn (andP (okK nw wd) trP)
              have hmono := s10_mono (F := fun f => if U.testBit f = true then 0 else cnt (andP (okK nw wd) trP) (O.drop (d + 1) ++ R) (updF (mem 30) (a : Int) (f : Int)) (U ||| 2 ^ f)) (a := f + 1) (b := 10) (by omega)
              have hstep : s10 (fun f => if U.testBit f = true then 0 else cnt (andP (okK nw wd) trP) (O.drop (d + 1) ++ R) (updF (mem 30) (a : Int) (f : Int)) (U ||| 2 ^ f)) (f + 1) = s10 (fun f => if U.testBit f = true then 0 else cnt (andP (okK nw wd) trP) (O.drop (d + 1) ++ R) (updF (mem 30) (a : Int) (f : Int)) (U ||| 2 ^ f)) f + cnt (andP (okK nw wd) trP) (O.drop (d + 1) ++ R) (m2 30) (U ||| 2 ^ f) := by
                show s10 _ f + (if U.testBit f = true then 0 else cnt (andP (okK nw wd) trP) (O.drop (d + 1) ++ R) (updF (mem 30) (a : Int) (f : Int)) (U ||| 2 ^ f)) = _
                rw [htb, if_neg (by decide), hcg trP trP_resp]
              have hw1 : ∀ w : Nat, w < nw → rp w < d + 1 → okWP wd (m2 30) w := by
                intro w hw' hrw
                by_cases q : rp w = d
                · exact hyes w hw' q
                · refine (okWP_congr fun j hj => ?_).mp (hw w hw' (by omega))
                  obtain ⟨i, i1, i2, i3⟩ := (hs.2.2.2.2.2 w hw').2 j hj
                  have hi6 := hP.lt (List.mem_append.mpr (Or.inl (getD_memN i2)))
                  have hnn : O.getD i 0 ∉ O.drop d := fun t => ord_take hP (by omega : i < d) i2 (List.mem_append.mpr (Or.inl t))
                  rw [i3, ag1 _ hi6 hnn, hag _ hi6 hnn]
              refine z_S3v dX10_tally_65 ok_X10_tally lk_X10_87 (Nat.le_of_ble_eq_true rfl) (by omega) (ihr (d + 1) (U ||| 2 ^ f) _ (by omega) hs1 (or_lt ⟨U, hU⟩ ⟨f, by omega⟩) (by rw [crd_or htb (by omega), hc]) fr1 ac1.br (by rw [e22]; omega) (by rw [e22]; omega) hw1) (fun m3 hm3 => ?_)
              obtain ⟨ac3, o3, fr3, ag3⟩ := hm3
              have acY := ac1.tr ac3 (K := fun P => if U.testBit f = true then 0 else cnt (andP (okK nw wd) P) (O.drop (d + 1) ++ R) (updF (mem 30) (a : Int) (f : Int)) (U ||| 2 ^ f)) (fun P hPr => by rw [htb, if_neg (by decide), hcg P hPr, Nat.zero_add])
              first
              | exact nxt _ (accC.rf hac.br fun P _ => if_pos htb) onT.rf hgm (fun _ _ _ => rfl)
              | exact nxt _ acY (o1.tr o3) fr3 (fun b hb6 hn => (ag3 b hb6 (fun t => hn (by rw [hdr]; exact List.mem_cons_of_mem _ t))).trans (ag1 b hb6 hn))
              | exact nxt _ acN o1 fr1 ag1
    refine CM.of (by decide +kernel) 1 (Nat.le_of_ble_eq_true rfl) ?_
    show ZZ X (0, 0) (r + 1 + 2) mX10_tally G0 0 [vr 22, vi (d : Int), vi (U : Int), vd] [] mem _
    refine z_iload_n dX10_tally_0 rfl ?_
    refine z_aload_n dX10_tally_1 rfl ?_
    refine z_gI 10 dX10_tally_2 fl_X10_91 (by first | rfl | assumption) rfl rfl ?_
    rw [hs.2.2.1.1]
    refine z_icmp_ge 14 dX10_tally_5 (by decide) (fun h5 => ?_) (fun h5 => ?_)
    · omega
    · refine z_iload_n dX10_tally_8 rfl ?_
      refine z_bipush dX10_tally_9 (by decide) ?_
      refine z_icmp_lt 20 dX10_tally_11 (by decide) (fun h11 => ?_) (fun h11 => ?_)
      · refine z_iconst dX10_tally_20 (by decide) ?_
        refine z_istore_n dX10_tally_21 (by decide) rfl ?_
        dsimp only [List.set]
        exact loop 10 0 _ (by omega) (accC.rf hb fun _ _ => rfl) onT.rf hg (fun _ _ _ => rfl)
      · omega
end Tally
