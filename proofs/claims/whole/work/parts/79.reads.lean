/-! ===== reads: the class ===== -/
section Reads
variable {X : Nat × (Int → Int)} {mem : Mem} {nw : Nat} {wd : Nat → Nat → Int} {O R : List Nat}
theorem six_nd : six.Nodup := by decide
theorem six_lt : ∀ a ∈ six, a < 6 := by decide
theorem six_mem {a : Nat} (h : a < 6) : a ∈ six := by
  simp only [six, List.mem_cons, List.not_mem_nil, or_false]
  omega
theorem keyC_pos {P : KP} (hP : resp P) : 0 < keyC nw wd P ↔ ∃ K, ext six (fun _ => 0) 0 K ∧ okK nw wd K = true ∧ P K = true := by
  unfold keyC
  rw [cnt_pos (resp_and (okK_resp nw wd) hP) six six_nd six_lt]
  constructor
  · rintro ⟨K, h1, h2⟩
    unfold andP at h2
    rw [Bool.and_eq_true] at h2
    exact ⟨K, h1, h2.1, h2.2⟩
  · rintro ⟨K, h1, h2, h3⟩
    refine ⟨K, h1, ?_⟩
    unfold andP
    rw [h2, h3]
    rfl
/-- a key, for the letters of the order alone -/
theorem restr (hP : ordP O R) (g : Int → Int) {K : Int → Int} (hK : ext six (fun _ => 0) 0 K) : ∃ k, ext O g 0 k ∧ ∀ a ∈ O, k (a : Int) = K (a : Int) := by
  have h6 : ∀ a ∈ O, a < 6 := fun a ha => hP.lt (List.mem_append.mpr (Or.inl ha))
  refine ⟨fun j => if j.toNat ∈ O then K j else g j, ⟨fun a _ hn => ?_, fun a ha => ?_, fun a ha b hb hab => ?_⟩, fun a ha => ?_⟩
  · dsimp only
    rw [Int.toNat_natCast, if_neg hn]
  · obtain ⟨f, h1, h2, h3⟩ := hK.2.1 a (six_mem (h6 a ha))
    refine ⟨f, h1, h2, ?_⟩
    dsimp only
    rw [Int.toNat_natCast, if_pos ha]
    exact h3
  · dsimp only
    rw [Int.toNat_natCast, if_pos ha, Int.toNat_natCast, if_pos hb]
    exact hK.2.2 a (six_mem (h6 a ha)) b (six_mem (h6 b hb)) hab
  · dsimp only
    rw [Int.toNat_natCast, if_pos ha]
theorem ok_on {k K : Int → Int} (hin : ∀ w : Nat, w < nw → ∀ j, j < (wd 0 w).toNat → ltr (wd 1 w).toNat j ∈ O) (h : ∀ a ∈ O, k (a : Int) = K (a : Int)) : okK nw wd k = true ↔ okK nw wd K = true := by
  rw [okK_iff, okK_iff]
  exact ⟨fun q w hw => (okWP_congr fun j hj => h _ (hin w hw j hj)).mp (q w hw), fun q w hw => (okWP_congr fun j hj => h _ (hin w hw j hj)).mpr (q w hw)⟩
theorem rd_of (hP : ordP O R) {g gs : Int → Int} {c n : Nat} {dn : Int} (hin : ∀ w : Nat, w < nw → ∀ j, j < (wd 0 w).toNat → ltr (wd 1 w).toNat j ∈ O) (hrow : ∀ j, j < n → ltr c j ∈ O) (he : ext O g 0 gs) (hok : okK nw wd gs = true) (hb : ∀ k, ext O g 0 k → okK nw wd k = true → leD dn (valN gs c n) (valN k c n)) : rdR nw wd c n dn (valN gs c n) := by
  have hlen := hP.len
  have hfull : ∀ v : Int, 0 < keyC nw wd (vlP c n v) → leD dn (valN gs c n) v := by
    intro v hv
    obtain ⟨K, k1, k2, k3⟩ := (keyC_pos (vlP_resp c n v)).mp hv
    obtain ⟨k, e1, e2⟩ := restr hP g k1
    have h1 := hb k e1 ((ok_on hin e2).mpr k2)
    rw [valN_congr (g := k) (k := K) fun j hj => e2 _ (hrow j hj), of_decide_eq_true k3] at h1
    exact h1
  obtain ⟨K, k1, k2⟩ := ext_more O g 0 gs hP.nd (fun a ha => hP.lt ha) (by rw [show crd 0 = 0 from rfl]; omega) he
  have e2 : ∀ a ∈ O, K (a : Int) = gs (a : Int) := fun a ha => k2 a (hP.lt (List.mem_append.mpr (Or.inl ha))) (fun q => hP.dj ha q)
  have hpos : 0 < keyC nw wd (vlP c n (valN gs c n)) := by
    rw [← key_any hP g (vlP_resp c n _)]
    refine (cnt_pos (resp_and (okK_resp nw wd) (vlP_resp c n _)) (O ++ R) hP.nd (fun a ha => hP.lt ha) g 0).mpr ⟨K, k1, ?_⟩
    unfold andP
    rw [(ok_on hin e2).mpr hok, Bool.true_and]
    exact decide_eq_true (valN_congr fun j hj => e2 _ (hrow j hj))
  refine ⟨fun q => ?_, fun _ => ⟨hpos, fun w v hv => ?_, fun w v hv => ?_⟩⟩
  · obtain ⟨K', a1, a2, -⟩ := (keyC_pos (vlP_resp c n _)).mp hpos
    have : 0 < keyC nw wd trP := (keyC_pos trP_resp).mpr ⟨K', a1, a2, rfl⟩
    omega
  · refine Nat.eq_zero_of_not_pos fun t => ?_
    have := (hfull v t).1 w
    omega
  · refine Nat.eq_zero_of_not_pos fun t => ?_
    have := (hfull v t).2 w
    omega
theorem okRow_nat {l c : Int} (h : okRow l c) : ∃ l' c' : Nat, l = (l' : Int) ∧ c = (c' : Int) ∧ 1 ≤ l' ∧ l' ≤ 4 ∧ c' < 1296 := by
  obtain ⟨⟨h1, h2⟩, h3, h4⟩ := h
  refine ⟨l.toNat, c.toNat, by omega, by omega, by omega, by omega, ?_⟩
  unfold rowsOf at h4
  split at h4
  · omega
  · split at h4
    · omega
    · split at h4 <;> omega
theorem cm_X10_extreme {l c : Nat} {dn : Int} (hl1 : 1 ≤ l) (hl : l ≤ 4) (hc' : c < 1296) (hdn : dn = 0 ∨ dn = 1) (hf : wdC mem nw wd) (hr : wdR nw wd) (hc : wcI mem nw wd) : CM X (0, 0) 10 mX10_extreme G0 [vr 22, vi (l : Int), vi (c : Int), vi dn] mem (pI G0 fun z m => rdR nw wd c l dn z ∧ wcI m nw wd ∧ onSA mem m) := by
  refine CM.of (by decide +kernel) 0 (Nat.le_of_ble_eq_true rfl) ?_
  show ZZ X (0, 0) 10 mX10_extreme G0 0 [vr 22, vi (l : Int), vi (c : Int), vi dn] [] mem _
  refine z_aload_n dX10_extreme_0 rfl ?_
  refine z_V0v dX10_extreme_1 ok_X10_searchAll lk_X10_57 (by first | rfl | assumption) rfl rfl (Nat.le_of_ble_eq_true rfl) (by omega) (cm_X10_searchAll hf hr hc) (fun m1 hm1 => ?_)
  obtain ⟨⟨f1, c1, c2, c3⟩, o1⟩ := hm1
  refine z_aload_n dX10_extreme_4 rfl ?_
  refine z_gI 6 dX10_extreme_5 fl_X10_60 (by first | rfl | assumption) rfl rfl ?_
  rw [c2]
  refine z_if_ne 13 dX10_extreme_8 (by decide) (fun h8 => ?_) (fun h8 => ?_)
  · have hk0 : 0 < keyC nw wd trP := by omega
    refine z_aload_n dX10_extreme_13 rfl ?_
    refine z_V0v dX10_extreme_14 ok_X10_startOrder lk_X10_63 (by first | rfl | assumption) rfl rfl (Nat.le_of_ble_eq_true rfl) (by omega) (cm_X10_startOrder) (fun m2 hm2 => ?_)
    obtain ⟨r2, o2⟩ := hm2
    refine z_aload_n dX10_extreme_17 rfl ?_
    refine z_iload_n dX10_extreme_18 rfl ?_
    refine z_iload_n dX10_extreme_19 rfl ?_
    refine z_V2v dX10_extreme_20 ok_X10_orderRow lk_X10_66 (by first | rfl | assumption) rfl rfl (Nat.le_of_ble_eq_true rfl) (by omega) (cm_X10_orderRow (R := six) r2 (List.Perm.refl _) hl hc') (fun m3 hm3 => ?_)
    obtain ⟨r3, ⟨R3, p3⟩, o3⟩ := hm3
    have oo3 := (o1.tr o2.sa).tr o3.sa
    refine z_aload_n dX10_extreme_23 rfl ?_
    refine z_V0v dX10_extreme_24 ok_X10_orderWords lk_X10_70 (by first | rfl | assumption) rfl rfl (Nat.le_of_ble_eq_true rfl) (by omega) (cm_X10_orderWords (hf.sa oo3) hr r3 p3) (fun m4 hm4 => ?_)
    obtain ⟨S, R', q1, q2, q3, q4, q5⟩ := hm4
    have oo4 := oo3.tr q5.sa
    have hst := stW.mk (hf.sa oo4) hr q1 q2 q3 q4
    have hlen := q2.len
    have g4 : m4 30 = m1 30 := by rw [q5.1 30 (by decide) (by decide) (by decide) (by decide) (by decide), o3.1 30 (by decide) (by decide) (by decide), o2.1 30 (by decide) (by decide) (by decide)]
    have g27 : m4 27 = m1 27 := by rw [q5.1 27 (by decide) (by decide) (by decide) (by decide) (by decide), o3.1 27 (by decide) (by decide) (by decide), o2.1 27 (by decide) (by decide) (by decide)]
    have g22 : ∀ j : Int, j ≠ 10 → m4 22 j = m1 22 j := fun j hj => by rw [q5.2 j hj, o3.2 j hj, o2.2 j hj]
    have hrowO : ∀ j, j < l → ltr c j ∈ ordT [] c l l ++ S := fun j hj => List.mem_append.mpr (Or.inl (ordT_all [] hj))
    refine z_aload_n dX10_extreme_27 rfl ?_
    refine z_iconst dX10_extreme_28 (by decide) ?_
    refine z_iconst dX10_extreme_29 (by decide) ?_
    refine z_iload_n dX10_extreme_30 rfl ?_
    refine z_S4i dX10_extreme_31 ok_X10_seek lk_X10_73 (Nat.le_of_ble_eq_true rfl) (by omega) (cm_X10_seek (c := c) (n := l) hdn (fun d hd => row_ord c l S hd) (ordT [] c l l ++ S).length 0 0 m4 (by omega) hst (by decide) (by rw [g4]; exact f1) (fun w _ q => by omega)) (fun z5 m5 hm5 => ?_)
    obtain ⟨o5, f5, a5, n5, y5⟩ := hm5
    rw [List.drop_zero] at n5 y5
    have hz : ¬ z5 = 0 := by
      intro t
      obtain ⟨K, k1, k2, -⟩ := (keyC_pos trP_resp).mp hk0
      obtain ⟨k, e1, e2⟩ := restr q2 (m4 30) k1
      exact n5 t k e1 ((ok_on q3 e2).mpr k2)
    obtain ⟨y1, y2, y3⟩ := y5 hz
    have oo5 : onSA m4 m5 := ⟨fun x hx => o5 x (by omega), fun j _ _ _ => by rw [o5 22 (by decide)]⟩
    refine z_pop dX10_extreme_34 (by intro z q; cases q) ?_
    refine z_aload_n dX10_extreme_35 rfl ?_
    refine z_iload_n dX10_extreme_36 rfl ?_
    refine z_iload_n dX10_extreme_37 rfl ?_
    refine z_V2i dX10_extreme_38 ok_X10_valueOf lk_X10_77 (by first | rfl | assumption) rfl rfl (Nat.le_of_ble_eq_true rfl) (by omega) (cm_X10_valueOf f5 hl hc') (fun z6 m6 hm6 => ?_)
    obtain ⟨hz6, hmm⟩ := hm6
    subst hmm
    subst hz6
    refine z_iret dX10_extreme_41 rfl ?_
    refine ⟨rfl, _, rfl, rd_of q2 q3 hrowO y1 y2 y3, ⟨f5, Or.inr ⟨?_, ?_, fun a ha => ?_⟩⟩, oo4.tr oo5⟩
    · rw [o5 22 (by decide), g22 5 (by decide)]; exact c1
    · rw [o5 22 (by decide), g22 6 (by decide)]; exact c2
    · rw [o5 27 (by decide), g27]; exact c3 a ha
  · have hk0 : keyC nw wd trP = 0 := by omega
    refine z_iconst dX10_extreme_11 (by decide) ?_
    refine z_iret dX10_extreme_12 rfl ?_
    exact ⟨rfl, _, rfl, ⟨fun _ => rfl, fun q => by omega⟩, ⟨f1, Or.inr ⟨c1, c2, c3⟩⟩, o1⟩
def rsA (nw : Nat) (wd : Nat → Nat → Int) (l c wh z : Int) : Prop := (¬ (okRow l c ∧ 0 ≤ wh ∧ wh ≤ 1) → z = -2) ∧ (okRow l c ∧ 0 ≤ wh ∧ wh ≤ 1 → rdR nw wd c.toNat l.toNat wh z)
theorem cm_X11_reads {l c wh : Int} (hf : wdC mem nw wd) (hr : wdR nw wd) (hc : wcI mem nw wd) : CM X (0, 0) 11 mX11_reads G0 [vr 0, vi l, vi c, vi wh] mem (pI G0 fun z m => rsA nw wd l c wh z ∧ wcI m nw wd ∧ onSA mem m) := by
  refine CM.of (by decide +kernel) 0 (Nat.le_of_ble_eq_true rfl) ?_
  show ZZ X (0, 0) 11 mX11_reads G0 0 [vr 0, vi l, vi c, vi wh] [] mem _
  refine z_iload_n dX11_reads_0 rfl ?_
  refine z_iload_n dX11_reads_1 rfl ?_
  refine z_S2i dX11_reads_2 ok_X10_isRow lk_X11_159 (Nat.le_of_ble_eq_true rfl) (by decide) (cm_X10_isRow) (fun z1 m1 hm1 => ?_)
  obtain ⟨hz1, hmm⟩ := hm1
  subst hmm
  refine z_if_eq 17 dX11_reads_5 (by decide) (fun h5 => ?_) (fun h5 => ?_)
  · have no1 := hz1.no h5
    refine z_bipush dX11_reads_17 (by decide) ?_
    refine z_iret dX11_reads_19 rfl ?_
    first
    | exact ⟨rfl, _, rfl, ⟨fun _ => rfl, fun q => absurd q.1 no1⟩, hc, onSA.rf⟩
    | exact ⟨rfl, _, rfl, ⟨fun _ => rfl, fun q => absurd q.2 no2⟩, hc, onSA.rf⟩
  · have yes1 := hz1.yes h5
    obtain ⟨l', c', rfl, rfl, a1, a2, a3⟩ := okRow_nat yes1
    refine z_iload_n dX11_reads_8 rfl ?_
    refine z_iconst dX11_reads_9 (by decide) ?_
    refine z_iconst dX11_reads_10 (by decide) ?_
    refine z_S3i dX11_reads_11 ok_X11_within lk_X11_83 (Nat.le_of_ble_eq_true rfl) (by decide) (cm_X11_within) (fun z2 m2 hm2 => ?_)
    obtain ⟨hz2, hmm⟩ := hm2
    subst hmm
    refine z_if_ne 20 dX11_reads_14 (by decide) (fun h14 => ?_) (fun h14 => ?_)
    · have yes2 := hz2.yes h14
      refine z_aload_n dX11_reads_20 rfl ?_
      refine z_getR (ty := .int) dX11_reads_21 fl_X11_40 (by first | rfl | assumption) rfl rfl ?_
      refine z_iload_n dX11_reads_24 rfl ?_
      refine z_iload_n dX11_reads_25 rfl ?_
      refine z_iload_n dX11_reads_26 rfl ?_
      refine z_iconst dX11_reads_27 (by decide) ?_
      refine z_icmp_ne 35 dX11_reads_28 (by decide) (fun h28 => ?_) (fun h28 => ?_)
      · have hwh : wh = 0 := by omega
        refine z_iconst dX11_reads_35 (by decide) ?_
        refine z_V3i dX11_reads_36 ok_X10_extreme lk_X11_174 (by first | rfl | assumption) rfl rfl (Nat.le_of_ble_eq_true rfl) (by decide) (cm_X10_extreme a1 a2 a3 (by omega) hf hr hc) (fun z3 m3 hm3 => ?_)
        refine z_iret dX11_reads_39 rfl ?_
        refine ⟨rfl, _, rfl, ⟨fun q => absurd ⟨yes1, yes2⟩ q, fun _ => ?_⟩, hm3.2⟩
        rw [Int.toNat_natCast, Int.toNat_natCast, hwh]
        exact hm3.1
      · have hwh : wh = 1 := by omega
        refine z_iconst dX11_reads_31 (by decide) ?_
        refine z_goto 36 dX11_reads_32 (by decide) ?_
        refine z_V3i dX11_reads_36 ok_X10_extreme lk_X11_174 (by first | rfl | assumption) rfl rfl (Nat.le_of_ble_eq_true rfl) (by decide) (cm_X10_extreme a1 a2 a3 (by omega) hf hr hc) (fun z3 m3 hm3 => ?_)
        refine z_iret dX11_reads_39 rfl ?_
        refine ⟨rfl, _, rfl, ⟨fun q => absurd ⟨yes1, yes2⟩ q, fun _ => ?_⟩, hm3.2⟩
        rw [Int.toNat_natCast, Int.toNat_natCast, hwh]
        exact hm3.1
    · have no2 := hz2.no h14
      refine z_bipush dX11_reads_17 (by decide) ?_
      refine z_iret dX11_reads_19 rfl ?_
      first
      | exact ⟨rfl, _, rfl, ⟨fun _ => rfl, fun q => absurd q.1 no1⟩, hc, onSA.rf⟩
      | exact ⟨rfl, _, rfl, ⟨fun _ => rfl, fun q => absurd q.2 no2⟩, hc, onSA.rf⟩
end Reads
