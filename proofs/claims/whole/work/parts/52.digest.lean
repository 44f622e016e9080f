/-! ===== the whole state on both sides; digest ===== -/
theorem mxF_0 (f : Int → Int) (h : Int) : mxF f 0 h = h := rfl
section Dig
variable {X : Nat × (Int → Int)} {mem : Mem} {nf np nw a b : Nat} {fd pr fr bk wd : Nat → Nat → Int} {mo : Int}
def zsC (mem : Mem) (nf : Nat) (fd : Nat → Nat → Int) (np : Nat) (pr : Nat → Nat → Int) (nw : Nat) (wd fr bk : Nat → Nat → Int) (mo : Int) (a b : Nat) : Prop := finC mem nf fd ∧ prC mem np pr ∧ wdC mem nw wd ∧ frC mem fr ∧ bkC mem bk ∧ mem 0 10 = mo ∧ fracAt mem 79 a b
def zsM (mem : Mem) (nf : Nat) (fd : Nat → Nat → Int) (np : Nat) (pr : Nat → Nat → Int) (nw : Nat) (wd fr bk : Nat → Nat → Int) (mo : Int) (a b : Nat) : Prop := finM mem nf fd ∧ prM mem np pr ∧ wdM mem nw wd ∧ frM mem fr ∧ bkM mem bk ∧ mem 88 4 = mo ∧ regAt mem 0 a ∧ regAt mem 1 b
theorem regAt.kp {m : Mem} {r v : Nat} (h : regAt mem r v) (h1 : m 89 = mem 89) (h2 : m 90 = mem 90) : regAt m r v := by
  unfold regAt rowM at *
  rw [h1, h2]
  exact h
theorem fracAt.kp {m : Mem} (h : fracAt mem 79 a b) (hk : ∀ x, 80 ≤ x → x ≤ 83 → m x = mem x) : fracAt m 79 a b :=
  ⟨h.1.kept (hk 80 (by decide) (by decide)) (hk 81 (by decide) (by decide)), h.2.kept (hk 82 (by decide) (by decide)) (hk 83 (by decide) (by decide))⟩
/-- all but the fraction, on the class's side -/
theorem zsC.off {m : Mem} {a' b' : Nat} (h : zsC mem nf fd np pr nw wd fr bk mo a b) (hk : ∀ x, x ≤ 7 ∨ (23 ≤ x ∧ x ≤ 26) ∨ (69 ≤ x ∧ x ≤ 78) → m x = mem x) (h22 : m 22 4 = mem 22 4) (h68 : m 68 3 = mem 68 3) (hf : fracAt m 79 a' b') : zsC m nf fd np pr nw wd fr bk mo a' b' := by
  obtain ⟨q1, ⟨p1, p2, p3⟩, ⟨w1, w2, w3⟩, q4, q5, q6, -⟩ := h
  refine ⟨q1.off fun x h1 h2 => hk x (by omega), ⟨p1, h68.trans p2, fun k i c e => ?_⟩, ⟨w1, h22.trans w2, fun k i c e => ?_⟩, fun k i c e => ?_, fun k i c e => ?_, ?_, hf⟩
  · rw [hk _ (by omega)]; exact p3 k i c e
  · rw [hk _ (by omega)]; exact w3 k i c e
  · rw [hk _ (by omega)]; exact q4 k i c e
  · rw [hk _ (by omega)]; exact q5 k i c e
  · rw [hk 0 (by omega)]; exact q6
theorem zsC.all {m : Mem} (h : zsC mem nf fd np pr nw wd fr bk mo a b) (hk : ∀ x, x ≤ 7 ∨ (22 ≤ x ∧ x ≤ 26) ∨ (68 ≤ x ∧ x ≤ 83) → m x = mem x) : zsC m nf fd np pr nw wd fr bk mo a b :=
  h.off (fun x hx => hk x (by omega)) (by rw [hk 22 (by omega)]) (by rw [hk 68 (by omega)]) (h.2.2.2.2.2.2.kp fun x h1 h2 => hk x (by omega))
theorem zsM.off {m : Mem} {a' b' : Nat} (h : zsM mem nf fd np pr nw wd fr bk mo a b) (hk : ∀ x, x = 91 ∨ x = 95 ∨ x = 102 ∨ x = 103 ∨ x = 32 → m x = mem x) (h88 : ∀ j, j = 3 ∨ j = 4 ∨ j = 13 ∨ j = 29 → m 88 j = mem 88 j) (h0 : regAt m 0 a') (h1 : regAt m 1 b') : zsM m nf fd np pr nw wd fr bk mo a' b' := by
  obtain ⟨q1, ⟨p1, p2, p3⟩, ⟨w1, w2, w3⟩, q4, q5, q6, -⟩ := h
  refine ⟨q1.off (h88 3 (by omega)) (hk 91 (by omega)), ⟨p1, (h88 29 (by omega)).trans p2, fun k i c e => ?_⟩, ⟨w1, (h88 13 (by omega)).trans w2, fun k i c e => ?_⟩, fun k i c e => ?_, fun k i c e => ?_, (h88 4 (by omega)).trans q6, h0, h1⟩
  · rw [hk 102 (by omega)]; exact p3 k i c e
  · rw [hk 95 (by omega)]; exact w3 k i c e
  · rw [hk 103 (by omega)]; exact q4 k i c e
  · rw [hk 32 (by omega)]; exact q5 k i c e
theorem zsM.all {m : Mem} (h : zsM mem nf fd np pr nw wd fr bk mo a b) (hk : ∀ x, (89 ≤ x ∧ x ≤ 91) ∨ x = 95 ∨ x = 102 ∨ x = 103 ∨ x = 32 → m x = mem x) (h88 : ∀ j, j = 3 ∨ j = 4 ∨ j = 13 ∨ j = 29 → m 88 j = mem 88 j) : zsM m nf fd np pr nw wd fr bk mo a b :=
  h.off (fun x hx => hk x (by omega)) h88 (h.2.2.2.2.2.2.1.kp (hk 89 (by omega)) (hk 90 (by omega))) (h.2.2.2.2.2.2.2.kp (hk 89 (by omega)) (hk 90 (by omega)))
/-- the digest's parts -/
def dgT (nf : Nat) (fd : Nat → Nat → Int) (k mk : Nat) : Int := if k < 3 then numA nf fd (mk : Int) (k : Int) else rnA nf fd (mk : Int) 0
def dgS (a na nb : Nat) (j : Int) : Int := if j = 0 then (if a = 0 then 0 else 1) else if j = 1 then (na : Int) else (nb : Int)
def dgL (v : Nat) (j : Int) : Int := ((v / 1073741824 ^ j.toNat % 1073741824 : Nat) : Int)
def dg1 (nf nw np : Nat) (fd bk : Nat → Nat → Int) : Int := mxF (cntA nf nw np fd bk) 5 433
def dg2 (nf nw np : Nat) (fd bk : Nat → Nat → Int) : Int := mxF (flt 6 fd) (6 * nf) (dg1 nf nw np fd bk)
def dg3 (nf nw np : Nat) (fd bk : Nat → Nat → Int) : Int := mxF (flt 4 (dgT nf fd)) (4 * 6) (dg2 nf nw np fd bk)
def dg8 (nf nw np : Nat) (fd pr wd fr bk : Nat → Nat → Int) (mo : Int) : Int := mxF (flt 3 bk) (3 * 6) (mxF (flt 2 fr) (2 * 4) (mxF (flt 3 pr) (3 * np) (mxF (flt 4 wd) (4 * nw) (mx (dg3 nf nw np fd bk) mo))))
def dgA (nf nw np : Nat) (fd pr wd fr bk : Nat → Nat → Int) (mo : Int) (a b : Nat) (z : Int) : Prop := ∃ na nb : Nat, isSz a na ∧ isSz b nb ∧ z = mxF (dgL b) nb (mxF (dgL a) na (mxF (dgS a na nb) 3 (dg8 nf nw np fd pr wd fr bk mo)))
theorem dgA.uniq {z z' : Int} (h : dgA nf nw np fd pr wd fr bk mo a b z) (h' : dgA nf nw np fd pr wd fr bk mo a b z') : z = z' := by
  obtain ⟨na, nb, h1, h2, h3⟩ := h
  obtain ⟨na', nb', k1, k2, k3⟩ := h'
  obtain rfl := h1.uniq k1
  obtain rfl := h2.uniq k2
  rw [h3, k3]
theorem sgA.dg {na nb : Nat} (ha : isSz a na) (hb : isSz b nb) {j : Nat} (hj : j < 3) {z : Int} (h : sgA a b (j : Int) z) : z = dgS a na nb (j : Int) := by
  obtain ⟨-, h2, h3, h4⟩ := h
  unfold dgS
  obtain rfl | rfl | rfl : j = 0 ∨ j = 1 ∨ j = 2 := by omega
  · exact h2 rfl
  · obtain ⟨n, e1, e2⟩ := h3 rfl
    rw [e2, e1.uniq ha]
    rfl
  · obtain ⟨n, e1, e2⟩ := h4 rfl
    rw [e2, e1.uniq hb]
    rfl
theorem dgT_row (nf : Nat) (fd : Nat → Nat → Int) (i : Nat) (h : Int) : mxF (flt 4 (dgT nf fd)) (4 * (i + 1)) h = mx (mx (mx (mx (mxF (flt 4 (dgT nf fd)) (4 * i) h) (dgT nf fd 0 i)) (dgT nf fd 1 i)) (dgT nf fd 2 i)) (dgT nf fd 3 i) := by
  show mx (mx (mx (mx (mxF (flt 4 (dgT nf fd)) (4 * i) h) (flt 4 (dgT nf fd) ((4 * i + 0 : Nat) : Int))) (flt 4 (dgT nf fd) ((4 * i + 1 : Nat) : Int))) (flt 4 (dgT nf fd) ((4 * i + 2 : Nat) : Int))) (flt 4 (dgT nf fd) ((4 * i + 3 : Nat) : Int)) = _
  rw [flt_at (c := 4) (k := 0) (by decide), flt_at (c := 4) (k := 1) (by decide), flt_at (c := 4) (k := 2) (by decide), flt_at (c := 4) (k := 3) (by decide)]
/-- inside the row of one maker -/
def dgR (nf : Nat) (fd : Nat → Nat → Int) (i : Nat) : Nat → Int → Int
  | 0, h => mxF (flt 4 (dgT nf fd)) (4 * i) h
  | k + 1, h => mx (dgR nf fd i k h) (dgT nf fd k i)
theorem dgR4 (nf : Nat) (fd : Nat → Nat → Int) (i : Nat) (h : Int) : dgR nf fd i 4 h = mxF (flt 4 (dgT nf fd)) (4 * (i + 1)) h := (dgT_row nf fd i h).symm
theorem cm_X11_digest (hst : zsC mem nf fd np pr nw wd fr bk mo a b) (hr : finR nf fd) : CM X (0, 0) 3 mX11_digest G0 [vr 0] mem (pL G0 fun z m => dgA nf nw np fd pr wd fr bk mo a b z ∧ ∀ x, x ≠ 8 → x ≠ 9 → x ≠ 33 → x ≠ 34 → m x = mem x) := by
  obtain ⟨na, -, -, hna, -⟩ := natAt_sz hst.2.2.2.2.2.2.1
  obtain ⟨nb, -, -, hnb, -⟩ := natAt_sz hst.2.2.2.2.2.2.2
  refine CM.of (by decide +kernel) 4 (Nat.le_of_ble_eq_true rfl) ?_
  show ZZ X (0, 0) 3 mX11_digest G0 0 [vr 0, vd, vd, vd, vd] [] mem _
  have five : ∀ (d i : Nat) (m : Mem), i + d = 3 → (∀ x, x ≠ 8 → x ≠ 9 → x ≠ 33 → x ≠ 34 → m x = mem x) → ZZ X (0, 0) 3 mX11_digest G0 147 [vr 0, vl (mxF (dgS a na nb) i (dg8 nf nw np fd pr wd fr bk mo)), vd, vi (i : Int), vd] [] m (pL G0 fun z m => dgA nf nw np fd pr wd fr bk mo a b z ∧ ∀ x, x ≠ 8 → x ≠ 9 → x ≠ 33 → x ≠ 34 → m x = mem x) := by
    intro d
    induction d with
    | zero =>
      intro i m hi hon
      have hs : zsC m nf fd np pr nw wd fr bk mo a b := hst.all fun x hx => hon x (by omega) (by omega) (by omega) (by omega)
      have : i = 3 := by omega
      subst this
      refine z_iload_n dX11_digest_147 rfl ?_
      refine z_iconst dX11_digest_148 (by decide) ?_
      refine z_icmp_gt 171 dX11_digest_149 (by decide) (fun h149 => ?_) (fun h149 => ?_)
      · refine z_aload_n dX11_digest_171 rfl ?_
        refine z_getR (ty := .int) dX11_digest_172 fl_X11_75 (by first | rfl | assumption) rfl rfl ?_
        refine z_getR (ty := .int) dX11_digest_175 fl_X11_256 (by first | rfl | assumption) rfl rfl ?_
        refine z_aload_n dX11_digest_178 rfl ?_
        refine z_getR (ty := .int) dX11_digest_179 fl_X11_75 (by first | rfl | assumption) rfl rfl ?_
        refine z_getR (ty := .int) dX11_digest_182 fl_X11_250 (by first | rfl | assumption) rfl rfl ?_
        refine z_lload_n dX11_digest_185 rfl ?_
        refine z_V1l dX11_digest_186 ok_X8_mix lk_X11_293 (by first | rfl | assumption) rfl rfl (Nat.le_of_ble_eq_true rfl) (by decide) (cm_X8_mixV isN_80 hs.2.2.2.2.2.2.1) (fun z1 m1 hm1 => ?_)
        obtain ⟨⟨n1, hn1, rfl⟩, rfl⟩ := hm1
        refine z_V1l dX11_digest_189 ok_X8_mix lk_X11_293 (by first | rfl | assumption) rfl rfl (Nat.le_of_ble_eq_true rfl) (by decide) (cm_X8_mixV isN_82 hs.2.2.2.2.2.2.2) (fun z2 m2 hm2 => ?_)
        obtain ⟨⟨n2, hn2, rfl⟩, rfl⟩ := hm2
        obtain rfl := hn1.uniq hna
        obtain rfl := hn2.uniq hnb
        refine z_lret dX11_digest_192 rfl ?_
        exact ⟨rfl, _, rfl, ⟨_, _, hn1, hn2, rfl⟩, hon⟩
      · omega
    | succ d ih =>
      intro i m hi hon
      have hs : zsC m nf fd np pr nw wd fr bk mo a b := hst.all fun x hx => hon x (by omega) (by omega) (by omega) (by omega)
      have ih' := ih (i + 1) m (by omega) hon
      rw [mxF_s] at ih'
      refine z_iload_n dX11_digest_147 rfl ?_
      refine z_iconst dX11_digest_148 (by decide) ?_
      refine z_icmp_gt 171 dX11_digest_149 (by decide) (fun h149 => ?_) (fun h149 => ?_)
      · omega
      · refine z_ldc2 (z := 31) dX11_digest_152 kc_X11_271 (by decide) ?_
        refine z_lload_n dX11_digest_155 rfl ?_
        refine z_lmulw dX11_digest_156 ?_
        refine z_aload_n dX11_digest_157 rfl ?_
        refine z_iload_n dX11_digest_158 rfl ?_
        refine z_V1i dX11_digest_159 ok_X11_sign lk_X11_290 (by first | rfl | assumption) rfl rfl (Nat.le_of_ble_eq_true rfl) (by decide) (cm_X11_sign (wh := (i : Int)) hs.2.2.2.2.2.2) (fun z1 m1 hm1 => ?_)
        obtain ⟨hz, rfl⟩ := hm1
        obtain rfl := sgA.dg hna hnb (by omega) hz
        refine z_i2l dX11_digest_162 ?_
        refine z_laddw dX11_digest_163 ?_
        refine z_lstore_n dX11_digest_164 (by decide) rfl ?_
        dsimp only [List.set]
        refine z_iinc dX11_digest_165 rfl (by omega) (by decide) rfl ?_
        dsimp only [List.set]
        refine z_goto 147 dX11_digest_168 (by decide) ?_
        exact ih'
  have four : ∀ (m : Mem), (∀ x, x ≠ 8 → x ≠ 9 → x ≠ 33 → x ≠ 34 → m x = mem x) → ∀ u : VV, (∀ z, u ≠ vl z) → ZZ X (0, 0) 3 mX11_digest G0 97 [vr 0, vl (dg3 nf nw np fd bk), vd, vi 6, u] [] m (pL G0 fun z m => dgA nf nw np fd pr wd fr bk mo a b z ∧ ∀ x, x ≠ 8 → x ≠ 9 → x ≠ 33 → x ≠ 34 → m x = mem x) := by
    intro m hon u hu
    have hs : zsC m nf fd np pr nw wd fr bk mo a b := hst.all fun x hx => hon x (by omega) (by omega) (by omega) (by omega)
    obtain ⟨s1, s2, s3, s4, s5, s6, -⟩ := hs
    refine z_kill 4 ?_
    dsimp only [List.set]
    refine z_ldc2 (z := 31) dX11_digest_97 kc_X11_271 (by decide) ?_
    refine z_lload_n dX11_digest_100 rfl ?_
    refine z_lmulw dX11_digest_101 ?_
    refine z_aload_n dX11_digest_102 rfl ?_
    refine z_gI 10 dX11_digest_103 fl_X11_79 (by first | rfl | assumption) rfl rfl ?_
    rw [s6]
    refine z_i2l dX11_digest_106 ?_
    refine z_laddw dX11_digest_107 ?_
    refine z_lstore_n dX11_digest_108 (by decide) rfl ?_
    dsimp only [List.set]
    refine z_aload_n dX11_digest_109 rfl ?_
    refine z_getR (ty := .int) dX11_digest_110 fl_X11_40 (by first | rfl | assumption) rfl rfl ?_
    refine z_lload_n dX11_digest_113 rfl ?_
    refine z_V1l dX11_digest_114 ok_X10_mix lk_X11_286 (by first | rfl | assumption) rfl rfl (Nat.le_of_ble_eq_true rfl) (by decide) (cm_X10_mix s3) (fun z1 m1 hm1 => ?_)
    obtain ⟨rfl, rfl⟩ := hm1
    refine z_lstore_n dX11_digest_117 (by decide) rfl ?_
    dsimp only [List.set]
    refine z_aload_n dX11_digest_118 rfl ?_
    refine z_getR (ty := .int) dX11_digest_119 fl_X11_54 (by first | rfl | assumption) rfl rfl ?_
    refine z_lload_n dX11_digest_122 rfl ?_
    refine z_V1l dX11_digest_123 ok_X0_mix lk_X11_287 (by first | rfl | assumption) rfl rfl (Nat.le_of_ble_eq_true rfl) (by decide) (cm_X0_mix s2) (fun z1 m1 hm1 => ?_)
    obtain ⟨rfl, rfl⟩ := hm1
    refine z_lstore_n dX11_digest_126 (by decide) rfl ?_
    dsimp only [List.set]
    refine z_aload_n dX11_digest_127 rfl ?_
    refine z_getR (ty := .int) dX11_digest_128 fl_X11_61 (by first | rfl | assumption) rfl rfl ?_
    refine z_lload_n dX11_digest_131 rfl ?_
    refine z_V1l dX11_digest_132 ok_X5_mix lk_X11_288 (by first | rfl | assumption) rfl rfl (Nat.le_of_ble_eq_true rfl) (by decide) (cm_X5_mix s4) (fun z5 m5 hm5 => ?_)
    have hz5 := hm5.1
    have hmm5 := hm5.2
    clear hm5
    subst hmm5
    refine z_lstore_n dX11_digest_135 (by decide) rfl ?_
    dsimp only [List.set]
    refine z_aload_n dX11_digest_136 rfl ?_
    refine z_getR (ty := .int) dX11_digest_137 fl_X11_68 (by first | rfl | assumption) rfl rfl ?_
    refine z_lload_n dX11_digest_140 rfl ?_
    refine z_V1l dX11_digest_141 ok_X1_mix lk_X11_289 (by first | rfl | assumption) rfl rfl (Nat.le_of_ble_eq_true rfl) (by decide) (cm_X1_mix s5) (fun z9 m9 hm9 => ?_)
    have hz9 := hm9.1
    have hmm9 := hm9.2
    clear hm9
    subst hmm9
    have e8 : z9 = dg8 nf nw np fd pr wd fr bk mo := by
      unfold dg8 mx
      rw [hz9, hz5]
    rw [e8]
    refine z_lstore_n dX11_digest_144 (by decide) rfl ?_
    dsimp only [List.set]
    refine z_iconst dX11_digest_145 (by decide) ?_
    refine z_istore_n dX11_digest_146 (by decide) rfl ?_
    dsimp only [List.set]
    have h5 := five 3 0 _ (by omega) hon
    rw [mxF_0] at h5
    exact h5
  have three : ∀ (d i : Nat) (m : Mem) (u : VV), i + d = 6 → (∀ x, x ≠ 8 → x ≠ 9 → x ≠ 33 → x ≠ 34 → m x = mem x) → (∀ z, u ≠ vl z) → ZZ X (0, 0) 3 mX11_digest G0 41 [vr 0, vl (mxF (flt 4 (dgT nf fd)) (4 * i) (dg2 nf nw np fd bk)), vd, vi (i : Int), u] [] m (pL G0 fun z m => dgA nf nw np fd pr wd fr bk mo a b z ∧ ∀ x, x ≠ 8 → x ≠ 9 → x ≠ 33 → x ≠ 34 → m x = mem x) := by
    intro d
    induction d with
    | zero =>
      intro i m u hi hon hu
      have : i = 6 := by omega
      subst this
      refine z_iload_n dX11_digest_41 rfl ?_
      refine z_bipush dX11_digest_42 (by decide) ?_
      refine z_icmp_ge 97 dX11_digest_44 (by decide) (fun h44 => ?_) (fun h44 => ?_)
      · exact four m hon u hu
      · omega
    | succ d ih =>
      intro i m u hi hon hu
      have inner : ∀ (e k : Nat) (m : Mem), k + e = 3 → (∀ x, x ≠ 8 → x ≠ 9 → x ≠ 33 → x ≠ 34 → m x = mem x) → ZZ X (0, 0) 3 mX11_digest G0 50 [vr 0, vl (dgR nf fd i k (dg2 nf nw np fd bk)), vd, vi (i : Int), vi (k : Int)] [] m (pL G0 fun z m => dgA nf nw np fd pr wd fr bk mo a b z ∧ ∀ x, x ≠ 8 → x ≠ 9 → x ≠ 33 → x ≠ 34 → m x = mem x) := by
        intro e
        induction e with
        | zero =>
          intro k m hk hon
          have hs : zsC m nf fd np pr nw wd fr bk mo a b := hst.all fun x hx => hon x (by omega) (by omega) (by omega) (by omega)
          have : k = 3 := by omega
          subst this
          have ih' := fun m u => ih (i + 1) m u (by omega)
          rw [← dgR4] at ih'
          refine z_iload dX11_digest_50 rfl ?_
          refine z_iconst dX11_digest_52 (by decide) ?_
          refine z_icmp_gt 77 dX11_digest_53 (by decide) (fun h53 => ?_) (fun h53 => ?_)
          · refine z_ldc2 (z := 31) dX11_digest_77 kc_X11_271 (by decide) ?_
            refine z_lload_n dX11_digest_80 rfl ?_
            refine z_lmulw dX11_digest_81 ?_
            refine z_aload_n dX11_digest_82 rfl ?_
            refine z_iload_n dX11_digest_83 rfl ?_
            refine z_iconst dX11_digest_84 (by decide) ?_
            refine z_V2i dX11_digest_85 ok_X11_runs lk_X11_283 (by first | rfl | assumption) rfl rfl (Nat.le_of_ble_eq_true rfl) (by decide) (cm_X11_runs (mk := (i : Int)) (wh := 0) hs.1 hr) (fun z1 m1 hm1 => ?_)
            obtain ⟨rfl, on1⟩ := hm1
            refine z_i2l dX11_digest_88 ?_
            refine z_laddw dX11_digest_89 ?_
            refine z_lstore_n dX11_digest_90 (by decide) rfl ?_
            dsimp only [List.set]
            refine z_iinc dX11_digest_91 rfl (by omega) (by decide) rfl ?_
            dsimp only [List.set]
            refine z_goto 41 dX11_digest_94 (by decide) ?_
            exact ih' _ _ (fun x h1 h2 h3 h4 => (on1.1 x h3 h4).trans (hon x h1 h2 h3 h4)) (by intro z q; cases q)
          · omega
        | succ e ihe =>
          intro k m hk hon
          have hs : zsC m nf fd np pr nw wd fr bk mo a b := hst.all fun x hx => hon x (by omega) (by omega) (by omega) (by omega)
          have eT : dgT nf fd k i = numA nf fd (i : Int) (k : Int) := if_pos (by omega)
          have ihe' := fun m => ihe (k + 1) m (by omega)
          rw [show dgR nf fd i (k + 1) (dg2 nf nw np fd bk) = mx (dgR nf fd i k (dg2 nf nw np fd bk)) (dgT nf fd k i) from rfl, eT] at ihe'
          refine z_iload dX11_digest_50 rfl ?_
          refine z_iconst dX11_digest_52 (by decide) ?_
          refine z_icmp_gt 77 dX11_digest_53 (by decide) (fun h53 => ?_) (fun h53 => ?_)
          · omega
          · refine z_ldc2 (z := 31) dX11_digest_56 kc_X11_271 (by decide) ?_
            refine z_lload_n dX11_digest_59 rfl ?_
            refine z_lmulw dX11_digest_60 ?_
            refine z_aload_n dX11_digest_61 rfl ?_
            refine z_iload_n dX11_digest_62 rfl ?_
            refine z_iload dX11_digest_63 rfl ?_
            refine z_V2i dX11_digest_65 ok_X11_numbers lk_X11_280 (by first | rfl | assumption) rfl rfl (Nat.le_of_ble_eq_true rfl) (by decide) (cm_X11_numbers (mk := (i : Int)) (wh := (k : Int)) hs.1 hr) (fun z1 m1 hm1 => ?_)
            obtain ⟨rfl, on1⟩ := hm1
            refine z_i2l dX11_digest_68 ?_
            refine z_laddw dX11_digest_69 ?_
            refine z_lstore_n dX11_digest_70 (by decide) rfl ?_
            dsimp only [List.set]
            refine z_iinc dX11_digest_71 rfl (by omega) (by decide) rfl ?_
            dsimp only [List.set]
            refine z_goto 50 dX11_digest_74 (by decide) ?_
            exact ihe' _ (fun x h1 h2 h3 h4 => (on1 x h1 h2).trans (hon x h1 h2 h3 h4))
      refine z_kill 4 ?_
      dsimp only [List.set]
      refine z_iload_n dX11_digest_41 rfl ?_
      refine z_bipush dX11_digest_42 (by decide) ?_
      refine z_icmp_ge 97 dX11_digest_44 (by decide) (fun h44 => ?_) (fun h44 => ?_)
      · omega
      · refine z_iconst dX11_digest_47 (by decide) ?_
        refine z_istore dX11_digest_48 (by decide) rfl ?_
        dsimp only [List.set]
        exact inner 3 0 m (by omega) hon
  have one : ∀ (d i : Nat), i + d = 5 → ZZ X (0, 0) 3 mX11_digest G0 6 [vr 0, vl (mxF (cntA nf nw np fd bk) i 433), vd, vi (i : Int), vd] [] mem (pL G0 fun z m => dgA nf nw np fd pr wd fr bk mo a b z ∧ ∀ x, x ≠ 8 → x ≠ 9 → x ≠ 33 → x ≠ 34 → m x = mem x) := by
    intro d
    induction d with
    | zero =>
      intro i hi
      have : i = 5 := by omega
      subst this
      refine z_iload_n dX11_digest_6 rfl ?_
      refine z_iconst dX11_digest_7 (by decide) ?_
      refine z_icmp_gt 30 dX11_digest_8 (by decide) (fun h8 => ?_) (fun h8 => ?_)
      · refine z_aload_n dX11_digest_30 rfl ?_
        refine z_getR (ty := .int) dX11_digest_31 fl_X11_10 (by first | rfl | assumption) rfl rfl ?_
        refine z_lload_n dX11_digest_34 rfl ?_
        refine z_V1l dX11_digest_35 ok_X3_mix lk_X11_276 (by first | rfl | assumption) rfl rfl (Nat.le_of_ble_eq_true rfl) (by decide) (cm_X3_mix hst.1 hr) (fun z1 m1 hm1 => ?_)
        obtain ⟨rfl, rfl⟩ := hm1
        refine z_lstore_n dX11_digest_38 (by decide) rfl ?_
        dsimp only [List.set]
        refine z_iconst dX11_digest_39 (by decide) ?_
        refine z_istore_n dX11_digest_40 (by decide) rfl ?_
        dsimp only [List.set]
        have h3 := three 6 0 m1 vd (by omega) (fun _ _ _ _ _ => rfl) (by intro z q; cases q)
        rw [Nat.mul_zero, mxF_0] at h3
        exact h3
      · omega
    | succ d ih =>
      intro i hi
      have ih' := ih (i + 1) (by omega)
      rw [mxF_s] at ih'
      refine z_iload_n dX11_digest_6 rfl ?_
      refine z_iconst dX11_digest_7 (by decide) ?_
      refine z_icmp_gt 30 dX11_digest_8 (by decide) (fun h8 => ?_) (fun h8 => ?_)
      · omega
      · refine z_ldc2 (z := 31) dX11_digest_11 kc_X11_271 (by decide) ?_
        refine z_lload_n dX11_digest_14 rfl ?_
        refine z_lmulw dX11_digest_15 ?_
        refine z_aload_n dX11_digest_16 rfl ?_
        refine z_iload_n dX11_digest_17 rfl ?_
        refine z_V1i dX11_digest_18 ok_X11_count lk_X11_273 (by first | rfl | assumption) rfl rfl (Nat.le_of_ble_eq_true rfl) (by decide) (cm_X11_count (wh := (i : Int)) hst.1 hr hst.2.2.2.2.1 hst.2.1 hst.2.2.1.2.1) (fun z1 m1 hm1 => ?_)
        obtain ⟨rfl, rfl⟩ := hm1
        refine z_i2l dX11_digest_21 ?_
        refine z_laddw dX11_digest_22 ?_
        refine z_lstore_n dX11_digest_23 (by decide) rfl ?_
        dsimp only [List.set]
        refine z_iinc dX11_digest_24 rfl (by omega) (by decide) rfl ?_
        dsimp only [List.set]
        refine z_goto 6 dX11_digest_27 (by decide) ?_
        exact ih'
  refine z_ldc2 (z := 433) dX11_digest_0 kc_X11_269 (by decide) ?_
  refine z_lstore_n dX11_digest_3 (by decide) rfl ?_
  dsimp only [List.set]
  refine z_iconst dX11_digest_4 (by decide) ?_
  refine z_istore_n dX11_digest_5 (by decide) rfl ?_
  dsimp only [List.set]
  exact one 5 0 (by omega)
end Dig
