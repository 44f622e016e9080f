/-! ===== the class's free letters ===== -/
theorem rw6 : ∀ b : Fin 4, rwF ((b.val : Nat) : Int) = ((6 ^ b.val : Nat) : Int) := by decide +kernel
def ordP (O R : List Nat) : Prop := (O ++ R).Perm six
theorem ordP.nd {O R : List Nat} (h : ordP O R) : (O ++ R).Nodup := h.nodup_iff.mpr (by decide)
theorem ordP.len {O R : List Nat} (h : ordP O R) : O.length + R.length = 6 := by
  have := h.length_eq
  rw [List.length_append] at this
  exact this
theorem ordP.lt {O R : List Nat} (h : ordP O R) {a : Nat} (ha : a ∈ O ++ R) : a < 6 := by
  have := h.mem_iff.mp ha
  simp only [six, List.mem_cons, List.not_mem_nil, or_false] at this
  omega
theorem ordP.all {O R : List Nat} (h : ordP O R) {a : Nat} (ha : a < 6) : a ∈ O ∨ a ∈ R := by
  have : a ∈ six := by
    simp only [six, List.mem_cons, List.not_mem_nil, or_false]
    omega
  exact List.mem_append.mp (h.mem_iff.mpr this)
theorem ordP.dj {O R : List Nat} (h : ordP O R) {a : Nat} (h1 : a ∈ O) (h2 : a ∈ R) : False := (List.nodup_append.mp h.nd).2.2 a h1 a h2 rfl
theorem ordP.put {O R : List Nat} (h : ordP O R) {a : Nat} (ha : a < 6) (hn : a ∉ O) : ordP (O ++ [a]) (R.erase a) := by
  have hR : a ∈ R := by
    rcases h.all ha with q | q
    · exact absurd q hn
    · exact q
  have e := List.perm_cons_erase hR
  unfold ordP
  rw [List.append_assoc]
  exact (List.Perm.append_left O e.symm).trans h
section Fil
variable {X : Nat × (Int → Int)} {mem : Mem} {G : List GC}
theorem cm_J7_fillI {a n : Nat} {rs : List (Option Nat)} {x : Int} (hg : G[a]? = some (1, n, rs)) (hn : n < 1000000) : CM X (0, 0) 0 mJ7_fill_53178 G [vr a, vi x] mem (pV G fun m => (∀ j : Nat, j < n → m a (j : Int) = x) ∧ ∀ y, y ≠ a → m y = mem y) := by
  refine CM.of (by decide +kernel) 2 (Nat.le_of_ble_eq_true rfl) ?_
  show ZZ X (0, 0) 0 mJ7_fill_53178 G 0 [vr a, vi x, vd, vd] [] mem _
  have loop : ∀ (d i : Nat) (m : Mem), i + d = n → (∀ j : Nat, j < i → m a (j : Int) = x) → (∀ y, y ≠ a → m y = mem y) → ZZ X (0, 0) 0 mJ7_fill_53178 G 5 [vr a, vi x, vi (i : Int), vi (n : Int)] [] m (pV G fun m => (∀ j : Nat, j < n → m a (j : Int) = x) ∧ ∀ y, y ≠ a → m y = mem y) := by
    intro d
    induction d with
    | zero =>
      intro i m hi h1 h2
      have : i = n := by omega
      subst this
      refine z_iload_n dJ7_fill_53178_5 rfl ?_
      refine z_iload_n dJ7_fill_53178_6 rfl ?_
      refine z_icmp_ge 20 dJ7_fill_53178_7 (by decide) (fun h7 => ?_) (fun h7 => ?_)
      · refine z_vret dJ7_fill_53178_20 rfl ?_
        exact ⟨rfl, rfl, h1, h2⟩
      · omega
    | succ d ih =>
      intro i m hi h1 h2
      refine z_iload_n dJ7_fill_53178_5 rfl ?_
      refine z_iload_n dJ7_fill_53178_6 rfl ?_
      refine z_icmp_ge 20 dJ7_fill_53178_7 (by decide) (fun h7 => ?_) (fun h7 => ?_)
      · omega
      · refine z_aload_n dJ7_fill_53178_10 rfl ?_
        refine z_iload_n dJ7_fill_53178_11 rfl ?_
        refine z_iload_n dJ7_fill_53178_12 rfl ?_
        refine z_iast dJ7_fill_53178_13 (by first | rfl | assumption) (by omega) (by omega) ?_
        refine z_iinc dJ7_fill_53178_14 rfl (by omega) (by decide) rfl ?_
        dsimp only [List.set]
        refine z_goto 5 dJ7_fill_53178_17 (by decide) ?_
        refine ih (i + 1) _ (by omega) (fun j hj => ?_) (fun y hy => (mset_ne _ hy _ _).trans (h2 y hy))
        by_cases e : j = i
        · subst e; exact mset_eq _ _ _ _
        · rw [mset_nej _ _ (by omega)]; exact h1 j (by omega)
  refine z_iconst dJ7_fill_53178_0 (by decide) ?_
  refine z_istore_n dJ7_fill_53178_1 (by decide) rfl ?_
  dsimp only [List.set]
  refine z_aload_n dJ7_fill_53178_2 rfl ?_
  refine z_alen dJ7_fill_53178_3 hg (by omega) ?_
  refine z_istore_n dJ7_fill_53178_4 (by decide) rfl ?_
  dsimp only [List.set]
  exact loop n 0 _ (by omega) (fun j hj => by omega) (fun _ _ => rfl)
end Fil
theorem ixor_m1 : ∀ U : Fin 1024, ixorV ((U.val : Nat) : Int) (-1) = -((U.val : Nat) : Int) - 1 := by decide +kernel
theorem iand_all : ∀ U : Fin 1024, iandV 1023 (-((U.val : Nat) : Int) - 1) = ((1023 - U.val : Nat) : Int) := by decide +kernel
theorem tb_not : ∀ (U : Fin 1024) (f : Fin 10), (1023 - U.val).testBit f.val = !U.val.testBit f.val := by decide +kernel
theorem or_lt : ∀ (U : Fin 1024) (f : Fin 10), U.val ||| 2 ^ f.val < 1024 := by decide +kernel
theorem or_lt2 {a b : Nat} (ha : a < 1024) (hb : b < 1024) : a ||| b < 1024 := Nat.or_lt_two_pow (n := 10) ha hb
theorem tb_dm (U f : Nat) : U.testBit f = decide (U / 2 ^ f % 2 = 1) := Nat.testBit_eq_decide_div_mod_eq
/-- bits that were there, and those of p -/
def bOr (x y : Int) (p : Nat → Bool) : Prop := ∃ a b : Nat, x = (a : Int) ∧ a < 1024 ∧ y = (b : Int) ∧ b < 1024 ∧ ∀ f : Nat, f < 10 → b.testBit f = (a.testBit f || p f)
theorem bOr.rf {x : Int} (h : ∃ a : Nat, x = (a : Int) ∧ a < 1024) {p : Nat → Bool} (hp : ∀ f : Nat, f < 10 → p f = false) : bOr x x p := by
  obtain ⟨a, h1, h2⟩ := h
  exact ⟨a, a, h1, h2, h1, h2, fun f hf => by rw [hp f hf, Bool.or_false]⟩
theorem bOr.tr {x y z : Int} {p q r : Nat → Bool} (h1 : bOr x y p) (h2 : bOr y z q) (hr : ∀ f : Nat, f < 10 → r f = (p f || q f)) : bOr x z r := by
  obtain ⟨a, b, e1, e2, e3, e4, e5⟩ := h1
  obtain ⟨b', c, f1, f2, f3, f4, f5⟩ := h2
  have : b' = b := by omega
  subst this
  exact ⟨a, c, e1, e2, f3, f4, fun f hf => by rw [f5 f hf, e5 f hf, hr f hf, Bool.or_assoc]⟩
theorem fallN_le : ∀ (n c : Nat), fallN c n ≤ 10 ^ n
  | 0, _ => Nat.le_refl _
  | n + 1, c => by
    have := fallN_le n (c + 1)
    show (10 - c) * fallN (c + 1) n ≤ 10 ^ (n + 1)
    rw [Nat.pow_succ, Nat.mul_comm (10 ^ n) 10]
    exact Nat.mul_le_mul (by omega) this
theorem iand_clr : ∀ (U : Fin 1024) (f : Fin 10), U.val.testBit f.val = false → iandV ((U.val ||| 2 ^ f.val : Nat) : Int) (-((2 ^ f.val : Nat) : Int) - 1) = ((U.val : Nat) : Int) := by decide +kernel
theorem ior_0 {a : Nat} (ha : a < 2147483648) : iorV (a : Int) 0 = (a : Int) := by
  have := ior_nat (b := 0) ha (by decide)
  rw [Nat.or_zero] at this
  exact this
theorem and_2p (S w : Nat) : (S &&& 2 ^ w = 0) ↔ S.testBit w = false := by
  constructor
  · intro h
    have : (S &&& 2 ^ w).testBit w = false := by rw [h, Nat.zero_testBit]
    rw [Nat.testBit_and, Nat.testBit_two_pow, decide_eq_true rfl, Bool.and_true] at this
    exact this
  · intro h
    apply Nat.eq_of_testBit_eq
    intro i
    rw [Nat.testBit_and, Nat.testBit_two_pow, Nat.zero_testBit]
    by_cases q : w = i
    · subst q; rw [h, Bool.false_and]
    · rw [decide_eq_false q, Bool.and_false]
theorem ext_perm {l l' : List Nat} {g k : Int → Int} {U : Nat} (h : l.Perm l') (e : ext l g U k) : ext l' g U k :=
  ⟨fun a ha hn => e.1 a ha (fun q => hn (h.mem_iff.mp q)), fun a ha => e.2.1 a (h.mem_iff.mpr ha), fun a ha b hb => e.2.2 a (h.mem_iff.mpr ha) b (h.mem_iff.mpr hb)⟩
theorem ext_fig {l : List Nat} {g k : Int → Int} {U : Nat} (hg : figR g) (h : ext l g U k) : figR k := by
  intro a ha
  by_cases q : a ∈ l
  · obtain ⟨f, h1, -, h3⟩ := h.2.1 a q
    rw [h3]
    omega
  · rw [h.1 a ha q]
    exact hg a ha
theorem valN_mono {g k : Int → Int} (h : ∀ a : Nat, a < 6 → g (a : Int) ≤ k (a : Int)) (c : Nat) : ∀ n : Nat, valN g c n ≤ valN k c n
  | 0 => Int.le_refl _
  | n + 1 => by
    have h1 := valN_mono h c n
    have h2 := Int.mul_le_mul_of_nonneg_left (h (ltr c n) (ltr_lt c n)) (Int.natCast_nonneg (10 ^ n))
    show valN g c n + ((10 ^ n : Nat) : Int) * g ((ltr c n : Nat) : Int) ≤ valN k c n + ((10 ^ n : Nat) : Int) * k ((ltr c n : Nat) : Int)
    omega
/-- the words are as told -/
def wdR (nw : Nat) (wd : Nat → Nat → Int) : Prop := ∀ w : Nat, w < nw → okWord (wd 0 w) (wd 1 w) (wd 2 w) (wd 3 w)
theorem wdR.at {nw : Nat} {wd : Nat → Nat → Int} {w : Nat} (h : wdR nw wd) (hw : w < nw) : ∃ l c : Nat, wd 0 w = (l : Int) ∧ wd 1 w = (c : Int) ∧ 1 ≤ l ∧ l ≤ 4 ∧ c < 1296 := by
  obtain ⟨⟨⟨h1, h2⟩, h3, h4⟩, -, -⟩ := h w hw
  refine ⟨(wd 0 w).toNat, (wd 1 w).toNat, by omega, by omega, by omega, by omega, ?_⟩
  unfold rowsOf at h4
  split at h4
  · omega
  · split at h4
    · omega
    · split at h4 <;> omega
section Free
variable {X : Nat × (Int → Int)} {mem : Mem} {nw : Nat} {wd : Nat → Nat → Int} {O R : List Nat} {U : Nat}
/-- O: the letters that have figures; R: the free ones; U: the figures that are used -/
def frS (m : Mem) (O R : List Nat) (U : Nat) : Prop := ordP O R ∧ (∀ a ∈ O, m 28 (a : Int) = m 29 (a : Int)) ∧ (∀ a ∈ R, m 28 (a : Int) = 0 ∧ m 29 (a : Int) = 9) ∧ m 22 10 = (U : Int) ∧ U < 1024 ∧ crd U = O.length ∧ figR (m 28)
theorem frS.fig9 (h : frS mem O R U) : figR (mem 29) := by
  intro a ha
  rcases h.1.all ha with q | q
  · rw [← h.2.1 a q]; exact h.2.2.2.2.2.2 a ha
  · rw [(h.2.2.1 a q).2]; omega
theorem frS.off {m : Mem} (h : frS mem O R U) (e8 : m 28 = mem 28) (e9 : m 29 = mem 29) (e2 : m 22 10 = mem 22 10) : frS m O R U := by
  unfold frS
  rw [e8, e9, e2]
  exact h
theorem frS.nd (h : frS mem O R U) : R.Nodup := (List.nodup_append.mp h.1.nd).2.1
theorem frS.lt (h : frS mem O R U) {a : Nat} (ha : a ∈ R) : a < 6 := h.1.lt (List.mem_append.mpr (Or.inr ha))
theorem frS.le (h : frS mem O R U) {k : Int → Int} (hk : ext R (mem 28) U k) : ∀ a : Nat, a < 6 → mem 28 (a : Int) ≤ k (a : Int) ∧ k (a : Int) ≤ mem 29 (a : Int) := by
  intro a ha
  by_cases q : a ∈ R
  · obtain ⟨f, h1, -, h3⟩ := hk.2.1 a q
    have := h.2.2.1 a q
    omega
  · rcases h.1.all ha with w | w
    · have e := h.2.1 a w
      have e1 := hk.1 a ha q
      omega
    · exact absurd w q
/-- one letter more has its figure -/
def gvM (m : Mem) (a f U : Nat) : Mem := mset (mset (mset m 28 (a : Int) (f : Int)) 29 (a : Int) (f : Int)) 22 10 ((U ||| 2 ^ f : Nat) : Int)
/-- and has it no more -/
def tbM (m : Mem) (a U : Nat) : Mem := mset (mset (mset m 22 10 (U : Int)) 28 (a : Int) 0) 29 (a : Int) 9
theorem gv28 (m : Mem) (a f U : Nat) : gvM m a f U 28 = updF (m 28) (a : Int) (f : Int) := by
  unfold gvM
  rw [mset_ne _ (by decide), mset_ne _ (by decide), mset_at]
  rfl
theorem gv29 (m : Mem) (a f U : Nat) : gvM m a f U 29 = updF (m 29) (a : Int) (f : Int) := by
  unfold gvM
  rw [mset_ne _ (by decide), mset_at, mset_ne _ (by decide)]
  rfl
theorem gv22 (m : Mem) (a f U : Nat) : gvM m a f U 22 10 = ((U ||| 2 ^ f : Nat) : Int) := mset_eq _ _ _ _
theorem gv22n (m : Mem) (a f U : Nat) {j : Int} (h : j ≠ 10) : gvM m a f U 22 j = m 22 j := by
  unfold gvM
  rw [mset_nej _ _ h, mset_ne _ (by decide), mset_ne _ (by decide)]
theorem gvN (m : Mem) (a f U : Nat) {x : Nat} (h1 : x ≠ 22) (h2 : x ≠ 28) (h3 : x ≠ 29) : gvM m a f U x = m x := by
  unfold gvM
  rw [mset_ne _ h1, mset_ne _ h3, mset_ne _ h2]
theorem frS.give (h : frS mem O R U) {a f : Nat} (ha : a ∈ R) (hf : f < 10) (hU : U.testBit f = false) : frS (gvM mem a f U) (O ++ [a]) (R.erase a) (U ||| 2 ^ f) := by
  have ha6 := h.lt ha
  have haO : a ∉ O := fun q => h.1.dj q ha
  have hnd := h.nd
  refine ⟨h.1.put ha6 haO, fun b hb => ?_, fun b hb => ?_, gv22 _ _ _ _, or_lt ⟨U, h.2.2.2.2.1⟩ ⟨f, hf⟩, ?_, fun b hb => ?_⟩
  · rw [gv28, gv29]
    rcases List.mem_append.mp hb with q | q
    · have : b ≠ a := fun w => haO (w ▸ q)
      rw [updF_ne _ _ (by omega), updF_ne _ _ (by omega)]
      exact h.2.1 b q
    · rw [List.mem_singleton.mp q, updF_eq, updF_eq]
  · have hne : b ≠ a := fun w => by
      subst w
      exact (List.nodup_cons.mp ((List.perm_cons_erase ha).nodup_iff.mp hnd)).1 hb
    rw [gv28, gv29, updF_ne _ _ (by omega), updF_ne _ _ (by omega)]
    exact h.2.2.1 b (List.mem_of_mem_erase hb)
  · rw [crd_or hU hf, h.2.2.2.2.2.1, List.length_append]
    rfl
  · rw [gv28]
    by_cases q : b = a
    · subst q; rw [updF_eq]; omega
    · rw [updF_ne _ _ (by omega)]; exact h.2.2.2.2.2.2 b hb
/-- what is given and taken back is as it was -/
theorem tb_gv (h : frS mem O R U) {a f : Nat} (ha : a ∈ R) {m : Mem} (P : Nat → Prop) (hm : ∀ x, P x → m x = gvM mem a f U x) : ∀ x, P x → tbM m a U x = mem x := by
  intro x hx
  have e := hm x hx
  unfold tbM
  by_cases q9 : x = 29
  · subst q9
    funext j
    by_cases w : j = (a : Int)
    · subst w
      rw [mset_eq]
      exact (h.2.2.1 a ha).2.symm
    · rw [mset_nej _ _ w, mset_ne _ (by decide), mset_ne _ (by decide), e, gv29, updF_ne _ _ w]
  · rw [mset_ne _ q9]
    by_cases q8 : x = 28
    · subst q8
      funext j
      by_cases w : j = (a : Int)
      · subst w
        rw [mset_eq]
        exact (h.2.2.1 a ha).1.symm
      · rw [mset_nej _ _ w, mset_ne _ (by decide), e, gv28, updF_ne _ _ w]
    · rw [mset_ne _ q8]
      by_cases q2 : x = 22
      · subst q2
        funext j
        by_cases w : j = 10
        · subst w
          rw [mset_eq]
          exact h.2.2.2.1.symm
        · rw [mset_nej _ _ w, e, gv22n _ _ _ _ w]
      · rw [mset_ne _ q2, e, gvN _ _ _ _ q2 q8 q9]
/-- a key for what is left is a key for what was left -/
theorem ext_put (h : frS mem O R U) {a f : Nat} (ha : a ∈ R) (hf : f < 10) (hU : U.testBit f = false) {k : Int → Int} (hk : ext (R.erase a) (updF (mem 28) (a : Int) (f : Int)) (U ||| 2 ^ f) k) : ext R (mem 28) U k := by
  have hp := List.perm_cons_erase ha
  exact ext_perm hp.symm ((ext_cons (List.nodup_cons.mp (hp.nodup_iff.mp h.nd)).1 (h.lt ha)).mpr ⟨f, hf, hU, hk⟩)
theorem ext_get (h : frS mem O R U) {a f : Nat} (ha : a ∈ R) {k : Int → Int} (hk : ext R (mem 28) U k) (hka : k (a : Int) = (f : Int)) : ext (R.erase a) (updF (mem 28) (a : Int) (f : Int)) (U ||| 2 ^ f) k := by
  have hp := List.perm_cons_erase ha
  obtain ⟨f', h1, h2, h3⟩ := (ext_cons (List.nodup_cons.mp (hp.nodup_iff.mp h.nd)).1 (h.lt ha)).mp (ext_perm hp hk)
  have hv : k (a : Int) = (f' : Int) := by
    rw [h3.1 a (h.lt ha) (List.nodup_cons.mp (hp.nodup_iff.mp h.nd)).1, updF_eq]
  have : f' = f := by omega
  subst this
  exact h3
theorem cm_X10_isFree {a : Nat} (hs : frS mem O R U) (ha : a < 6) : CM X (0, 0) 0 mX10_isFree G0 [vr 22, vi (a : Int)] mem (pI G0 fun z m => bT z (a ∈ R) ∧ m = mem) := by
  refine CM.of (by decide +kernel) 0 (Nat.le_of_ble_eq_true rfl) ?_
  show ZZ X (0, 0) 0 mX10_isFree G0 0 [vr 22, vi (a : Int)] [] mem _
  refine z_aload_n dX10_isFree_0 rfl ?_
  refine z_getR (ty := .int) dX10_isFree_1 fl_X10_27 (by first | rfl | assumption) rfl rfl ?_
  refine z_iload_n dX10_isFree_4 rfl ?_
  refine z_iald dX10_isFree_5 (by first | rfl | assumption) (by omega) (by omega) ?_
  refine z_aload_n dX10_isFree_6 rfl ?_
  refine z_getR (ty := .int) dX10_isFree_7 fl_X10_30 (by first | rfl | assumption) rfl rfl ?_
  refine z_iload_n dX10_isFree_10 rfl ?_
  refine z_iald dX10_isFree_11 (by first | rfl | assumption) (by omega) (by omega) ?_
  refine z_icmp_eq 19 dX10_isFree_12 (by decide) (fun h12 => ?_) (fun h12 => ?_)
  · have no : a ∉ R := fun q => by have := hs.2.2.1 a q; omega
    refine z_iconst dX10_isFree_19 (by decide) ?_
    refine z_zret dX10_isFree_20 rfl (by first | exact Or.inl rfl | exact Or.inr rfl | assumption | (split <;> simp) | omega) ?_
    first
    | exact ⟨rfl, _, rfl, Or.inl ⟨rfl, yes⟩, rfl⟩
    | exact ⟨rfl, _, rfl, Or.inr ⟨rfl, no⟩, rfl⟩
  · have yes : a ∈ R := by
      rcases hs.1.all ha with q | q
      · exact absurd (hs.2.1 a q) h12
      · exact q
    refine z_iconst dX10_isFree_15 (by decide) ?_
    refine z_goto 20 dX10_isFree_16 (by decide) ?_
    refine z_zret dX10_isFree_20 rfl (by first | exact Or.inl rfl | exact Or.inr rfl | assumption | (split <;> simp) | omega) ?_
    first
    | exact ⟨rfl, _, rfl, Or.inl ⟨rfl, yes⟩, rfl⟩
    | exact ⟨rfl, _, rfl, Or.inr ⟨rfl, no⟩, rfl⟩
theorem cm_X10_give {a f : Nat} (ha : a < 6) (hf : f < 10) (hU : mem 22 10 = (U : Int)) (hU2 : U < 1024) : CM X (0, 0) 0 mX10_give G0 [vr 22, vi (a : Int), vi (f : Int)] mem (pV G0 fun m => m = gvM mem a f U) := by
  have h2 : 2 ^ f ≤ 2 ^ 9 := Nat.pow_le_pow_right (by decide) (by omega)
  refine CM.of (by decide +kernel) 0 (Nat.le_of_ble_eq_true rfl) ?_
  show ZZ X (0, 0) 0 mX10_give G0 0 [vr 22, vi (a : Int), vi (f : Int)] [] mem _
  refine z_aload_n dX10_give_0 rfl ?_
  refine z_getR (ty := .int) dX10_give_1 fl_X10_27 (by first | rfl | assumption) rfl rfl ?_
  refine z_iload_n dX10_give_4 rfl ?_
  refine z_iload_n dX10_give_5 rfl ?_
  refine z_iast dX10_give_6 (by first | rfl | assumption) (by omega) (by omega) ?_
  refine z_aload_n dX10_give_7 rfl ?_
  refine z_getR (ty := .int) dX10_give_8 fl_X10_30 (by first | rfl | assumption) rfl rfl ?_
  refine z_iload_n dX10_give_11 rfl ?_
  refine z_iload_n dX10_give_12 rfl ?_
  refine z_iast dX10_give_13 (by first | rfl | assumption) (by omega) (by omega) ?_
  refine z_aload_n dX10_give_14 rfl ?_
  refine z_dup dX10_give_15 (by intro z q; cases q) ?_
  refine z_gI 10 dX10_give_16 fl_X10_76 (by first | rfl | assumption) rfl rfl ?_
  rw [mset_ne _ (by decide), mset_ne _ (by decide), hU]
  refine z_iconst dX10_give_19 (by decide) ?_
  refine z_iload_n dX10_give_20 rfl ?_
  refine z_ishl dX10_give_21 ?_
  rw [shl1' (by omega)]
  refine z_ior dX10_give_22 ?_
  rw [ior_nat (by omega) (by omega)]
  refine z_pI 10 dX10_give_23 fm_X10_76 (by first | rfl | assumption) rfl rfl ?_
  refine z_vret dX10_give_26 rfl ?_
  exact ⟨rfl, rfl, rfl⟩
theorem cm_X10_takeBack {a f : Nat} (ha : a < 6) (hf : f < 10) (hU2 : U < 1024) (hb : U.testBit f = false) (h28 : mem 28 (a : Int) = (f : Int)) (h22 : mem 22 10 = ((U ||| 2 ^ f : Nat) : Int)) : CM X (0, 0) 0 mX10_takeBack G0 [vr 22, vi (a : Int)] mem (pV G0 fun m => m = tbM mem a U) := by
  have h2 : 2 ^ f ≤ 2 ^ 9 := Nat.pow_le_pow_right (by decide) (by omega)
  refine CM.of (by decide +kernel) 0 (Nat.le_of_ble_eq_true rfl) ?_
  show ZZ X (0, 0) 0 mX10_takeBack G0 0 [vr 22, vi (a : Int)] [] mem _
  refine z_aload_n dX10_takeBack_0 rfl ?_
  refine z_dup dX10_takeBack_1 (by intro z q; cases q) ?_
  refine z_gI 10 dX10_takeBack_2 fl_X10_76 (by first | rfl | assumption) rfl rfl ?_
  rw [h22]
  refine z_iconst dX10_takeBack_5 (by decide) ?_
  refine z_aload_n dX10_takeBack_6 rfl ?_
  refine z_getR (ty := .int) dX10_takeBack_7 fl_X10_27 (by first | rfl | assumption) rfl rfl ?_
  refine z_iload_n dX10_takeBack_10 rfl ?_
  refine z_iald dX10_takeBack_11 (by first | rfl | assumption) (by omega) (by omega) ?_
  rw [h28]
  refine z_ishl dX10_takeBack_12 ?_
  rw [shl1' (by omega)]
  refine z_iconst dX10_takeBack_13 (by decide) ?_
  refine z_ixor dX10_takeBack_14 ?_
  rw [ixor_m1 ⟨2 ^ f, by omega⟩]
  refine z_iand dX10_takeBack_15 ?_
  rw [iand_clr ⟨U, hU2⟩ ⟨f, hf⟩ hb]
  refine z_pI 10 dX10_takeBack_16 fm_X10_76 (by first | rfl | assumption) rfl rfl ?_
  refine z_aload_n dX10_takeBack_19 rfl ?_
  refine z_getR (ty := .int) dX10_takeBack_20 fl_X10_27 (by first | rfl | assumption) rfl rfl ?_
  refine z_iload_n dX10_takeBack_23 rfl ?_
  refine z_iconst dX10_takeBack_24 (by decide) ?_
  refine z_iast dX10_takeBack_25 (by first | rfl | assumption) (by omega) (by omega) ?_
  refine z_aload_n dX10_takeBack_26 rfl ?_
  refine z_getR (ty := .int) dX10_takeBack_27 fl_X10_30 (by first | rfl | assumption) rfl rfl ?_
  refine z_iload_n dX10_takeBack_30 rfl ?_
  refine z_bipush dX10_takeBack_31 (by decide) ?_
  refine z_iast dX10_takeBack_33 (by first | rfl | assumption) (by omega) (by omega) ?_
  refine z_vret dX10_takeBack_34 rfl ?_
  exact ⟨rfl, rfl, rfl⟩
theorem cm_X10_valueOf {l c q : Nat} (hq : G0[q]? = some (1, 6, [])) (hg : figR (mem q)) (hl : l ≤ 4) (hc : c < 1296) : CM X (0, 0) 0 mX10_valueOf G0 [vr q, vi (l : Int), vi (c : Int)] mem (pI G0 fun z m => z = valN (mem q) c l ∧ m = mem) := by
  refine CM.of (by decide +kernel) 4 (Nat.le_of_ble_eq_true rfl) ?_
  show ZZ X (0, 0) 0 mX10_valueOf G0 0 [vr q, vi (l : Int), vi (c : Int), vd, vd, vd, vd] [] mem _
  have loop : ∀ (e i : Nat), i + e = l → ZZ X (0, 0) 0 mX10_valueOf G0 11 [vr q, vi (l : Int), vi (c : Int), vi (valN (mem q) c i), vi ((10 ^ i : Nat) : Int), vi ((c / 6 ^ i : Nat) : Int), vi (i : Int)] [] mem (pI G0 fun z m => z = valN (mem q) c l ∧ m = mem) := by
    intro e
    induction e with
    | zero =>
      intro i hi
      have : i = l := by omega
      subst this
      refine z_iload dX10_valueOf_11 rfl ?_
      refine z_iload_n dX10_valueOf_13 rfl ?_
      refine z_icmp_ge 50 dX10_valueOf_14 (by decide) (fun h14 => ?_) (fun h14 => ?_)
      · refine z_iload_n dX10_valueOf_50 rfl ?_
        refine z_iret dX10_valueOf_51 rfl ?_
        exact ⟨rfl, _, rfl, rfl, rfl⟩
      · omega
    | succ e ih =>
      intro i hi
      have ih' := ih (i + 1) (by omega)
      have h6 := ltr_lt c i
      have hf := hg (ltr c i) h6
      have hv := valN_bd hg c i
      have hp : 10 ^ i ≤ 10 ^ 4 := Nat.pow_le_pow_right (by decide) (by omega)
      have hp0 : 0 < 10 ^ i := Nat.pow_pos (by decide)
      have hcd : c / 6 ^ i ≤ c := Nat.div_le_self _ _
      have e1 : ((c / 6 ^ i : Nat) : Int) % 6 = ((ltr c i : Nat) : Int) := rfl
      have e2 : ((c / 6 ^ i : Nat) : Int) / 6 = ((c / 6 ^ (i + 1) : Nat) : Int) := by
        rw [Nat.pow_succ, ← Nat.div_div_eq_div_mul]
        rfl
      have e3 : ((10 ^ i : Nat) : Int) * 10 = ((10 ^ (i + 1) : Nat) : Int) := by
        rw [Nat.pow_succ]
        omega
      have m1 := Int.mul_nonneg (show (0 : Int) ≤ ((10 ^ i : Nat) : Int) by omega) hf.1
      have m2 := Int.mul_le_mul_of_nonneg_left hf.2 (show (0 : Int) ≤ ((10 ^ i : Nat) : Int) by omega)
      have hvn : valN (mem q) c (i + 1) = valN (mem q) c i + ((10 ^ i : Nat) : Int) * mem q ((ltr c i : Nat) : Int) := rfl
      rw [hvn, ← e2, ← e3] at ih'
      have hC0 : (0 : Int) ≤ ((c / 6 ^ i : Nat) : Int) := Int.natCast_nonneg _
      generalize hP : ((10 ^ i : Nat) : Int) = P at *
      generalize hC : ((c / 6 ^ i : Nat) : Int) = C at *
      refine z_iload dX10_valueOf_11 rfl ?_
      refine z_iload_n dX10_valueOf_13 rfl ?_
      refine z_icmp_ge 50 dX10_valueOf_14 (by decide) (fun h14 => ?_) (fun h14 => ?_)
      · omega
      · refine z_iload_n dX10_valueOf_17 rfl ?_
        refine z_iload dX10_valueOf_18 rfl ?_
        refine z_aload_n dX10_valueOf_20 rfl ?_
        refine z_iload dX10_valueOf_21 rfl ?_
        refine z_bipush dX10_valueOf_23 (by decide) ?_
        refine z_iremp dX10_valueOf_25 (by omega) (by omega) ?_
        rw [e1]
        refine z_iald dX10_valueOf_26 (by first | rfl | assumption) (by omega) (by omega) ?_
        refine z_imul dX10_valueOf_27 (by omega) ?_
        refine z_iadd dX10_valueOf_28 (by omega) ?_
        refine z_istore_n dX10_valueOf_29 (by decide) rfl ?_
        dsimp only [List.set]
        refine z_iload dX10_valueOf_30 rfl ?_
        refine z_bipush dX10_valueOf_32 (by decide) ?_
        refine z_idiv dX10_valueOf_34 (by omega) (by omega) ?_
        refine z_istore dX10_valueOf_35 (by decide) rfl ?_
        dsimp only [List.set]
        refine z_iload dX10_valueOf_37 rfl ?_
        refine z_bipush dX10_valueOf_39 (by decide) ?_
        refine z_imul dX10_valueOf_41 (by omega) ?_
        refine z_istore dX10_valueOf_42 (by decide) rfl ?_
        dsimp only [List.set]
        refine z_iinc dX10_valueOf_44 rfl (by omega) (by decide) rfl ?_
        dsimp only [List.set]
        refine z_goto 11 dX10_valueOf_47 (by decide) ?_
        exact ih'
  refine z_iconst dX10_valueOf_0 (by decide) ?_
  refine z_istore_n dX10_valueOf_1 (by decide) rfl ?_
  dsimp only [List.set]
  refine z_iconst dX10_valueOf_2 (by decide) ?_
  refine z_istore dX10_valueOf_3 (by decide) rfl ?_
  dsimp only [List.set]
  refine z_iload_n dX10_valueOf_5 rfl ?_
  refine z_istore dX10_valueOf_6 (by decide) rfl ?_
  dsimp only [List.set]
  refine z_iconst dX10_valueOf_8 (by decide) ?_
  refine z_istore dX10_valueOf_9 (by decide) rfl ?_
  dsimp only [List.set]
  refine (show (c : Int) = ((c / 6 ^ 0 : Nat) : Int) by rw [Nat.pow_zero, Nat.div_one]) ▸ loop l 0 (by omega)
/-- the first free letter of a row, from the highest place on -/
def frL (R : List Nat) (c l : Nat) (z : Int) : Prop := (z = -1 ∧ ∀ j, j < l → ltr c j ∉ R) ∨ ∃ j, j < l ∧ z = ((ltr c j : Nat) : Int) ∧ ltr c j ∈ R ∧ ∀ j', j < j' → j' < l → ltr c j' ∉ R
theorem cm_X10_freeLetterIn {l c : Nat} (hs : frS mem O R U) (hl : l ≤ 4) (hc : c < 1296) : CM X (0, 0) 1 mX10_freeLetterIn G0 [vr 22, vi (l : Int), vi (c : Int)] mem (pI G0 fun z m => frL R c l z ∧ m = mem) := by
  refine CM.of (by decide +kernel) 2 (Nat.le_of_ble_eq_true rfl) ?_
  show ZZ X (0, 0) 1 mX10_freeLetterIn G0 0 [vr 22, vi (l : Int), vi (c : Int), vd, vd] [] mem _
  have loop : ∀ (e : Nat) (u4 : VV), e ≤ l → (∀ j, e ≤ j → j < l → ltr c j ∉ R) → ZZ X (0, 0) 1 mX10_freeLetterIn G0 4 [vr 22, vi (l : Int), vi (c : Int), vi ((e : Int) - 1), u4] [] mem (pI G0 fun z m => frL R c l z ∧ m = mem) := by
    intro e
    induction e with
    | zero =>
      intro u4 he hn
      refine z_iload_n dX10_freeLetterIn_4 rfl ?_
      refine z_if_lt 51 dX10_freeLetterIn_5 (by decide) (fun h5 => ?_) (fun h5 => ?_)
      · refine z_iconst dX10_freeLetterIn_51 (by decide) ?_
        refine z_iret dX10_freeLetterIn_52 rfl ?_
        exact ⟨rfl, _, rfl, Or.inl ⟨rfl, fun j hj => hn j (by omega) hj⟩, rfl⟩
      · omega
    | succ e ih =>
      intro u4 he hn
      have h6 := rw6 ⟨e, by omega⟩
      dsimp only at h6
      have hp : (0 : Int) < ((6 ^ e : Nat) : Int) := by have := Nat.pow_pos (n := e) (show 0 < 6 by decide); omega
      have hlt := ltr_lt c e
      rw [show ((e + 1 : Nat) : Int) - 1 = (e : Int) by omega]
      refine z_kill 4 ?_
      dsimp only [List.set]
      refine z_iload_n dX10_freeLetterIn_4 rfl ?_
      refine z_if_lt 51 dX10_freeLetterIn_5 (by decide) (fun h5 => ?_) (fun h5 => ?_)
      · omega
      · refine z_iload_n dX10_freeLetterIn_8 rfl ?_
        refine z_iconst dX10_freeLetterIn_9 (by decide) ?_
        refine z_iconst dX10_freeLetterIn_10 (by decide) ?_
        refine z_S3i dX10_freeLetterIn_11 ok_X11_within lk_X10_33 (Nat.le_of_ble_eq_true rfl) (by decide) (cm_X11_within) (fun z1 m1 hm1 => ?_)
        obtain ⟨hz1, rfl⟩ := hm1
        refine z_if_eq 30 dX10_freeLetterIn_14 (by decide) (fun h14 => ?_) (fun h14 => ?_)
        · exact absurd ⟨by omega, by omega⟩ (hz1.no h14)
        · refine z_iload_n dX10_freeLetterIn_17 rfl ?_
          refine z_gets _ sl_X10_37 dX10_freeLetterIn_18 ?_
          refine z_iload_n dX10_freeLetterIn_21 rfl ?_
          refine z_sald dX10_freeLetterIn_22 rfl (by omega) (by omega) ?_
          rw [show ((5, rwF) : Nat × (Int → Int)).snd (e : Int) = ((6 ^ e : Nat) : Int) from h6]
          refine z_idiv dX10_freeLetterIn_23 (by omega) hp ?_
          have hq : 0 ≤ (c : Int) / ((6 ^ e : Nat) : Int) := Int.ediv_nonneg (by omega) (by omega)
          refine z_bipush dX10_freeLetterIn_24 (by decide) ?_
          refine z_iremp dX10_freeLetterIn_26 (by omega) (by omega) ?_
          rw [show (c : Int) / ((6 ^ e : Nat) : Int) % 6 = ((ltr c e : Nat) : Int) from rfl]
          refine z_goto 31 dX10_freeLetterIn_27 (by decide) ?_
          refine z_istore dX10_freeLetterIn_31 (by decide) rfl ?_
          dsimp only [List.set]
          refine z_aload_n dX10_freeLetterIn_33 rfl ?_
          refine z_iload dX10_freeLetterIn_34 rfl ?_
          refine z_V1i dX10_freeLetterIn_36 ok_X10_isFree lk_X10_102 (by first | rfl | assumption) rfl rfl (Nat.le_of_ble_eq_true rfl) (by decide) (cm_X10_isFree hs hlt) (fun z2 m2 hm2 => ?_)
          obtain ⟨hz2, rfl⟩ := hm2
          refine z_if_eq 45 dX10_freeLetterIn_39 (by decide) (fun h39 => ?_) (fun h39 => ?_)
          · have no := hz2.no h39
            refine z_iinc dX10_freeLetterIn_45 rfl (by omega) (by decide) rfl ?_
            dsimp only [List.set]
            refine z_goto 4 dX10_freeLetterIn_48 (by decide) ?_
            refine ih _ (by omega) (fun j a b => ?_)
            by_cases q : j = e
            · subst q; exact no
            · exact hn j (by omega) b
          · have yes := hz2.yes h39
            refine z_iload dX10_freeLetterIn_42 rfl ?_
            refine z_iret dX10_freeLetterIn_44 rfl ?_
            exact ⟨rfl, _, rfl, Or.inr ⟨e, by omega, rfl, yes, fun j' a b => hn j' (by omega) b⟩, rfl⟩
  refine z_iload_n dX10_freeLetterIn_0 rfl ?_
  refine z_iconst dX10_freeLetterIn_1 (by decide) ?_
  refine z_isub dX10_freeLetterIn_2 (by omega) ?_
  refine z_istore_n dX10_freeLetterIn_3 (by decide) rfl ?_
  dsimp only [List.set]
  exact loop l _ (Nat.le_refl _) (fun j a b => by omega)
end Free
