/-! ===== keys, counted ===== -/
def s10 (F : Nat → Nat) : Nat → Nat
  | 0 => 0
  | n + 1 => s10 F n + F n
theorem s10_congr {F H : Nat → Nat} : ∀ {n : Nat}, (∀ i, i < n → F i = H i) → s10 F n = s10 H n
  | 0, _ => rfl
  | n + 1, h => by
    show s10 F n + F n = s10 H n + H n
    rw [s10_congr (fun i hi => h i (by omega)), h n (by omega)]
theorem s10_zero : ∀ n : Nat, s10 (fun _ => 0) n = 0
  | 0 => rfl
  | n + 1 => by
    show s10 (fun _ => 0) n + 0 = 0
    rw [s10_zero n]
theorem s10_add (F H : Nat → Nat) : ∀ n : Nat, s10 (fun i => F i + H i) n = s10 F n + s10 H n
  | 0 => rfl
  | n + 1 => by
    show s10 (fun i => F i + H i) n + (F n + H n) = s10 F n + F n + (s10 H n + H n)
    rw [s10_add F H n]
    omega
theorem s10_comm (F : Nat → Nat → Nat) (n : Nat) : ∀ m : Nat, s10 (fun i => s10 (fun j => F i j) n) m = s10 (fun j => s10 (fun i => F i j) m) n
  | 0 => (s10_zero n).symm
  | m + 1 => by
    show s10 (fun i => s10 (fun j => F i j) n) m + s10 (fun j => F m j) n = s10 (fun j => s10 (fun i => F i j) m + F m j) n
    rw [s10_add, s10_comm F n m]
theorem s10_if (c : Bool) (F : Nat → Nat) (n : Nat) : (if c = true then 0 else s10 F n) = s10 (fun i => if c = true then 0 else F i) n := by
  cases c
  · rfl
  · exact (s10_zero n).symm
theorem s10_pos {F : Nat → Nat} : ∀ {n : Nat}, 0 < s10 F n ↔ ∃ i, i < n ∧ 0 < F i
  | 0 => ⟨fun h => absurd h (Nat.lt_irrefl 0), fun ⟨i, hi, _⟩ => by omega⟩
  | n + 1 => by
    have ih := s10_pos (F := F) (n := n)
    show 0 < s10 F n + F n ↔ _
    constructor
    · intro h
      by_cases q : 0 < F n
      · exact ⟨n, by omega, q⟩
      · obtain ⟨i, hi, hp⟩ := ih.mp (by omega)
        exact ⟨i, by omega, hp⟩
    · rintro ⟨i, hi, hp⟩
      by_cases q : i = n
      · subst q; omega
      · have := ih.mpr ⟨i, by omega, hp⟩
        omega
theorem s10_free (p : Nat → Bool) (x : Nat) : ∀ n : Nat, s10 (fun f => if p f = true then 0 else x) n + x * s10 (fun f => if p f = true then 1 else 0) n = n * x
  | 0 => by
    show 0 + x * 0 = 0 * x
    rw [Nat.mul_zero, Nat.zero_mul]
  | n + 1 => by
    have ih := s10_free p x n
    show s10 (fun f => if p f = true then 0 else x) n + (if p n = true then 0 else x) + x * (s10 (fun f => if p f = true then 1 else 0) n + (if p n = true then 1 else 0)) = (n + 1) * x
    rw [Nat.mul_add, Nat.add_mul, Nat.one_mul]
    split
    · rw [Nat.mul_one]; omega
    · rw [Nat.mul_zero]; omega
abbrev KP : Type := (Int → Int) → Bool
/-- figures for the letters of a row, unlike each other and none that is used: how many ways keep P -/
def cnt (P : KP) : List Nat → (Int → Int) → Nat → Nat
  | [], g, _ => if P g = true then 1 else 0
  | a :: t, g, U => s10 (fun f => if U.testBit f = true then 0 else cnt P t (updF g (a : Int) (f : Int)) (U ||| 2 ^ f)) 10
theorem updF_comm (g : Int → Int) {x y : Int} (h : x ≠ y) (v w : Int) : updF (updF g y v) x w = updF (updF g x w) y v := by
  funext j
  unfold updF
  by_cases q1 : j = x
  · subst q1
    rw [if_pos rfl, if_neg h, if_pos rfl]
  · by_cases q2 : j = y
    · subst q2
      rw [if_neg q1, if_pos rfl, if_pos rfl]
    · rw [if_neg q1, if_neg q2, if_neg q2, if_neg q1]
theorem tb_or (U f h : Nat) : (U ||| 2 ^ f).testBit h = (U.testBit h || decide (f = h)) := by
  rw [Nat.testBit_or, Nat.testBit_two_pow]
theorem cnt_perm {P : KP} {l l' : List Nat} (h : l.Perm l') : l.Nodup → ∀ (g : Int → Int) (U : Nat), cnt P l g U = cnt P l' g U := by
  induction h with
  | nil => intro _ g U; rfl
  | cons a h ih =>
    rename_i l1 l2
    intro hn g U
    have hn' := (List.nodup_cons.mp hn).2
    refine s10_congr fun f _ => ?_
    show (if U.testBit f = true then 0 else cnt P l1 (updF g (a : Int) (f : Int)) (U ||| 2 ^ f)) = (if U.testBit f = true then 0 else cnt P l2 (updF g (a : Int) (f : Int)) (U ||| 2 ^ f))
    rw [ih hn']
  | swap x y l =>
    intro hn g U
    have hxy : (x : Int) ≠ (y : Int) := by
      intro q
      have q' : x = y := by omega
      subst q'
      exact (List.nodup_cons.mp hn).1 (List.mem_cons_self)
    show s10 (fun f => if U.testBit f = true then 0 else s10 (fun h => if (U ||| 2 ^ f).testBit h = true then 0 else cnt P l (updF (updF g (y : Int) (f : Int)) (x : Int) (h : Int)) (U ||| 2 ^ f ||| 2 ^ h)) 10) 10 = s10 (fun h => if U.testBit h = true then 0 else s10 (fun f => if (U ||| 2 ^ h).testBit f = true then 0 else cnt P l (updF (updF g (x : Int) (h : Int)) (y : Int) (f : Int)) (U ||| 2 ^ h ||| 2 ^ f)) 10) 10
    simp only [s10_if]
    rw [s10_comm]
    refine s10_congr fun h _ => s10_congr fun f _ => ?_
    rw [tb_or, tb_or, updF_comm g hxy, show U ||| 2 ^ f ||| 2 ^ h = U ||| 2 ^ h ||| 2 ^ f by rw [Nat.or_assoc, Nat.or_comm (2 ^ f), ← Nat.or_assoc]]
    by_cases q : f = h
    · subst q
      cases U.testBit f <;> simp
    · have q' : ¬ h = f := fun w => q w.symm
      cases U.testBit f <;> cases U.testBit h <;> simp [q, q']
  | trans h1 h2 ih1 ih2 =>
    intro hn g U
    rw [ih1 hn, ih2 (h1.nodup_iff.mp hn)]
/-- P looks at the six letters alone -/
def resp (P : KP) : Prop := ∀ g g' : Int → Int, (∀ a : Nat, a < 6 → g (a : Int) = g' (a : Int)) → P g = P g'
theorem cnt_congr {P : KP} (hP : resp P) : ∀ (l : List Nat) (g g' : Int → Int) (U : Nat), (∀ a : Nat, a < 6 → a ∉ l → g (a : Int) = g' (a : Int)) → cnt P l g U = cnt P l g' U
  | [], g, g', U, h => by
    show (if P g = true then 1 else 0) = (if P g' = true then 1 else 0)
    rw [hP g g' fun a ha => h a ha List.not_mem_nil]
  | b :: t, g, g', U, h => by
    refine s10_congr fun f _ => ?_
    show (if U.testBit f = true then 0 else cnt P t (updF g (b : Int) (f : Int)) (U ||| 2 ^ f)) = (if U.testBit f = true then 0 else cnt P t (updF g' (b : Int) (f : Int)) (U ||| 2 ^ f))
    rw [cnt_congr hP t (updF g (b : Int) (f : Int)) (updF g' (b : Int) (f : Int)) (U ||| 2 ^ f) fun a ha hn => ?_]
    by_cases q : a = b
    · subst q
      rw [updF_eq, updF_eq]
    · rw [updF_ne _ _ (by omega), updF_ne _ _ (by omega)]
      exact h a ha (fun w => by rcases List.mem_cons.mp w with w | w; exact q w; exact hn w)
/-- k gives figures to the letters of l, and is g elsewhere -/
def ext (l : List Nat) (g : Int → Int) (U : Nat) (k : Int → Int) : Prop := (∀ a : Nat, a < 6 → a ∉ l → k (a : Int) = g (a : Int)) ∧ (∀ a ∈ l, ∃ f : Nat, f < 10 ∧ U.testBit f = false ∧ k (a : Int) = (f : Int)) ∧ ∀ a ∈ l, ∀ b ∈ l, a ≠ b → k (a : Int) ≠ k (b : Int)
theorem ext_cons {b : Nat} {t : List Nat} {g k : Int → Int} {U : Nat} (hb : b ∉ t) (hb6 : b < 6) : ext (b :: t) g U k ↔ ∃ f : Nat, f < 10 ∧ U.testBit f = false ∧ ext t (updF g (b : Int) (f : Int)) (U ||| 2 ^ f) k := by
  constructor
  · rintro ⟨h1, h2, h3⟩
    obtain ⟨f, hf, hU, hk⟩ := h2 b List.mem_cons_self
    refine ⟨f, hf, hU, fun a ha hn => ?_, fun a ha => ?_, fun a ha c hc => h3 a (List.mem_cons_of_mem _ ha) c (List.mem_cons_of_mem _ hc)⟩
    · by_cases q : a = b
      · subst q; rw [updF_eq]; exact hk
      · rw [updF_ne _ _ (by omega)]
        exact h1 a ha (fun w => by rcases List.mem_cons.mp w with w | w; exact q w; exact hn w)
    · obtain ⟨f', hf', hU', hk'⟩ := h2 a (List.mem_cons_of_mem _ ha)
      refine ⟨f', hf', ?_, hk'⟩
      rw [tb_or, hU', Bool.false_or]
      refine decide_eq_false fun q => ?_
      subst q
      exact h3 b List.mem_cons_self a (List.mem_cons_of_mem _ ha) (fun w => hb (w ▸ ha)) (by rw [hk, hk'])
  · rintro ⟨f, hf, hU, h1, h2, h3⟩
    have hkb : k (b : Int) = (f : Int) := by
      rw [h1 b hb6 hb, updF_eq]
    have hne : ∀ a ∈ t, k (a : Int) ≠ (f : Int) := by
      intro a ha q
      obtain ⟨f', hf', hU', hk'⟩ := h2 a ha
      rw [tb_or] at hU'
      have hff : f = f' := by omega
      subst hff
      simp at hU'
    refine ⟨fun a ha hn => ?_, fun a ha => ?_, fun a ha c hc hac => ?_⟩
    · have q : a ≠ b := fun w => hn (w ▸ List.mem_cons_self)
      have := h1 a ha (fun w => hn (List.mem_cons_of_mem _ w))
      rw [updF_ne _ _ (by omega)] at this
      exact this
    · rcases List.mem_cons.mp ha with w | w
      · subst w; exact ⟨f, hf, hU, hkb⟩
      · obtain ⟨f', hf', hU', hk'⟩ := h2 a w
        rw [tb_or] at hU'
        refine ⟨f', hf', ?_, hk'⟩
        cases hq : U.testBit f'
        · rfl
        · rw [hq] at hU'; simp at hU'
    · rcases List.mem_cons.mp ha with w | w
      · subst w
        rcases List.mem_cons.mp hc with v | v
        · exact absurd v.symm hac
        · rw [hkb]; exact fun q => hne c v q.symm
      · rcases List.mem_cons.mp hc with v | v
        · subst v; rw [hkb]; exact hne a w
        · exact h3 a w c v hac
theorem cnt_pos {P : KP} (hP : resp P) : ∀ (l : List Nat), l.Nodup → (∀ a ∈ l, a < 6) → ∀ (g : Int → Int) (U : Nat), 0 < cnt P l g U ↔ ∃ k, ext l g U k ∧ P k = true
  | [], _, _, g, U => by
    show 0 < (if P g = true then 1 else 0) ↔ _
    constructor
    · intro h
      by_cases q : P g = true
      · exact ⟨g, ⟨fun _ _ _ => rfl, fun a ha => absurd ha List.not_mem_nil, fun a ha => absurd ha List.not_mem_nil⟩, q⟩
      · rw [if_neg q] at h; omega
    · rintro ⟨k, hk, hq⟩
      rw [hP g k fun a ha => (hk.1 a ha List.not_mem_nil).symm, if_pos hq]
      exact Nat.one_pos
  | b :: t, hn, h6, g, U => by
    have hb := (List.nodup_cons.mp hn).1
    have hb6 := h6 b List.mem_cons_self
    have ih := cnt_pos hP t (List.nodup_cons.mp hn).2 (fun a ha => h6 a (List.mem_cons_of_mem _ ha))
    show 0 < s10 _ 10 ↔ _
    rw [s10_pos]
    constructor
    · rintro ⟨f, hf, hp⟩
      cases hU : U.testBit f
      · rw [hU, if_neg (by decide)] at hp
        obtain ⟨k, hk, hq⟩ := (ih _ _).mp hp
        exact ⟨k, (ext_cons hb hb6).mpr ⟨f, hf, hU, hk⟩, hq⟩
      · rw [hU, if_pos rfl] at hp
        omega
    · rintro ⟨k, hk, hq⟩
      obtain ⟨f, hf, hU, hk'⟩ := (ext_cons hb hb6).mp hk
      refine ⟨f, hf, ?_⟩
      rw [hU, if_neg (by decide)]
      exact (ih _ _).mpr ⟨k, hk', hq⟩
theorem cnt_eq {P Q : KP} : ∀ (l : List Nat), l.Nodup → (∀ a ∈ l, a < 6) → ∀ (g : Int → Int) (U : Nat), (∀ k, ext l g U k → P k = Q k) → cnt P l g U = cnt Q l g U
  | [], _, _, g, U, h => by
    show (if P g = true then 1 else 0) = (if Q g = true then 1 else 0)
    rw [h g ⟨fun _ _ _ => rfl, fun a ha => absurd ha List.not_mem_nil, fun a ha => absurd ha List.not_mem_nil⟩]
  | b :: t, hn, h6, g, U, h => by
    have hb := (List.nodup_cons.mp hn).1
    have hb6 := h6 b List.mem_cons_self
    refine s10_congr fun f hf => ?_
    show (if U.testBit f = true then 0 else cnt P t (updF g (b : Int) (f : Int)) (U ||| 2 ^ f)) = (if U.testBit f = true then 0 else cnt Q t (updF g (b : Int) (f : Int)) (U ||| 2 ^ f))
    cases hU : U.testBit f
    · rw [if_neg (by decide), if_neg (by decide)]
      exact cnt_eq t (List.nodup_cons.mp hn).2 (fun a ha => h6 a (List.mem_cons_of_mem _ ha)) _ _ fun k hk => h k ((ext_cons hb hb6).mpr ⟨f, hf, hU, hk⟩)
    · rfl
theorem cnt_none : ∀ (l : List Nat) (g : Int → Int) (U : Nat), cnt (fun _ => false) l g U = 0
  | [], _, _ => rfl
  | b :: t, g, U => by
    show s10 (fun f => if U.testBit f = true then 0 else cnt (fun _ => false) t (updF g (b : Int) (f : Int)) (U ||| 2 ^ f)) 10 = 0
    rw [s10_congr (H := fun _ => 0) fun f _ => by rw [cnt_none t]; split <;> rfl, s10_zero]
/-- how many figures are used -/
def crd (U : Nat) : Nat := s10 (fun f => if U.testBit f = true then 1 else 0) 10
theorem crd_or {U f : Nat} (hU : U.testBit f = false) (hf : f < 10) : crd (U ||| 2 ^ f) = crd U + 1 := by
  have key : ∀ n : Nat, s10 (fun h => if (U ||| 2 ^ f).testBit h = true then 1 else 0) n = s10 (fun h => if U.testBit h = true then 1 else 0) n + (if f < n then 1 else 0) := by
    intro n
    induction n with
    | zero => rfl
    | succ n ih =>
      show s10 (fun h => if (U ||| 2 ^ f).testBit h = true then 1 else 0) n + (if (U ||| 2 ^ f).testBit n = true then 1 else 0) = s10 (fun h => if U.testBit h = true then 1 else 0) n + (if U.testBit n = true then 1 else 0) + _
      rw [ih, tb_or]
      by_cases q : f = n
      · subst q
        rw [hU]
        simp
      · rw [decide_eq_false q, Bool.or_false]
        by_cases w : f < n
        · rw [if_pos w, if_pos (show f < n + 1 by omega)]; omega
        · rw [if_neg w, if_neg (show ¬ f < n + 1 by omega)]; omega
  have := key 10
  rw [if_pos hf] at this
  exact this
def fallN (c : Nat) : Nat → Nat
  | 0 => 1
  | n + 1 => (10 - c) * fallN (c + 1) n
theorem fallN_top : ∀ (n c : Nat), fallN c (n + 1) = fallN c n * (10 - (c + n))
  | 0, c => by
    show (10 - c) * 1 = 1 * (10 - (c + 0))
    rw [Nat.mul_one, Nat.one_mul]
    rfl
  | n + 1, c => by
    show (10 - c) * fallN (c + 1) (n + 1) = (10 - c) * fallN (c + 1) n * (10 - (c + (n + 1)))
    rw [fallN_top n (c + 1), Nat.mul_assoc, show c + 1 + n = c + (n + 1) by omega]
theorem cnt_true : ∀ (l : List Nat) (g : Int → Int) (U : Nat), cnt (fun _ => true) l g U = fallN (crd U) l.length
  | [], _, _ => rfl
  | b :: t, g, U => by
    show s10 (fun f => if U.testBit f = true then 0 else cnt (fun _ => true) t (updF g (b : Int) (f : Int)) (U ||| 2 ^ f)) 10 = (10 - crd U) * fallN (crd U + 1) t.length
    have e : ∀ f : Nat, f < 10 → (if U.testBit f = true then 0 else cnt (fun _ => true) t (updF g (b : Int) (f : Int)) (U ||| 2 ^ f)) = if U.testBit f = true then 0 else fallN (crd U + 1) t.length := by
      intro f hf
      cases hU : U.testBit f
      · rw [if_neg (by decide), if_neg (by decide), cnt_true t, crd_or hU hf]
      · rfl
    rw [s10_congr e]
    have h := s10_free (fun f => U.testBit f) (fallN (crd U + 1) t.length) 10
    have hc : s10 (fun f => if U.testBit f = true then 1 else 0) 10 = crd U := rfl
    rw [hc, Nat.mul_comm _ (crd U)] at h
    rw [Nat.sub_mul]
    omega
theorem fallN_pos : ∀ (n c : Nat), c + n ≤ 10 → 0 < fallN c n
  | 0, _, _ => Nat.one_pos
  | n + 1, c, h => Nat.mul_pos (by omega) (fallN_pos n (c + 1) (by omega))
