/-! ===== the chance of a gap: how both count the ways ===== -/
def sg (f : Nat → Nat) : Nat → Nat
  | 0 => 0
  | k + 1 => sg f k + f k
theorem sg_add (f h : Nat → Nat) : ∀ k, sg (fun i => f i + h i) k = sg f k + sg h k
  | 0 => rfl
  | k + 1 => by
    show sg (fun i => f i + h i) k + (f k + h k) = sg f k + f k + (sg h k + h k)
    rw [sg_add f h k]
    omega
theorem sg_mul (f : Nat → Nat) (c : Nat) : ∀ k, sg (fun i => c * f i) k = c * sg f k
  | 0 => rfl
  | k + 1 => by
    show sg (fun i => c * f i) k + c * f k = c * (sg f k + f k)
    rw [sg_mul f c k, Nat.mul_add]
theorem sg_mulr (f : Nat → Nat) (c : Nat) : ∀ k, sg (fun i => f i * c) k = sg f k * c
  | 0 => (Nat.zero_mul c).symm
  | k + 1 => by
    show sg (fun i => f i * c) k + f k * c = (sg f k + f k) * c
    rw [sg_mulr f c k, Nat.add_mul]
theorem sg_zero : ∀ k, sg (fun _ => 0) k = 0
  | 0 => rfl
  | k + 1 => by
    show sg (fun _ => 0) k + 0 = 0
    rw [sg_zero k]
theorem sg_swap (f : Nat → Nat → Nat) (a : Nat) : ∀ b, sg (fun i => sg (fun j => f i j) a) b = sg (fun j => sg (fun i => f i j) b) a
  | 0 => (sg_zero a).symm
  | b + 1 => by
    show sg (fun i => sg (fun j => f i j) a) b + sg (fun j => f b j) a = sg (fun j => sg (fun i => f i j) b + f b j) a
    rw [sg_swap f a b, sg_add]
theorem sg_congr {f h : Nat → Nat} : ∀ {k : Nat}, (∀ i, i < k → f i = h i) → sg f k = sg h k
  | 0, _ => rfl
  | k + 1, e => by
    show sg f k + f k = sg h k + h k
    rw [sg_congr (fun i hi => e i (by omega)), e k (by omega)]
theorem sg_le {f h : Nat → Nat} : ∀ {k : Nat}, (∀ i, i < k → f i ≤ h i) → sg f k ≤ sg h k
  | 0, _ => Nat.le_refl 0
  | k + 1, e => Nat.add_le_add (sg_le (fun i hi => e i (by omega))) (e k (by omega))
theorem sg_mono (f : Nat → Nat) (k : Nat) : ∀ d, sg f k ≤ sg f (k + d)
  | 0 => Nat.le_refl _
  | d + 1 => Nat.le_trans (sg_mono f k d) (Nat.le_add_right _ _)
theorem sg_term {f : Nat → Nat} {i k : Nat} (h : i < k) : f i ≤ sg f k := by
  obtain ⟨d, rfl⟩ : ∃ d, k = i + 1 + d := ⟨k - i - 1, by omega⟩
  exact Nat.le_trans (Nat.le_add_left _ (sg f i)) (sg_mono f (i + 1) d)
theorem sg_split (f : Nat → Nat) (a : Nat) : ∀ b, sg f (a + b) = sg f a + sg (fun i => f (a + i)) b
  | 0 => rfl
  | b + 1 => by
    show sg f (a + b) + f (a + b) = sg f a + (sg (fun i => f (a + i)) b + f (a + b))
    rw [sg_split f a b, Nat.add_assoc]
theorem sg_left (f : Nat → Nat) (k : Nat) : sg f (k + 1) = f 0 + sg (fun i => f (i + 1)) k := by
  rw [Nat.add_comm k 1, sg_split f 1 k]
  show 0 + f 0 + _ = _
  rw [Nat.zero_add]
  congr 1
  exact sg_congr fun i _ => by rw [Nat.add_comm 1 i]
theorem sg_rev : ∀ (k : Nat) (f : Nat → Nat), sg f k = sg (fun t => f (k - 1 - t)) k
  | 0, _ => rfl
  | k + 1, f => by
    rw [sg_left (fun t => f (k + 1 - 1 - t)) k]
    show sg f k + f k = f k + _
    rw [sg_rev k f, Nat.add_comm]
    congr 1
    exact sg_congr fun i hi => by rw [show k + 1 - 1 - (i + 1) = k - 1 - i by omega]
/-- onto: the ways to lay n finds on j weeks, none of them empty -/
def ont : Nat → Nat → Nat
  | 0, j => if j = 0 then 1 else 0
  | n + 1, j => if j = 0 then 0 else j * (ont n j + ont n (j - 1))
def chs (n : Nat) : Nat → Nat
  | 0 => 1
  | h + 1 => chs n h * (n - h) / (h + 1)
/-- sets of j weeks among w, the last of them met, no gap of g or more -/
def eeG (g : Nat) : Nat → Nat → Nat
  | 0 => fun w => if w = 0 then 1 else 0
  | j + 1 => fun w => match w with
    | 0 => 0
    | w + 1 => sg (fun i => eeG g j (w + 1 - g + i)) (w + 1 - (w + 1 - g))
def waA (g w n : Nat) : Nat := sg (fun j => eeG g j w * ont n j) 13
def nrA (g w n : Nat) : Nat := sg (fun i => waA g (w - g + i) n) (w - (w - g))
theorem ont_id : ∀ n : Fin 13, ∀ j : Fin 13, sg (fun h => chs n.val (h + 1) * ont (n.val - (h + 1)) j.val) n.val = ont n.val (j.val + 1) := by decide +kernel
theorem ont13 : ∀ n : Fin 13, ont n.val 13 = 0 := by decide +kernel
theorem chs_le : ∀ n : Fin 13, ∀ h : Fin 13, chs n.val h.val * (n.val - h.val) ≤ 12000 ∧ chs n.val h.val ≤ 1000 := by decide +kernel
theorem ont_le : ∀ n : Fin 13, ∀ j : Fin 13, ont n.val j.val ≤ 10000000000 := by decide +kernel
theorem bin_id : ∀ w : Fin 31, ∀ n : Fin 13, w.val ^ n.val + sg (fun h => chs n.val (h + 1) * w.val ^ (n.val - (h + 1))) n.val = (w.val + 1) ^ n.val := by decide +kernel
/-- what the class computes for week w + 1 is what the sets say -/
theorem wa_join {g w n : Nat} (hn : n ≤ 12) : sg (fun h => chs n (h + 1) * nrA g (w + 1) (n - (h + 1))) n = waA g (w + 1) n := by
  have e1 : sg (fun h => chs n (h + 1) * nrA g (w + 1) (n - (h + 1))) n = sg (fun h => sg (fun i => sg (fun j => eeG g j (w + 1 - g + i) * (chs n (h + 1) * ont (n - (h + 1)) j)) 13) (w + 1 - (w + 1 - g))) n := by
    refine sg_congr fun h _ => ?_
    show chs n (h + 1) * sg (fun i => waA g (w + 1 - g + i) (n - (h + 1))) (w + 1 - (w + 1 - g)) = _
    rw [← sg_mul]
    refine sg_congr fun i _ => ?_
    show chs n (h + 1) * sg (fun j => eeG g j (w + 1 - g + i) * ont (n - (h + 1)) j) 13 = _
    rw [← sg_mul]
    exact sg_congr fun j _ => by rw [Nat.mul_left_comm]
  rw [e1, sg_swap]
  have e2 : ∀ i, sg (fun h => sg (fun j => eeG g j (w + 1 - g + i) * (chs n (h + 1) * ont (n - (h + 1)) j)) 13) n = sg (fun j => eeG g j (w + 1 - g + i) * ont n (j + 1)) 13 := by
    intro i
    rw [sg_swap]
    refine sg_congr fun j hj => ?_
    rw [sg_mul]
    congr 1
    exact ont_id ⟨n, by omega⟩ ⟨j, hj⟩
  rw [sg_congr fun i _ => e2 i, sg_swap]
  have e3 : waA g (w + 1) n = sg (fun j => eeG g (j + 1) (w + 1) * ont n (j + 1)) 12 := by
    show sg (fun j => eeG g j (w + 1) * ont n j) (12 + 1) = _
    rw [sg_left]
    show 0 * _ + _ = _
    rw [Nat.zero_mul, Nat.zero_add]
  rw [e3]
  show sg _ 12 + sg (fun i => eeG g 12 (w + 1 - g + i) * ont n (12 + 1)) _ = _
  rw [show sg (fun i => eeG g 12 (w + 1 - g + i) * ont n (12 + 1)) (w + 1 - (w + 1 - g)) = 0 by
    rw [ont13 ⟨n, by omega⟩]
    exact (sg_congr fun _ _ => Nat.mul_zero _).trans (sg_zero _), Nat.add_zero]
  refine sg_congr fun j _ => ?_
  rw [sg_mulr]
  rfl
theorem wa_zero (g n : Nat) : waA g 0 n = ont n 0 := by
  show sg (fun j => eeG g j 0 * ont n j) (12 + 1) = _
  rw [sg_left]
  have : sg (fun i => eeG g (i + 1) 0 * ont n (i + 1)) 12 = 0 := (sg_congr fun i _ => Nat.zero_mul _).trans (sg_zero _)
  rw [this]
  show 1 * ont n 0 + 0 = _
  rw [Nat.one_mul, Nat.add_zero]
theorem nr_part {g w n k : Nat} (hk : k ≤ w - (w - g)) : sg (fun i => waA g (w - g + i) n) k ≤ sg (fun v => waA g v n) w := by
  have h1 := sg_split (fun v => waA g v n) (w - g) k
  have h2 := sg_mono (fun v => waA g v n) (w - g + k) (w - (w - g + k))
  rw [show w - g + k + (w - (w - g + k)) = w by omega] at h2
  omega
theorem wa_sum {g : Nat} : ∀ (w : Nat), w ≤ 30 → ∀ n : Nat, n ≤ 12 → sg (fun v => waA g v n) (w + 1) ≤ w ^ n
  | 0, _, n, hn => by
    show 0 + waA g 0 n ≤ _
    rw [wa_zero, Nat.zero_add]
    have : ∀ n : Fin 13, ont n.val 0 ≤ 0 ^ n.val := by decide +kernel
    exact this ⟨n, by omega⟩
  | w + 1, hw, n, hn => by
    have ih := wa_sum (g := g) w (by omega)
    show sg (fun v => waA g v n) (w + 1) + waA g (w + 1) n ≤ _
    have b := bin_id ⟨w, by omega⟩ ⟨n, by omega⟩
    dsimp only at b
    rw [← b, ← wa_join hn]
    refine Nat.add_le_add (ih n hn) (sg_le fun h hh => Nat.mul_le_mul_left _ ?_)
    exact Nat.le_trans (nr_part (Nat.le_refl _)) (ih (n - (h + 1)) (by omega))
theorem pow30 {w n : Nat} (hw : w ≤ 30) (hn : n ≤ 12) : w ^ n ≤ 531441000000000000 := by
  have h1 : w ^ n ≤ 30 ^ n := Nat.pow_le_pow_left hw n
  have h2 : 30 ^ n ≤ 30 ^ 12 := Nat.pow_le_pow_right (by decide) hn
  have h3 : 30 ^ 12 = 531441000000000000 := by decide +kernel
  omega
theorem wa_le {g w n : Nat} (hw : w ≤ 30) (hn : n ≤ 12) : waA g w n ≤ 531441000000000000 :=
  Nat.le_trans (Nat.le_trans (sg_term (f := fun v => waA g v n) (Nat.lt_succ_self w)) (wa_sum w hw n hn)) (pow30 hw hn)
theorem nr_le {g w n k : Nat} (hw : w ≤ 31) (hw1 : 1 ≤ w) (hn : n ≤ 12) (hk : k ≤ w - (w - g)) : sg (fun i => waA g (w - g + i) n) k ≤ (w - 1) ^ n := by
  have := wa_sum (g := g) (w - 1) (by omega) n hn
  rw [show w - 1 + 1 = w by omega] at this
  exact Nat.le_trans (nr_part hk) this
theorem ee_le (g : Nat) : ∀ j w : Nat, eeG g j w ≤ 2 ^ w
  | 0, w => by
    show (if w = 0 then 1 else 0) ≤ 2 ^ w
    have := Nat.two_pow_pos w
    split <;> omega
  | j + 1, 0 => Nat.zero_le _
  | j + 1, w + 1 => by
    show sg (fun i => eeG g j (w + 1 - g + i)) (w + 1 - (w + 1 - g)) ≤ 2 ^ (w + 1)
    have h1 := sg_split (fun v => eeG g j v) (w + 1 - g) (w + 1 - (w + 1 - g))
    rw [show w + 1 - g + (w + 1 - (w + 1 - g)) = w + 1 by omega] at h1
    have h2 : ∀ k, sg (fun v => eeG g j v) k ≤ 2 ^ k := by
      intro k
      have h3 : sg (fun v => eeG g j v) k ≤ sg (fun v => 2 ^ v) k := sg_le fun i _ => ee_le g j i
      have h4 : ∀ k, sg (fun v => 2 ^ v) k + 1 = 2 ^ k := by
        intro k
        induction k with
        | zero => rfl
        | succ k ih =>
          show sg (fun v => 2 ^ v) k + 2 ^ k + 1 = 2 ^ (k + 1)
          rw [Nat.pow_succ]
          omega
      have := h4 k
      omega
    have := h2 (w + 1)
    omega
/-- the sum over the runs of free weeks -/
theorem ee_runs {g w j : Nat} (hg : 1 ≤ g) : sg (fun t => if t < g ∧ t ≤ w then eeG g j (w - t) else 0) 31 = eeG g (j + 1) (w + 1) ∨ 30 < w := by
  by_cases hw : 30 < w
  · exact Or.inr hw
  · left
    show _ = sg (fun i => eeG g j (w + 1 - g + i)) (w + 1 - (w + 1 - g))
    rw [sg_rev (w + 1 - (w + 1 - g))]
    have e := sg_split (fun t => if t < g ∧ t ≤ w then eeG g j (w - t) else 0) (w + 1 - (w + 1 - g)) (31 - (w + 1 - (w + 1 - g)))
    rw [show w + 1 - (w + 1 - g) + (31 - (w + 1 - (w + 1 - g))) = 31 by omega] at e
    rw [e]
    have z : sg (fun i => if w + 1 - (w + 1 - g) + i < g ∧ w + 1 - (w + 1 - g) + i ≤ w then eeG g j (w - (w + 1 - (w + 1 - g) + i)) else 0) (31 - (w + 1 - (w + 1 - g))) = 0 := (sg_congr fun i _ => if_neg (by omega)).trans (sg_zero _)
    rw [z, Nat.add_zero]
    refine sg_congr fun t ht => ?_
    rw [if_pos (by omega), show w + 1 - g + (w + 1 - (w + 1 - g) - 1 - t) = w - t by omega]
