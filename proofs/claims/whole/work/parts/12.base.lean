section RulesE
variable {X : Nat × (Int → Int)} {b : Nat × Nat} {d : Nat} {mi : MI} {G : List GC} {pc : Nat} {L S : List VV} {mem : Mem} {Q : zPost}
theorem z_gI (j : Int) {idx ci k a : Nat} {rs : List (Option Nat)} (hd : decode mi.2.1 pc = .ok (.getfield idx, 3)) (hf : fdOK mi.1.cls idx ci k) (hg : G[a]? = some (0, ci, rs)) (hty : tyC ci k = .int) (hj : (k : Int) = j) (kk : ZZ X b d mi G (pc + 3) L (vi (mem a j) :: S) mem Q) : ZZ X b d mi G pc L (vr a :: S) mem Q := by
  subst hj
  exact z_getI hd hf hg hty kk
theorem z_gZ (j : Int) {idx ci k a : Nat} {rs : List (Option Nat)} (hd : decode mi.2.1 pc = .ok (.getfield idx, 3)) (hf : fdOK mi.1.cls idx ci k) (hg : G[a]? = some (0, ci, rs)) (hty : tyC ci k = .boolean) (hj : (k : Int) = j) (kk : (mem a j = 0 ∨ mem a j = 1) → ZZ X b d mi G (pc + 3) L (vi (mem a j) :: S) mem Q) : ZZ X b d mi G pc L (vr a :: S) mem Q := by
  subst hj
  refine ZZ.know (fun _ _ hm => z_getZ hd hf hg hty (kk ?_))
  have hkn : k < nfC ci := by
    obtain ⟨C, T, N, hc, hkN, -⟩ := hf
    rw [nfC_of hc]; exact hkN
  have q := (hm a _ hg).2.2 k hkn
  rw [hty] at q
  exact q
theorem z_gJ (j : Int) {idx ci k a : Nat} {rs : List (Option Nat)} (hd : decode mi.2.1 pc = .ok (.getfield idx, 3)) (hf : fdOK mi.1.cls idx ci k) (hg : G[a]? = some (0, ci, rs)) (hty : tyC ci k = .long) (hj : (k : Int) = j) (kk : ZZ X b d mi G (pc + 3) L (vl (mem a j) :: S) mem Q) : ZZ X b d mi G pc L (vr a :: S) mem Q := by
  subst hj
  exact z_getJ hd hf hg hty kk
theorem z_pI (j : Int) {idx ci k a : Nat} {rs : List (Option Nat)} {z : Int} (hd : decode mi.2.1 pc = .ok (.putfield idx, 3)) (hf : fdM mi.1.cls idx ci k) (hg : G[a]? = some (0, ci, rs)) (hty : tyC ci k = .int) (hj : (k : Int) = j) (kk : ZZ X b d mi G (pc + 3) L S (mset mem a j z) Q) : ZZ X b d mi G pc L (vi z :: vr a :: S) mem Q := by
  subst hj
  exact z_putI hd hf hg hty kk
theorem z_pJ (j : Int) {idx ci k a : Nat} {rs : List (Option Nat)} {z : Int} (hd : decode mi.2.1 pc = .ok (.putfield idx, 3)) (hf : fdM mi.1.cls idx ci k) (hg : G[a]? = some (0, ci, rs)) (hty : tyC ci k = .long) (hj : (k : Int) = j) (kk : ZZ X b d mi G (pc + 3) L S (mset mem a j z) Q) : ZZ X b d mi G pc L (vl z :: vr a :: S) mem Q := by
  subst hj
  exact z_putJ hd hf hg hty kk
theorem z_pZ (j : Int) {idx ci k a : Nat} {rs : List (Option Nat)} {z : Int} (hd : decode mi.2.1 pc = .ok (.putfield idx, 3)) (hf : fdM mi.1.cls idx ci k) (hg : G[a]? = some (0, ci, rs)) (hty : tyC ci k = .boolean) (hj : (k : Int) = j) (hz : z = 0 ∨ z = 1) (kk : ZZ X b d mi G (pc + 3) L S (mset mem a j z) Q) : ZZ X b d mi G pc L (vi z :: vr a :: S) mem Q := by
  subst hj
  exact z_putZ hd hf hg hty hz kk
end RulesE
theorem mset_self {m : Mem} {a : Nat} {j v : Int} (h : m a j = v) : mset m a j v = m := by
  funext a' j'
  unfold mset
  by_cases e : a' = a
  · subst e
    rw [if_pos rfl]
    by_cases q : j' = j
    · subst q; simp [h]
    · simp [q]
  · simp [e]
theorem mset_mset (m : Mem) (a : Nat) (j v w : Int) : mset (mset m a j v) a j w = mset m a j w := by
  funext a' j'
  unfold mset
  by_cases e : a' = a
  · subst e
    by_cases q : j' = j <;> simp [q]
  · simp [e]
theorem mset_row (m : Mem) (a : Nat) (j v : Int) : mset m a j v = mrow m a (fun i => if i = j then v else m a i) := rfl
theorem mrow_mrow (m : Mem) (a : Nat) (f g : Int → Int) : mrow (mrow m a f) a g = mrow m a g := by
  funext a'
  unfold mrow
  by_cases e : a' = a <;> simp [e]
-- the value of a row of digits to the base 2 to the 30
abbrev zB : Int := 1073741824
def nv (f : Int → Int) : Nat → Int
  | 0 => 0
  | n + 1 => nv f n + f (n : Int) * zB ^ n
theorem nv_congr {f g : Int → Int} : ∀ {n : Nat}, (∀ i : Nat, i < n → f (i : Int) = g (i : Int)) → nv f n = nv g n
  | 0, _ => rfl
  | n + 1, h => by
    show nv f n + f (n : Int) * zB ^ n = nv g n + g (n : Int) * zB ^ n
    rw [nv_congr (fun i hi => h i (by omega)), h n (by omega)]
def dig (f : Int → Int) (n : Nat) : Prop := ∀ i : Nat, i < n → 0 ≤ f (i : Int) ∧ f (i : Int) < 1073741824
theorem zB_pos (n : Nat) : (0 : Int) < zB ^ n := Int.pow_pos (by decide)
theorem nv_nonneg {f : Int → Int} : ∀ {n : Nat}, dig f n → 0 ≤ nv f n
  | 0, _ => Int.le_refl 0
  | n + 1, h => by
    have h1 := nv_nonneg (n := n) (fun i hi => h i (by omega))
    have h2 := Int.mul_nonneg (h n (by omega)).1 (Int.le_of_lt (zB_pos n))
    show 0 ≤ nv f n + f (n : Int) * zB ^ n
    omega
theorem nv_lt {f : Int → Int} : ∀ {n : Nat}, dig f n → nv f n < zB ^ n
  | 0, _ => by show (0 : Int) < zB ^ 0; decide
  | n + 1, h => by
    have h1 := nv_lt (n := n) (fun i hi => h i (by omega))
    have hB : zB = 1073741824 := rfl
    have h2 : f (n : Int) * zB ^ n ≤ (zB - 1) * zB ^ n := Int.mul_le_mul_of_nonneg_right (by have := (h n (by omega)).2; omega) (Int.le_of_lt (zB_pos n))
    show nv f n + f (n : Int) * zB ^ n < zB ^ (n + 1)
    rw [Int.pow_succ, Int.mul_comm (zB ^ n) zB]
    rw [Int.sub_mul] at h2
    omega
/-- digits above are nought -/
theorem nv_pad {f : Int → Int} {k : Nat} : ∀ {n : Nat}, k ≤ n → (∀ i : Nat, k ≤ i → i < n → f (i : Int) = 0) → nv f n = nv f k
  | 0, h, _ => by rw [show k = 0 by omega]
  | n + 1, h, hz => by
    by_cases e : k = n + 1
    · rw [e]
    · show nv f n + f (n : Int) * zB ^ n = nv f k
      rw [hz n (by omega) (by omega), nv_pad (n := n) (by omega) (fun i h1 h2 => hz i h1 (by omega))]
      omega
-- a Natural of ours: the object, then its row
def isN (G : List GC) (o : Nat) : Prop := G[o]? = some (0, 8, [some (o + 1), none]) ∧ G[o + 1]? = some (1, 64, [])
/-- the Natural at o holds v -/
def natAt (mem : Mem) (o : Nat) (v : Nat) : Prop := ∃ n : Nat, mem o 1 = (n : Int) ∧ n ≤ 64 ∧ dig (mem (o + 1)) n ∧ nv (mem (o + 1)) n = (v : Int) ∧ (n = 0 ∨ mem (o + 1) ((n : Int) - 1) ≠ 0)
/-- only the Natural at o has changed -/
def onN (o : Nat) (mem mem' : Mem) : Prop := ∀ a, a ≠ o → a ≠ o + 1 → mem' a = mem a
theorem onN.rf (o : Nat) (mem : Mem) : onN o mem mem := fun _ _ _ => rfl
theorem onN.tr {o : Nat} {m1 m2 m3 : Mem} (h1 : onN o m1 m2) (h2 : onN o m2 m3) : onN o m1 m3 := fun a ha hb => (h2 a ha hb).trans (h1 a ha hb)
theorem onN_set {o : Nat} {mem : Mem} {a : Nat} {j v : Int} (h : a = o ∨ a = o + 1) : onN o mem (mset mem a j v) := fun a' ha hb => mset_ne mem (by rcases h with h | h <;> omega) j v
theorem natAt.kept {mem mem' : Mem} {o v : Nat} (h : natAt mem o v) (h1 : mem' o = mem o) (h2 : mem' (o + 1) = mem (o + 1)) : natAt mem' o v := by
  obtain ⟨n, a, b, c, d, e⟩ := h
  exact ⟨n, by rw [h1]; exact a, b, by rw [h2]; exact c, by rw [h2]; exact d, by rw [h2]; exact e⟩
/-- another Natural, that lies apart, stays -/
theorem natAt.off {mem mem' : Mem} {o p v : Nat} (h : natAt mem p v) (hon : onN o mem mem') (h1 : p ≠ o) (h2 : p ≠ o + 1) (h3 : p + 1 ≠ o) : natAt mem' p v := h.kept (hon p h1 h2) (hon (p + 1) h3 (by omega))
theorem nv_msetS (m : Mem) (a i : Nat) (v : Int) : nv (mset m a (i : Int) v a) (i + 1) = nv (m a) i + v * zB ^ i := by
  show nv _ i + _ * zB ^ i = _
  rw [mset_eq, nv_congr (g := m a) (fun j hj => mset_nej m a (by omega) v)]
theorem dig_msetS {m : Mem} {a i : Nat} {v : Int} (h : dig (m a) i) (h0 : 0 ≤ v) (h1 : v < 1073741824) : dig (mset m a (i : Int) v a) (i + 1) := by
  intro j hj
  by_cases q : j = i
  · subst q
    rw [mset_eq]
    exact ⟨h0, h1⟩
  · rw [mset_nej m a (by omega) v]
    exact h j (by omega)
theorem dig_mset {m : Mem} {a i n : Nat} {v : Int} (h : dig (m a) n) (h0 : 0 ≤ v) (h1 : v < 1073741824) : dig (mset m a (i : Int) v a) n := by
  intro j hj
  by_cases q : j = i
  · subst q
    rw [mset_eq]
    exact ⟨h0, h1⟩
  · rw [mset_nej m a (by omega) v]
    exact h j hj
theorem onN.sz {o : Nat} {m : Mem} {j v n : Int} (h : m o 1 = n) : mset m (o + 1) j v o 1 = n := by
  rw [mset_ne _ (by omega)]
  exact h
