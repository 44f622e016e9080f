/-! ===== the reference's sets of weeks ===== -/
def svG (g w j t : Nat) : Nat := if t < g ∧ t ≤ w then eeG g j (w - t) else 0
theorem svG_le {g w j t : Nat} : svG g w j t ≤ 2 ^ w := by
  unfold svG
  split
  · exact Nat.le_trans (ee_le g j (w - t)) (Nat.pow_le_pow_right (by decide) (by omega))
  · exact Nat.zero_le _
theorem svG_sum {g w j : Nat} (hg : 1 ≤ g) (hw : w ≤ 30) : sg (svG g w j) 31 = eeG g (j + 1) (w + 1) := by
  rcases ee_runs (g := g) (w := w) (j := j) hg with h | h
  · exact h
  · omega
/-- the next row of sets, when the turns before (j, t) are done -/
def nxG (g w j t jj : Nat) : Nat → Nat
  | 0 => match jj with
    | 0 => 0
    | q + 1 => if q < j then sg (svG g w q) 31 else if q = j then sg (svG g w q) t else 0
  | s + 1 => if (jj < j ∨ (jj = j ∧ s < t)) ∧ s + 1 < g then svG g w jj s else 0
theorem nxG_end {g w : Nat} (hg : 1 ≤ g) (hw : w ≤ 29) (jj tt : Nat) (hj : jj ≤ 12) (ht : tt < 31) : nxG g w 13 0 jj tt = svG g (w + 1) jj tt := by
  match tt with
  | 0 =>
    match jj with
    | 0 =>
      show 0 = svG g (w + 1) 0 0
      unfold svG
      rw [if_pos (by omega)]
      rfl
    | q + 1 =>
      show (if q < 13 then sg (svG g w q) 31 else if q = 13 then sg (svG g w q) 0 else 0) = _
      rw [if_pos (by omega), svG_sum hg (by omega)]
      unfold svG
      rw [if_pos (by omega)]
      rfl
  | s + 1 =>
    show (if (jj < 13 ∨ (jj = 13 ∧ s < 0)) ∧ s + 1 < g then svG g w jj s else 0) = _
    unfold svG
    by_cases c : s + 1 < g
    · rw [if_pos ⟨Or.inl (by omega), c⟩]
      by_cases c2 : s ≤ w
      · rw [if_pos ⟨by omega, c2⟩, if_pos ⟨c, by omega⟩, show w + 1 - (s + 1) = w - s by omega]
      · rw [if_neg (fun q => c2 q.2), if_neg (fun q => c2 (by omega))]
    · rw [if_neg (fun q => c q.2), if_neg (fun q => c q.1)]
theorem nxG_row {g w j jj tt : Nat} (ht : tt < 31) : nxG g w j 31 jj tt = nxG g w (j + 1) 0 jj tt := by
  match tt with
  | 0 =>
    match jj with
    | 0 => rfl
    | q + 1 =>
      show (if q < j then sg (svG g w q) 31 else if q = j then sg (svG g w q) 31 else 0) = (if q < j + 1 then sg (svG g w q) 31 else if q = j + 1 then sg (svG g w q) 0 else 0)
      by_cases c : q < j
      · rw [if_pos c, if_pos (by omega)]
      · rw [if_neg c]
        by_cases c2 : q = j
        · rw [if_pos c2, if_pos (by omega)]
        · rw [if_neg c2, if_neg (by omega)]
          split <;> rfl
  | s + 1 =>
    show (if (jj < j ∨ (jj = j ∧ s < 31)) ∧ s + 1 < g then svG g w jj s else 0) = (if (jj < j + 1 ∨ (jj = j + 1 ∧ s < 0)) ∧ s + 1 < g then svG g w jj s else 0)
    by_cases c : s + 1 < g
    · by_cases c2 : jj < j + 1
      · rw [if_pos ⟨by omega, c⟩, if_pos ⟨Or.inl c2, c⟩]
      · rw [if_neg (by omega), if_neg (by omega)]
    · rw [if_neg (fun q => c q.2), if_neg (fun q => c q.2)]
/-- one turn more -/
theorem nxG_step {g w j t jj tt : Nat} (ht : tt < 31) : nxG g w j (t + 1) jj tt = (if jj = j + 1 ∧ tt = 0 then nxG g w j t jj tt + svG g w j t else if jj = j ∧ tt = t + 1 ∧ t + 1 < g then nxG g w j t jj tt + svG g w j t else nxG g w j t jj tt) := by
  match tt with
  | 0 =>
    match jj with
    | 0 => rw [if_neg (by omega), if_neg (by omega)]; rfl
    | q + 1 =>
      show (if q < j then sg (svG g w q) 31 else if q = j then sg (svG g w q) (t + 1) else 0) = _
      by_cases c : q = j
      · subst c
        rw [if_neg (by omega), if_pos rfl, if_pos ⟨rfl, rfl⟩]
        show sg (svG g w q) t + svG g w q t = (if q < q then sg (svG g w q) 31 else if q = q then sg (svG g w q) t else 0) + svG g w q t
        rw [if_neg (by omega), if_pos rfl]
      · rw [if_neg c, if_neg (show ¬ (q + 1 = j + 1 ∧ 0 = 0) by omega), if_neg (show ¬ (q + 1 = j ∧ 0 = t + 1 ∧ t + 1 < g) by omega)]
        show _ = (if q < j then sg (svG g w q) 31 else if q = j then sg (svG g w q) t else 0)
        rw [if_neg c]
  | s + 1 =>
    show (if (jj < j ∨ (jj = j ∧ s < t + 1)) ∧ s + 1 < g then svG g w jj s else 0) = (if jj = j + 1 ∧ s + 1 = 0 then nxG g w j t jj (s + 1) + svG g w j t else if jj = j ∧ s + 1 = t + 1 ∧ t + 1 < g then (if (jj < j ∨ (jj = j ∧ s < t)) ∧ s + 1 < g then svG g w jj s else 0) + svG g w j t else (if (jj < j ∨ (jj = j ∧ s < t)) ∧ s + 1 < g then svG g w jj s else 0))
    rw [if_neg (show ¬ (jj = j + 1 ∧ s + 1 = 0) by omega)]
    by_cases c : jj = j ∧ s + 1 = t + 1 ∧ t + 1 < g
    · obtain ⟨rfl, c2, c3⟩ := c
      have : s = t := by omega
      subst this
      rw [if_pos (show (jj < jj ∨ (jj = jj ∧ s < s + 1)) ∧ s + 1 < g by omega), if_pos (show jj = jj ∧ s + 1 = s + 1 ∧ s + 1 < g from ⟨rfl, rfl, c3⟩), if_neg (show ¬ ((jj < jj ∨ (jj = jj ∧ s < s)) ∧ s + 1 < g) by omega), Nat.zero_add]
    · rw [if_neg c]
      by_cases c2 : (jj < j ∨ (jj = j ∧ s < t)) ∧ s + 1 < g
      · rw [if_pos c2, if_pos (show (jj < j ∨ (jj = j ∧ s < t + 1)) ∧ s + 1 < g by omega)]
      · rw [if_neg c2, if_neg (show ¬ ((jj < j ∨ (jj = j ∧ s < t + 1)) ∧ s + 1 < g) by omega)]
section Sets
variable {X : Nat × (Int → Int)} {mem : Mem} {nf : Nat} {fd : Nat → Nat → Int}
def setsAt (m : Mem) (c : Nat) (F : Nat → Nat → Nat) : Prop := ∀ jj tt : Nat, jj ≤ 12 → tt < 31 → m c (31 * (jj : Int) + (tt : Int)) = (F jj tt : Int)
def onSt (mem m : Mem) : Prop := ∀ y, y ≠ 99 → y ≠ 100 → m y = mem y
theorem onSt.tr {m1 m2 : Mem} (h : onSt mem m1) (h' : onSt m1 m2) : onSt mem m2 := fun y a b => (h' y a b).trans (h y a b)
theorem cm_X12_findSets {wk : Nat} {gi : Int} {g : Nat} (hgi : gi ≤ 30) (hgi0 : 0 ≤ gi) (hg : (g : Int) = max gi 1) (hw : wk ≤ 30) : CM X (0, 0) 0 mX12_findSets G0 [vr 88, vi (wk : Int), vi gi] mem (pV G0 fun m => setsAt m 99 (svG g wk) ∧ onSt mem m) := by
  have hg1 : 1 ≤ g := by omega
  have hgc : ∀ t : Nat, (t : Int) + 1 < gi ↔ t + 1 < g := fun t => by omega
  refine CM.of (by decide +kernel) 5 (Nat.le_of_ble_eq_true rfl) ?_
  show ZZ X (0, 0) 0 mX12_findSets G0 0 [vr 88, vi (wk : Int), vi gi, vd, vd, vd, vd, vd] [] mem _
  have weeks : ∀ (d w : Nat) (m : Mem) (u1 : VV) (u2 u3 u4 : VV), w + d = wk → setsAt m 99 (svG g w) → onSt mem m → (∀ z, u1 ≠ vl z) → (∀ z, u2 ≠ vl z) → (∀ z, u3 ≠ vl z) → ZZ X (0, 0) 0 mX12_findSets G0 32 [vr 88, vi (wk : Int), vi gi, vi (w : Int), u1, u2, u3, u4] [] m (pV G0 fun m => setsAt m 99 (svG g wk) ∧ onSt mem m) := by
    intro d
    induction d with
    | zero =>
      intro w m u1 u2 u3 u4 hi hs hon hu1 hu2 hu3
      have : w = wk := by omega
      subst this
      refine z_iload_n dX12_findSets_32 rfl ?_
      refine z_iload_n dX12_findSets_33 rfl ?_
      refine z_icmp_ge 206 dX12_findSets_34 (by decide) (fun h34 => ?_) (fun h34 => ?_)
      · refine z_vret dX12_findSets_206 rfl ?_
        exact ⟨rfl, rfl, hs, hon⟩
      · omega
    | succ d ih =>
      intro w m0 u1 u2 u3 u4 hi hs hon hu1 hu2 hu3
      have hp2 : 2 ^ w ≤ 2 ^ 30 := Nat.pow_le_pow_right (by decide) (by omega)
      have back : ∀ (e i : Nat) (m : Mem), i + e = 403 → setsAt m 100 (nxG g w 13 0) → (∀ k : Nat, k < i → m 99 (k : Int) = m 100 (k : Int)) → onSt mem m → ZZ X (0, 0) 0 mX12_findSets G0 172 [vr 88, vi (wk : Int), vi gi, vi (w : Int), vi (i : Int), vd, vd, vd] [] m (pV G0 fun m => setsAt m 99 (svG g wk) ∧ onSt mem m) := by
        intro e
        induction e with
        | zero =>
          intro i m hi' hn hk hon
          refine z_iload dX12_findSets_172 rfl ?_
          refine z_sipush dX12_findSets_174 (by decide) ?_
          refine z_icmp_ge 200 dX12_findSets_177 (by decide) (fun h177 => ?_) (fun h177 => ?_)
          · refine z_iinc dX12_findSets_200 rfl (by omega) (by decide) rfl ?_
            dsimp only [List.set]
            refine z_goto 32 dX12_findSets_203 (by decide) ?_
            refine ih (w + 1) _ _ _ _ _ (by omega) (fun jj tt hj ht => ?_) hon (by intro z q; cases q) (by intro z q; cases q) (by intro z q; cases q)
            have hh := hk (31 * jj + tt) (by omega)
            rw [show ((31 * jj + tt : Nat) : Int) = 31 * (jj : Int) + (tt : Int) by omega] at hh
            rw [hh, hn jj tt hj ht, nxG_end hg1 (by omega) jj tt hj ht]
          · omega
        | succ e ihe =>
          intro i m hi' hn hk hon
          refine z_iload dX12_findSets_172 rfl ?_
          refine z_sipush dX12_findSets_174 (by decide) ?_
          refine z_icmp_ge 200 dX12_findSets_177 (by decide) (fun h177 => ?_) (fun h177 => ?_)
          · omega
          · refine z_aload_n dX12_findSets_180 rfl ?_
            refine z_getR (ty := .int) dX12_findSets_181 fl_X12_40 (by first | rfl | assumption) rfl rfl ?_
            refine z_iload dX12_findSets_184 rfl ?_
            refine z_aload_n dX12_findSets_186 rfl ?_
            refine z_getR (ty := .int) dX12_findSets_187 fl_X12_44 (by first | rfl | assumption) rfl rfl ?_
            refine z_iload dX12_findSets_190 rfl ?_
            refine z_lald dX12_findSets_192 (by first | rfl | assumption) (by omega) (by omega) ?_
            refine z_last dX12_findSets_193 (by first | rfl | assumption) (by omega) (by omega) ?_
            refine z_iinc dX12_findSets_194 rfl (by omega) (by decide) rfl ?_
            dsimp only [List.set]
            refine z_goto 172 dX12_findSets_197 (by decide) ?_
            refine ihe (i + 1) _ (by omega) (fun jj tt hj ht => ?_) (fun k hk' => ?_) (fun y a b => (mset_ne _ a _ _).trans (hon y a b))
            · rw [mset_ne _ (by decide)]; exact hn jj tt hj ht
            · rw [show mset m 99 (i : Int) (m 100 (i : Int)) 100 = m 100 from mset_ne _ (by decide) _ _]
              by_cases q : k = i
              · subst q; exact mset_eq _ _ _ _
              · rw [mset_nej _ _ (by omega)]; exact hk k (by omega)
      have js : ∀ (e j : Nat) (m : Mem) (v2 v3 v4 : VV), j + e = 13 → setsAt m 99 (svG g w) → setsAt m 100 (nxG g w j 0) → onSt mem m → (∀ z, v2 ≠ vl z) → ZZ X (0, 0) 0 mX12_findSets G0 65 [vr 88, vi (wk : Int), vi gi, vi (w : Int), vi (j : Int), v2, v3, v4] [] m (pV G0 fun m => setsAt m 99 (svG g wk) ∧ onSt mem m) := by
        intro e
        induction e with
        | zero =>
          intro j m v2 v3 v4 hj hs hn hon hv2
          have : j = 13 := by omega
          subst this
          refine z_kill 7 (z_kill 6 (z_kill 5 ?_))
          dsimp only [List.set]
          refine z_iload dX12_findSets_65 rfl ?_
          refine z_bipush dX12_findSets_67 (by decide) ?_
          refine z_icmp_gt 169 dX12_findSets_69 (by decide) (fun h69 => ?_) (fun h69 => ?_)
          · refine z_iconst dX12_findSets_169 (by decide) ?_
            refine z_istore dX12_findSets_170 (by decide) rfl ?_
            dsimp only [List.set]
            exact back 403 0 _ (by omega) hn (fun k hk => by omega) hon
          · omega
        | succ e ihe =>
          intro j m v2 v3 v4 hj hs hn hon hv2
          have ts : ∀ (f t : Nat) (m : Mem) (v3 v4 : VV), t + f = 31 → setsAt m 99 (svG g w) → setsAt m 100 (nxG g w j t) → onSt mem m → ZZ X (0, 0) 0 mX12_findSets G0 75 [vr 88, vi (wk : Int), vi gi, vi (w : Int), vi (j : Int), vi (t : Int), v3, v4] [] m (pV G0 fun m => setsAt m 99 (svG g wk) ∧ onSt mem m) := by
            intro f
            induction f with
            | zero =>
              intro t m v3 v4 ht hs hn hon
              have : t = 31 := by omega
              subst this
              refine z_iload dX12_findSets_75 rfl ?_
              refine z_bipush dX12_findSets_77 (by decide) ?_
              refine z_icmp_ge 163 dX12_findSets_79 (by decide) (fun h79 => ?_) (fun h79 => ?_)
              · refine z_iinc dX12_findSets_163 rfl (by omega) (by decide) rfl ?_
                dsimp only [List.set]
                refine z_goto 65 dX12_findSets_166 (by decide) ?_
                exact ihe (j + 1) _ _ _ _ (by omega) hs (fun jj tt h1 h2 => (hn jj tt h1 h2).trans (by rw [nxG_row h2])) hon (by intro z q; cases q)
              · omega
            | succ f ihf =>
              intro t m v3 v4 ht hs hn hon
              have r1 := hs j t (by omega) (by omega)
              have b1 := svG_le (g := g) (w := w) (j := j) (t := t)
              have fin1 : ∀ m' : Mem, setsAt m' 99 (svG g w) → setsAt m' 100 (nxG g w j (t + 1)) → onSt mem m' → ZZ X (0, 0) 0 mX12_findSets G0 157 [vr 88, vi (wk : Int), vi gi, vi (w : Int), vi (j : Int), vi (t : Int), vl (svG g w j t : Int), vd] [] m' (pV G0 fun m => setsAt m 99 (svG g wk) ∧ onSt mem m) := by
                intro m' hs' hn' hon'
                refine z_iinc dX12_findSets_157 rfl (by omega) (by decide) rfl ?_
                dsimp only [List.set]
                refine z_goto 75 dX12_findSets_160 (by decide) ?_
                exact ihf (t + 1) _ _ _ (by omega) hs' hn' hon'
              have nb : j < 12 → nxG g w j t (j + 1) 0 ≤ 2 ^ 35 := by
                intro _
                show (if j < j then sg (svG g w j) 31 else if j = j then sg (svG g w j) t else 0) ≤ 2 ^ 35
                rw [if_neg (by omega), if_pos rfl]
                have a1 := sg_mono (svG g w j) t (31 - t)
                rw [show t + (31 - t) = 31 by omega, svG_sum hg1 (by omega)] at a1
                have a2 := ee_le g (j + 1) (w + 1)
                have a3 : 2 ^ (w + 1) ≤ 2 ^ 35 := Nat.pow_le_pow_right (by decide) (by omega)
                omega
              have nb2 : t + 1 < 31 → nxG g w j t j (t + 1) = 0 := by
                intro _
                show (if (j < j ∨ (j = j ∧ t < t)) ∧ t + 1 < g then svG g w j t else 0) = 0
                rw [if_neg (by omega)]
              have mid : ∀ m' : Mem, setsAt m' 99 (svG g w) → (∀ jj tt : Nat, jj ≤ 12 → tt < 31 → m' 100 (31 * (jj : Int) + (tt : Int)) = ((if jj = j + 1 ∧ tt = 0 then nxG g w j t jj tt + svG g w j t else nxG g w j t jj tt : Nat) : Int)) → onSt mem m' → ZZ X (0, 0) 0 mX12_findSets G0 122 [vr 88, vi (wk : Int), vi gi, vi (w : Int), vi (j : Int), vi (t : Int), vl (svG g w j t : Int), vd] [] m' (pV G0 fun m => setsAt m 99 (svG g wk) ∧ onSt mem m) := by
                intro m' hs' hn' hon'
                have skip : ¬ (t + 1 < g ∧ t < 30) → setsAt m' 100 (nxG g w j (t + 1)) := by
                  intro c jj tt h1 h2
                  rw [hn' jj tt h1 h2, nxG_step h2]
                  by_cases c1 : jj = j + 1 ∧ tt = 0
                  · rw [if_pos c1, if_pos c1]
                  · rw [if_neg c1, if_neg c1, if_neg (by omega)]
                have gc := hgc t
                refine z_iload dX12_findSets_122 rfl ?_
                refine z_iconst dX12_findSets_124 (by decide) ?_
                refine z_iadd dX12_findSets_125 (by omega) ?_
                refine z_iload_n dX12_findSets_126 rfl ?_
                refine z_icmp_ge 157 dX12_findSets_127 (by decide) (fun h127 => ?_) (fun h127 => ?_)
                · exact fin1 m' hs' (skip (by omega)) hon'
                · refine z_iload dX12_findSets_130 rfl ?_
                  refine z_bipush dX12_findSets_132 (by decide) ?_
                  refine z_icmp_ge 157 dX12_findSets_134 (by decide) (fun h134 => ?_) (fun h134 => ?_)
                  · exact fin1 m' hs' (skip (by omega)) hon'
                  · have r2 := hn' j (t + 1) (by omega) (by omega)
                    rw [if_neg (by omega), nb2 (by omega), show 31 * (j : Int) + ((t + 1 : Nat) : Int) = 31 * (j : Int) + (t : Int) + 1 by omega] at r2
                    refine z_aload_n dX12_findSets_137 rfl ?_
                    refine z_getR (ty := .int) dX12_findSets_138 fl_X12_44 (by first | rfl | assumption) rfl rfl ?_
                    refine z_bipush dX12_findSets_141 (by decide) ?_
                    refine z_iload dX12_findSets_143 rfl ?_
                    refine z_imul dX12_findSets_145 (by omega) ?_
                    refine z_iload dX12_findSets_146 rfl ?_
                    refine z_iadd dX12_findSets_148 (by omega) ?_
                    refine z_iconst dX12_findSets_149 (by decide) ?_
                    refine z_iadd dX12_findSets_150 (by omega) ?_
                    refine z_dup2 dX12_findSets_151 (by intro z q; cases q) (by intro z q; cases q) ?_
                    refine z_lald dX12_findSets_152 (by first | rfl | assumption) (by omega) (by omega) ?_
                    rw [r2]
                    refine z_lload dX12_findSets_153 rfl ?_
                    refine z_ladd dX12_findSets_155 (by omega) ?_
                    refine z_last dX12_findSets_156 (by first | rfl | assumption) (by omega) (by omega) ?_
                    refine fin1 _ (fun jj tt h1 h2 => by rw [mset_ne _ (by decide)]; exact hs' jj tt h1 h2) (fun jj tt h1 h2 => ?_) (fun y a b => (mset_ne _ b _ _).trans (hon' y a b))
                    rw [nxG_step h2]
                    by_cases q : jj = j ∧ tt = t + 1
                    · obtain ⟨rfl, rfl⟩ := q
                      rw [if_neg (by omega), if_pos (by omega), nb2 (by omega), show 31 * (jj : Int) + ((t + 1 : Nat) : Int) = 31 * (jj : Int) + (t : Int) + 1 by omega, mset_eq]
                      omega
                    · rw [mset_nej _ _ (by omega), hn' jj tt h1 h2]
                      by_cases c1 : jj = j + 1 ∧ tt = 0
                      · rw [if_pos c1, if_pos c1]
                      · rw [if_neg c1, if_neg c1, if_neg (by omega)]
              refine z_kill 7 (z_kill 6 ?_)
              dsimp only [List.set]
              refine z_iload dX12_findSets_75 rfl ?_
              refine z_bipush dX12_findSets_77 (by decide) ?_
              refine z_icmp_ge 163 dX12_findSets_79 (by decide) (fun h79 => ?_) (fun h79 => ?_)
              · omega
              · refine z_aload_n dX12_findSets_82 rfl ?_
                refine z_getR (ty := .int) dX12_findSets_83 fl_X12_40 (by first | rfl | assumption) rfl rfl ?_
                refine z_bipush dX12_findSets_86 (by decide) ?_
                refine z_iload dX12_findSets_88 rfl ?_
                refine z_imul dX12_findSets_90 (by omega) ?_
                refine z_iload dX12_findSets_91 rfl ?_
                refine z_iadd dX12_findSets_93 (by omega) ?_
                refine z_lald dX12_findSets_94 (by first | rfl | assumption) (by omega) (by omega) ?_
                rw [r1]
                refine z_lstore dX12_findSets_95 (by decide) rfl ?_
                dsimp only [List.set]
                refine z_iload dX12_findSets_97 rfl ?_
                refine z_bipush dX12_findSets_99 (by decide) ?_
                refine z_icmp_ge 122 dX12_findSets_101 (by decide) (fun h101 => ?_) (fun h101 => ?_)
                · exact mid m hs (fun jj tt h1 h2 => by rw [if_neg (by omega)]; exact hn jj tt h1 h2) hon
                · have r2 := hn (j + 1) 0 (by omega) (by omega)
                  have nb' := nb (by omega)
                  rw [show 31 * ((j + 1 : Nat) : Int) + ((0 : Nat) : Int) = 31 * (j : Int) + 31 by omega] at r2
                  refine z_aload_n dX12_findSets_104 rfl ?_
                  refine z_getR (ty := .int) dX12_findSets_105 fl_X12_44 (by first | rfl | assumption) rfl rfl ?_
                  refine z_bipush dX12_findSets_108 (by decide) ?_
                  refine z_iload dX12_findSets_110 rfl ?_
                  refine z_imul dX12_findSets_112 (by omega) ?_
                  refine z_bipush dX12_findSets_113 (by decide) ?_
                  refine z_iadd dX12_findSets_115 (by omega) ?_
                  refine z_dup2 dX12_findSets_116 (by intro z q; cases q) (by intro z q; cases q) ?_
                  refine z_lald dX12_findSets_117 (by first | rfl | assumption) (by omega) (by omega) ?_
                  rw [r2]
                  refine z_lload dX12_findSets_118 rfl ?_
                  refine z_ladd dX12_findSets_120 (by omega) ?_
                  refine z_last dX12_findSets_121 (by first | rfl | assumption) (by omega) (by omega) ?_
                  refine mid _ (fun jj tt h1 h2 => by rw [mset_ne _ (by decide)]; exact hs jj tt h1 h2) (fun jj tt h1 h2 => ?_) (fun y a b => (mset_ne _ b _ _).trans (hon y a b))
                  by_cases q : jj = j + 1 ∧ tt = 0
                  · obtain ⟨rfl, rfl⟩ := q
                    rw [if_pos ⟨rfl, rfl⟩, show 31 * ((j + 1 : Nat) : Int) + ((0 : Nat) : Int) = 31 * (j : Int) + 31 by omega, mset_eq]
                    omega
                  · rw [if_neg q, mset_nej _ _ (by omega)]
                    exact hn jj tt h1 h2
          refine z_kill 5 ?_
          dsimp only [List.set]
          refine z_iload dX12_findSets_65 rfl ?_
          refine z_bipush dX12_findSets_67 (by decide) ?_
          refine z_icmp_gt 169 dX12_findSets_69 (by decide) (fun h69 => ?_) (fun h69 => ?_)
          · omega
          · refine z_iconst dX12_findSets_72 (by decide) ?_
            refine z_istore dX12_findSets_73 (by decide) rfl ?_
            dsimp only [List.set]
            exact ts 31 0 _ _ _ (by omega) hs hn hon
      have zero : ∀ (e i : Nat) (m : Mem), i + e = 403 → setsAt m 99 (svG g w) → (∀ k : Nat, k < i → m 100 (k : Int) = 0) → onSt mem m → ZZ X (0, 0) 0 mX12_findSets G0 40 [vr 88, vi (wk : Int), vi gi, vi (w : Int), vi (i : Int), vd, vd, vd] [] m (pV G0 fun m => setsAt m 99 (svG g wk) ∧ onSt mem m) := by
        intro e
        induction e with
        | zero =>
          intro i m hi' hs hk hon
          refine z_iload dX12_findSets_40 rfl ?_
          refine z_sipush dX12_findSets_42 (by decide) ?_
          refine z_icmp_ge 62 dX12_findSets_45 (by decide) (fun h45 => ?_) (fun h45 => ?_)
          · refine z_iconst dX12_findSets_62 (by decide) ?_
            refine z_istore dX12_findSets_63 (by decide) rfl ?_
            dsimp only [List.set]
            refine js 13 0 _ _ _ _ (by omega) hs (fun jj tt h1 h2 => ?_) hon (by intro z q; cases q)
            have hh := hk (31 * jj + tt) (by omega)
            rw [show ((31 * jj + tt : Nat) : Int) = 31 * (jj : Int) + (tt : Int) by omega] at hh
            rw [hh]
            match tt with
            | 0 =>
              match jj with
              | 0 => rfl
              | q + 1 =>
                show (0 : Int) = ((if q < 0 then sg (svG g w q) 31 else if q = 0 then sg (svG g w q) 0 else 0 : Nat) : Int)
                rw [if_neg (by omega)]
                split <;> rfl
            | s + 1 =>
              show (0 : Int) = ((if (jj < 0 ∨ (jj = 0 ∧ s < 0)) ∧ s + 1 < g then svG g w jj s else 0 : Nat) : Int)
              rw [if_neg (by omega)]
              rfl
          · omega
        | succ e ihe =>
          intro i m hi' hs hk hon
          refine z_iload dX12_findSets_40 rfl ?_
          refine z_sipush dX12_findSets_42 (by decide) ?_
          refine z_icmp_ge 62 dX12_findSets_45 (by decide) (fun h45 => ?_) (fun h45 => ?_)
          · omega
          · refine z_aload_n dX12_findSets_48 rfl ?_
            refine z_getR (ty := .int) dX12_findSets_49 fl_X12_44 (by first | rfl | assumption) rfl rfl ?_
            refine z_iload dX12_findSets_52 rfl ?_
            refine z_lconst (z := 0) dX12_findSets_54 rfl (by decide) ?_
            refine z_last dX12_findSets_55 (by first | rfl | assumption) (by omega) (by omega) ?_
            refine z_iinc dX12_findSets_56 rfl (by omega) (by decide) rfl ?_
            dsimp only [List.set]
            refine z_goto 40 dX12_findSets_59 (by decide) ?_
            refine ihe (i + 1) _ (by omega) (fun jj tt h1 h2 => by rw [mset_ne _ (by decide)]; exact hs jj tt h1 h2) (fun k hk' => ?_) (fun y a b => (mset_ne _ b _ _).trans (hon y a b))
            by_cases q : k = i
            · subst q; exact mset_eq _ _ _ _
            · rw [mset_nej _ _ (by omega)]; exact hk k (by omega)
      refine z_kill 7 (z_kill 6 (z_kill 5 (z_kill 4 ?_)))
      dsimp only [List.set]
      refine z_iload_n dX12_findSets_32 rfl ?_
      refine z_iload_n dX12_findSets_33 rfl ?_
      refine z_icmp_ge 206 dX12_findSets_34 (by decide) (fun h34 => ?_) (fun h34 => ?_)
      · omega
      · refine z_iconst dX12_findSets_37 (by decide) ?_
        refine z_istore dX12_findSets_38 (by decide) rfl ?_
        dsimp only [List.set]
        exact zero 403 0 _ (by omega) hs (fun k hk => by omega) hon
  have start : ∀ (e i : Nat) (m : Mem), i + e = 403 → (∀ k : Nat, k < i → m 99 (k : Int) = if k = 0 then 1 else 0) → onSt mem m → ZZ X (0, 0) 0 mX12_findSets G0 2 [vr 88, vi (wk : Int), vi gi, vi (i : Int), vd, vd, vd, vd] [] m (pV G0 fun m => setsAt m 99 (svG g wk) ∧ onSt mem m) := by
    intro e
    induction e with
    | zero =>
      intro i m hi' hk hon
      refine z_iload_n dX12_findSets_2 rfl ?_
      refine z_sipush dX12_findSets_3 (by decide) ?_
      refine z_icmp_ge 30 dX12_findSets_6 (by decide) (fun h6 => ?_) (fun h6 => ?_)
      · refine z_iconst dX12_findSets_30 (by decide) ?_
        refine z_istore_n dX12_findSets_31 (by decide) rfl ?_
        dsimp only [List.set]
        refine weeks wk 0 _ _ _ _ _ (by omega) (fun jj tt h1 h2 => ?_) hon (by intro z q; cases q) (by intro z q; cases q) (by intro z q; cases q)
        have hh := hk (31 * jj + tt) (by omega)
        rw [show ((31 * jj + tt : Nat) : Int) = 31 * (jj : Int) + (tt : Int) by omega] at hh
        rw [hh]
        unfold svG
        by_cases q : tt = 0
        · subst q
          rw [if_pos (show 0 < g ∧ 0 ≤ 0 by omega)]
          match jj with
          | 0 => rfl
          | q + 1 => rw [if_neg (by omega)]; rfl
        · rw [if_neg (by omega), if_neg (by omega)]; rfl
      · omega
    | succ e ihe =>
      intro i m hi' hk hon
      refine z_iload_n dX12_findSets_2 rfl ?_
      refine z_sipush dX12_findSets_3 (by decide) ?_
      refine z_icmp_ge 30 dX12_findSets_6 (by decide) (fun h6 => ?_) (fun h6 => ?_)
      · omega
      · refine z_aload_n dX12_findSets_9 rfl ?_
        refine z_getR (ty := .int) dX12_findSets_10 fl_X12_40 (by first | rfl | assumption) rfl rfl ?_
        refine z_iload_n dX12_findSets_13 rfl ?_
        refine z_iload_n dX12_findSets_14 rfl ?_
        refine z_if_ne 22 dX12_findSets_15 (by decide) (fun h15 => ?_) (fun h15 => ?_)
        · refine z_lconst (z := 0) dX12_findSets_22 rfl (by decide) ?_
          refine z_last dX12_findSets_23 (by first | rfl | assumption) (by omega) (by omega) ?_
          refine z_iinc dX12_findSets_24 rfl (by omega) (by decide) rfl ?_
          dsimp only [List.set]
          refine z_goto 2 dX12_findSets_27 (by decide) ?_
          refine ihe (i + 1) _ (by omega) (fun k hk' => ?_) (fun y a b => (mset_ne _ a _ _).trans (hon y a b))
          by_cases q : k = i
          · subst q; rw [mset_eq]; first | (rw [if_pos (by omega)]; done) | (rw [if_neg (by omega)]; done)
          · rw [mset_nej _ _ (by omega)]; exact hk k (by omega)
        · refine z_lconst (z := 1) dX12_findSets_18 rfl (by decide) ?_
          refine z_goto 23 dX12_findSets_19 (by decide) ?_
          refine z_last dX12_findSets_23 (by first | rfl | assumption) (by omega) (by omega) ?_
          refine z_iinc dX12_findSets_24 rfl (by omega) (by decide) rfl ?_
          dsimp only [List.set]
          refine z_goto 2 dX12_findSets_27 (by decide) ?_
          refine ihe (i + 1) _ (by omega) (fun k hk' => ?_) (fun y a b => (mset_ne _ a _ _).trans (hon y a b))
          by_cases q : k = i
          · subst q; rw [mset_eq]; first | (rw [if_pos (by omega)]; done) | (rw [if_neg (by omega)]; done)
          · rw [mset_nej _ _ (by omega)]; exact hk k (by omega)
  refine z_iconst dX12_findSets_0 (by decide) ?_
  refine z_istore_n dX12_findSets_1 (by decide) rfl ?_
  dsimp only [List.set]
  exact start 403 0 _ (by omega) (fun k hk => by omega) (fun _ _ _ => rfl)
end Sets
