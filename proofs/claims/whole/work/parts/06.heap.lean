section RulesB
variable {X : Nat × (Int → Int)} {b : Nat × Nat} {d : Nat} {mi : MI} {G : List GC} {pc : Nat} {L S : List VV} {mem : Mem} {Q : zPost}
-- what a class of ours is, by its number
def clOK (ci : Nat) (C : String) (T : u_T) (N : Nat) : Prop := vwCl[ci]? = some (C, T, N) ∧ (∀ w ∈ u_ws C T N, w ∈ wsG) ∧ (∀ k, k < N → parseFieldDescriptor (T k).2.2.1 = some (tyC ci k)) ∧ (∀ a, a < N → ∀ b, b < N → a ≠ b → (T a).2.1 ≠ (T b).2.1)
-- a field by the place in the constant pool of a class of ours
def fdOK (own : String) (idx ci k : Nat) : Prop := ∃ (C : String) (T : u_T) (N : Nat), clOK ci C T N ∧ k < N ∧ (Cond.fieldLink own idx (T k).1 (T k).2.1 (T k).2.2.1 ∈ wsG ∨ ∃ host, Cond.fieldLinkNest own idx (T k).1 (T k).2.1 (T k).2.2.1 host ∈ nwL)
def fdM (own : String) (idx ci k : Nat) : Prop := ∃ (C : String) (T : u_T) (N : Nat), clOK ci C T N ∧ k < N ∧ (T k).2.2.2 = false ∧ (Cond.fieldLink own idx (T k).1 (T k).2.1 (T k).2.2.1 ∈ wsG ∨ ∃ host, Cond.fieldLinkNest own idx (T k).1 (T k).2.1 (T k).2.2.1 host ∈ nwL)
def fdF (own : String) (idx ci k : Nat) : Prop := ∃ (C : String) (T : u_T) (N : Nat), clOK ci C T N ∧ k < N ∧ (T k).2.2.2 = true ∧ (T k).1 = own ∧ Cond.fieldLink own idx (T k).1 (T k).2.1 (T k).2.2.1 ∈ wsG
theorem fdM.ok {own : String} {idx ci k : Nat} (h : fdM own idx ci k) : fdOK own idx ci k := by
  obtain ⟨C, T, N, h1, h2, -, h3⟩ := h
  exact ⟨C, T, N, h1, h2, h3⟩
theorem nfC_of {ci : Nat} {C : String} {T : u_T} {N : Nat} (h : clOK ci C T N) : nfC ci = N := by
  unfold nfC
  rw [h.1]
  rfl
theorem fvals_at {σ : Nat → Nat} {ci k : Nat} {rs : List (Option Nat)} {f : Int → Int} (hk : k < nfC ci) : (fvals σ ci rs f)[k]? = some (fval σ (tyC ci k) (rs.getD k none) (f (k : Int))) := by
  unfold fvals
  rw [List.getElem?_map, List.getElem?_range hk]
  rfl
theorem fvals_len {σ : Nat → Nat} {ci : Nat} {rs : List (Option Nat)} {f : Int → Int} : (fvals σ ci rs f).length = nfC ci := by simp [fvals]
/-- any field, as a value of the machine -/
theorem z_getW {own : String} {idx ci k a : Nat} {rs : List (Option Nat)} (hd : decode mi.2.1 pc = .ok (.getfield idx, 3)) (hf : fdOK mi.1.cls idx ci k) (hg : G[a]? = some (0, ci, rs))
    {v : VV} (hv : ∀ σ ρ : Nat → Nat, fval σ (tyC ci k) (rs.getD k none) (mem a (k : Int)) = rv σ ρ v) (hok : mok G mem → vok G.length v) (kk : ZZ X b d mi G (pc + 3) L (v :: S) mem Q) : ZZ X b d mi G pc L (vr a :: S) mem Q := by
  intro p l e R s m args below meth c D K ρ A n0 σ0 σ H locs cells slots mc ms ls hK hS hL hl
  have h : W p l e R s m args below meth c H locs cells slots (MQ below (zQ D K ρ n0 σ0 A Q) args s mc ms A) (F0 m (pc + 3) ls (rv σ ρ v :: S.map (rv σ ρ))) := kk p l e R s m args below meth c D K ρ A n0 σ0 σ H locs cells slots mc ms ls hK (so_cons (hok hK.2.2.2.2.2.2.2.2.2.2.2) (so_tl hS)) hL hl
  show W p l e R s m args below meth c H locs cells slots (MQ below (zQ D K ρ n0 σ0 A Q) args s mc ms A) (F0 m (pc) ls (.ref (σ a) :: S.map (rv σ ρ)))
  obtain ⟨C, T, N, hc, hkN, hlk⟩ := hf
  have he : (zW K σ G mem)[a]? = some (σ a, .inr (ci, fvals σ ci rs (mem a))) := zW_at hg
  have hvv : (fvals σ ci rs (mem a))[k]? = some (rv σ ρ v) := by rw [fvals_at (by rw [nfC_of hc]; exact hkN), hv σ ρ]
  rcases hlk with hlk | ⟨host, hlk⟩
  · exact va_get hK.1.1.1 hK.1.1.2.1 hK.1.1.2.2.2.2 hc.2.1 hK.1.1.2.2.2.1 hK.2.2.2.2.2.2.1 hK.2.2.2.2.2.2.2.2.1 a he hc.1 k hkN (hK.1.1.2.2.2.2 _ hlk) (fun x h => h) hvv hd h
  · exact va_getN hK.1.1.1 hK.1.1.2.1 hK.1.1.2.2.2.2 hc.2.1 hK.1.1.2.2.2.1 hK.2.2.2.2.2.2.1 hK.2.2.2.2.2.2.2.2.1 a he hc.1 k hkN (va_Nw.use rfl (hK.2.2.2.2.2.1 _ hlk)) (fun x h => h) hvv hd h
theorem z_getI {idx ci k a : Nat} {rs : List (Option Nat)} (hd : decode mi.2.1 pc = .ok (.getfield idx, 3)) (hf : fdOK mi.1.cls idx ci k) (hg : G[a]? = some (0, ci, rs)) (hty : tyC ci k = .int) (kk : ZZ X b d mi G (pc + 3) L (vi (mem a (k : Int)) :: S) mem Q) : ZZ X b d mi G pc L (vr a :: S) mem Q := by
  have hkn : k < nfC ci := by
    obtain ⟨C, T, N, hc, hkN, -⟩ := hf
    rw [nfC_of hc]; exact hkN
  exact z_getW (own := "") hd hf hg (v := vi (mem a (k : Int))) (fun σ ρ => by rw [hty]; rfl) (fun h => by have q := (h a _ hg).2.2 k hkn; rw [hty] at q; exact q) kk
theorem z_getZ {idx ci k a : Nat} {rs : List (Option Nat)} (hd : decode mi.2.1 pc = .ok (.getfield idx, 3)) (hf : fdOK mi.1.cls idx ci k) (hg : G[a]? = some (0, ci, rs)) (hty : tyC ci k = .boolean) (kk : ZZ X b d mi G (pc + 3) L (vi (mem a (k : Int)) :: S) mem Q) : ZZ X b d mi G pc L (vr a :: S) mem Q := by
  have hkn : k < nfC ci := by
    obtain ⟨C, T, N, hc, hkN, -⟩ := hf
    rw [nfC_of hc]; exact hkN
  exact z_getW (own := "") hd hf hg (v := vi (mem a (k : Int))) (fun σ ρ => by rw [hty]; rfl) (fun h => by have q := (h a _ hg).2.2 k hkn; rw [hty] at q; show i32 _; unfold i32; rcases q with q | q <;> rw [q] <;> omega) kk
theorem z_getJ {idx ci k a : Nat} {rs : List (Option Nat)} (hd : decode mi.2.1 pc = .ok (.getfield idx, 3)) (hf : fdOK mi.1.cls idx ci k) (hg : G[a]? = some (0, ci, rs)) (hty : tyC ci k = .long) (kk : ZZ X b d mi G (pc + 3) L (vl (mem a (k : Int)) :: S) mem Q) : ZZ X b d mi G pc L (vr a :: S) mem Q := by
  have hkn : k < nfC ci := by
    obtain ⟨C, T, N, hc, hkN, -⟩ := hf
    rw [nfC_of hc]; exact hkN
  exact z_getW (own := "") hd hf hg (v := vl (mem a (k : Int))) (fun σ ρ => by rw [hty]; rfl) (fun h => by have q := (h a _ hg).2.2 k hkn; rw [hty] at q; exact q) kk
theorem z_getR {idx ci k a r : Nat} {rs : List (Option Nat)} {ty : FieldType} (hd : decode mi.2.1 pc = .ok (.getfield idx, 3)) (hf : fdOK mi.1.cls idx ci k) (hg : G[a]? = some (0, ci, rs)) (hr : rs[k]? = some (some r)) (hty : (tyC ci k).isReference = true) (kk : ZZ X b d mi G (pc + 3) L (vr r :: S) mem Q) : ZZ X b d mi G pc L (vr a :: S) mem Q := by
  have hrd : rs.getD k none = some r := by rw [List.getD_eq_getElem?_getD, hr]; rfl
  refine z_getW (own := "") hd hf hg (v := vr r) (fun σ ρ => ?_) (fun h => (h a _ hg).1 (some r) (List.mem_of_getElem? hr) r rfl) kk
  rw [hrd]
  generalize tyC ci k = t at hty
  cases t <;> first | rfl | cases hty
theorem fvals_set {σ : Nat → Nat} {ci k : Nat} {rs : List (Option Nat)} {f f' : Int → Int} {v : Value} (hk : k < nfC ci) (hv : fval σ (tyC ci k) (rs.getD k none) (f' (k : Int)) = v) (ho : ∀ j : Nat, j ≠ k → f' (j : Int) = f (j : Int)) : (fvals σ ci rs f).set k v = fvals σ ci rs f' := by
  apply List.ext_getElem?
  intro i
  rw [List.getElem?_set]
  by_cases hi : k = i
  · subst hi
    rw [if_pos rfl, fvals_len, if_pos hk, fvals_at hk, hv]
  · rw [if_neg hi]
    by_cases hl : i < nfC ci
    · rw [fvals_at hl, fvals_at hl, ho i (fun q => hi q.symm)]
    · rw [List.getElem?_eq_none (by rw [fvals_len]; omega), List.getElem?_eq_none (by rw [fvals_len]; omega)]
theorem mok_set {G : List GC} {mem mem' : Mem} {a : Nat} {g : GC} (h : mok G mem) (hg : G[a]? = some g) (hn : gok G.length g (mem' a)) (ho : ∀ a', a' ≠ a → mem' a' = mem a') : mok G mem' := by
  intro a' g' hg'
  by_cases e : a' = a
  · subst e
    cases hg.symm.trans hg'
    exact hn
  · rw [ho a' e]
    exact h a' g' hg'
/-- the heap's new state behind a store in the cell a -/
theorem ZK_put {p : Program} {R : Room} {s : State} {m : MethodId} {args : Array Value} {meth : Method} {c : Code} {D : va_G} {K : Nat → ClassId} {ρ : Nat → Nat} {A : Nat → Prop} {n0 : Nat} {σ0 σ : Nat → Nat} {H H1 : Heap} {locs locs1 : List Loc} {cells slots mc ms a : Nat} {mem' : Mem} {g : GC}
    (hK : ZK X b d mi G mem p R s m args meth c D K ρ A n0 σ0 σ H locs cells slots mc ms) (hg : G[a]? = some g) {e : va_E} (he : ent K σ g (mem' a) = e) (hn : gok G.length g (mem' a)) (ho : ∀ a', a' ≠ a → mem' a' = mem a')
    (hP : va_P D vwCl ((zW K σ G mem).set a (σ a, e)) H1) (hD : va_D A ((zW K σ G mem).set a (σ a, e))) (hS : va_S A s.heap H1 locs1) : ZK X b d mi G mem' p R s m args meth c D K ρ A n0 σ0 σ H1 locs1 cells slots mc ms := by
  obtain ⟨h1, h2, h3, h4, h5, h6, h7, h8, h9, h10, h11, h12⟩ := hK
  rw [zW_set hg he ho] at hP hD
  exact ⟨h1, h2, h3, h4, h5, h6, h7, h8, hP, hD, hS, mok_set h12 hg hn ho⟩
theorem z_putW {idx ci k a : Nat} {rs : List (Option Nat)} (hd : decode mi.2.1 pc = .ok (.putfield idx, 3)) (hf : fdM mi.1.cls idx ci k) (hg : G[a]? = some (0, ci, rs)) {v : VV} {z : Int}
    (hv : ∀ σ ρ : Nat → Nat, fval σ (tyC ci k) (rs.getD k none) z = rv σ ρ v) (hz : vok G.length v → inr (tyC ci k) z) (hnr : ∀ σ ρ : Nat → Nat, narrow (tyC ci k) (rv σ ρ v) = rv σ ρ v ∧ fits (tyC ci k) (rv σ ρ v) = true)
    (kk : ZZ X b d mi G (pc + 3) L S (mset mem a (k : Int) z) Q) : ZZ X b d mi G pc L (v :: vr a :: S) mem Q := by
  intro p l e R s m args below meth c D K ρ A n0 σ0 σ H locs cells slots mc ms ls hK hS hL hl
  show W p l e R s m args below meth c H locs cells slots (MQ below (zQ D K ρ n0 σ0 A Q) args s mc ms A) (F0 m (pc) ls (rv σ ρ v :: .ref (σ a) :: S.map (rv σ ρ)))
  obtain ⟨C, T, N, hc, hkN, hfin, hlk⟩ := hf
  have hkn : k < nfC ci := by rw [nfC_of hc]; exact hkN
  have he : (zW K σ G mem)[a]? = some (σ a, .inr (ci, fvals σ ci rs (mem a))) := zW_at hg
  have hset : (fvals σ ci rs (mem a)).set k (rv σ ρ v) = fvals σ ci rs (mset mem a (k : Int) z a) := fvals_set hkn (by rw [mset_eq, hv σ ρ]) (fun j hj => mset_nej mem a (by omega) z)
  have hgn : gok G.length (0, ci, rs) (mset mem a (k : Int) z a) := by
    have hm := hK.2.2.2.2.2.2.2.2.2.2.2 a _ hg
    refine ⟨hm.1, hm.2.1, fun j hj => ?_⟩
    by_cases e : j = k
    · subst e
      rw [mset_eq]
      exact hz (so_hd hS)
    · rw [mset_nej mem a (by omega) z]
      exact hm.2.2 j hj
  have fin : ∀ (H1 : Heap) (locs1 : List Loc), va_P D vwCl ((zW K σ G mem).set a (σ a, .inr (ci, (fvals σ ci rs (mem a)).set k (rv σ ρ v)))) H1 → va_D A ((zW K σ G mem).set a (σ a, .inr (ci, (fvals σ ci rs (mem a)).set k (rv σ ρ v)))) → va_S A s.heap H1 locs1 → W p l e R s m args below meth c H1 locs1 cells slots (MQ below (zQ D K ρ n0 σ0 A Q) args s mc ms A) (F0 m (pc + 3) ls (S.map (rv σ ρ))) := by
    intro H1 locs1 hP1 hD1 hS1
    rw [hset] at hP1 hD1
    exact kk p l e R s m args below meth c D K ρ A n0 σ0 σ H1 locs1 cells slots mc ms ls (ZK_put hK hg rfl hgn (fun a' ha => mset_ne mem ha _ _) hP1 hD1 hS1) (so_tl (so_tl hS)) hL hl
  rcases hlk with hlk | ⟨host, hlk⟩
  · exact va_put hK.1.1.1 hK.1.1.2.1 hK.1.1.2.2.2.2 hc.2.1 (tyC ci) hc.2.2.1 hc.2.2.2 hK.1.1.2.2.2.1 hK.2.2.2.2.2.2.1 hK.2.2.2.2.2.2.2.2.1 hK.2.2.2.2.2.2.2.2.2.1 hK.2.2.2.2.2.2.2.2.2.2.1 a he hc.1 k hkN (hK.1.1.2.2.2.2 _ hlk) (fun x h => h) hfin (hc.2.2.1 k hkN) (hnr σ ρ).1 (hnr σ ρ).2 (by rw [fvals_len]; exact hkn) hd fin
  · exact va_putN hK.1.1.1 hK.1.1.2.1 hK.1.1.2.2.2.2 hc.2.1 (tyC ci) hc.2.2.1 hc.2.2.2 hK.1.1.2.2.2.1 hK.2.2.2.2.2.2.1 hK.2.2.2.2.2.2.2.2.1 hK.2.2.2.2.2.2.2.2.2.1 hK.2.2.2.2.2.2.2.2.2.2.1 a he hc.1 k hkN (va_Nw.use rfl (hK.2.2.2.2.2.1 _ hlk)) (fun x h => h) hfin (hc.2.2.1 k hkN) (hnr σ ρ).1 (hnr σ ρ).2 (by rw [fvals_len]; exact hkn) hd fin
theorem z_putI {idx ci k a : Nat} {rs : List (Option Nat)} {z : Int} (hd : decode mi.2.1 pc = .ok (.putfield idx, 3)) (hf : fdM mi.1.cls idx ci k) (hg : G[a]? = some (0, ci, rs)) (hty : tyC ci k = .int) (kk : ZZ X b d mi G (pc + 3) L S (mset mem a (k : Int) z) Q) : ZZ X b d mi G pc L (vi z :: vr a :: S) mem Q :=
  z_putW hd hf hg (fun σ ρ => by rw [hty]; rfl) (fun h => by rw [hty]; exact h) (fun σ ρ => by rw [hty]; exact ⟨rfl, rfl⟩) kk
theorem z_putJ {idx ci k a : Nat} {rs : List (Option Nat)} {z : Int} (hd : decode mi.2.1 pc = .ok (.putfield idx, 3)) (hf : fdM mi.1.cls idx ci k) (hg : G[a]? = some (0, ci, rs)) (hty : tyC ci k = .long) (kk : ZZ X b d mi G (pc + 3) L S (mset mem a (k : Int) z) Q) : ZZ X b d mi G pc L (vl z :: vr a :: S) mem Q :=
  z_putW hd hf hg (fun σ ρ => by rw [hty]; rfl) (fun h => by rw [hty]; exact h) (fun σ ρ => by rw [hty]; exact ⟨rfl, rfl⟩) kk
theorem z_putZ {idx ci k a : Nat} {rs : List (Option Nat)} {z : Int} (hd : decode mi.2.1 pc = .ok (.putfield idx, 3)) (hf : fdM mi.1.cls idx ci k) (hg : G[a]? = some (0, ci, rs)) (hty : tyC ci k = .boolean) (hz : z = 0 ∨ z = 1) (kk : ZZ X b d mi G (pc + 3) L S (mset mem a (k : Int) z) Q) : ZZ X b d mi G pc L (vi z :: vr a :: S) mem Q :=
  z_putW hd hf hg (fun σ ρ => by rw [hty]; rfl) (fun h => by rw [hty]; exact hz) (fun σ ρ => by rw [hty]; rcases hz with rfl | rfl <;> exact ⟨(by decide : narrow .boolean (.int (Int32.ofInt _)) = .int (Int32.ofInt _)), (by decide : fits .boolean (.int (Int32.ofInt _)) = true)⟩) kk
-- arrays
theorem cl_nat {j : Int} (h0 : 0 ≤ j) (hj : i32 j) : (Int32.ofInt j).toNatClampNeg = j.toNat := by
  rw [Int32.toNatClampNeg, ti32 hj]
theorem zin_of {j : Int} {n : Nat} (h0 : 0 ≤ j) (h1 : j < (n : Int)) (hj : i32 j) : vp_in (Int32.ofInt j) n := by
  intro h
  rcases h with h | h
  · rw [Int32.lt_iff_toInt_lt, ti32 hj, Int32.toInt_zero] at h
    omega
  · rw [cl_nat h0 hj] at h
    omega
theorem z_iald {a n : Nat} {rs : List (Option Nat)} {j : Int} (hd : decode mi.2.1 pc = .ok (.iaload, 1)) (hg : G[a]? = some (1, n, rs)) (h0 : 0 ≤ j) (h1 : j < (n : Int)) (kk : ZZ X b d mi G (pc + 1) L (vi (mem a j) :: S) mem Q) : ZZ X b d mi G pc L (vi j :: vr a :: S) mem Q := by
  intro p l e R s m args below meth c D K ρ A n0 σ0 σ H locs cells slots mc ms ls hK hS hL hl
  have hm : i32 (mem a j) := (hK.2.2.2.2.2.2.2.2.2.2.2 a _ hg).2.2 j
  have h : W p l e R s m args below meth c H locs cells slots (MQ below (zQ D K ρ n0 σ0 A Q) args s mc ms A) (F0 m (pc + 1) ls (.int (Int32.ofInt (mem a j)) :: S.map (rv σ ρ))) := kk p l e R s m args below meth c D K ρ A n0 σ0 σ H locs cells slots mc ms ls hK (so_cons hm (so_tl (so_tl hS))) hL hl
  show W p l e R s m args below meth c H locs cells slots (MQ below (zQ D K ρ n0 σ0 A Q) args s mc ms A) (F0 m (pc) ls (.int (Int32.ofInt j) :: .ref (σ a) :: S.map (rv σ ρ)))
  have hj : i32 j := so_hd hS
  refine va_iald hK.1.1.1 hK.1.1.2.1 hK.2.2.2.2.2.2.1 hK.2.2.2.2.2.2.2.2.1 a 0 (zW_at hg) rfl (zin_of h0 h1 hj) hd ?_
  rw [cl_nat h0 hj, Int.toNat_of_nonneg h0]
  exact h
theorem z_zald {a n : Nat} {rs : List (Option Nat)} {j : Int} (hd : decode mi.2.1 pc = .ok (.baload, 1)) (hg : G[a]? = some (2, n, rs)) (h0 : 0 ≤ j) (h1 : j < (n : Int)) (kk : (mem a j = 0 ∨ mem a j = 1) → ZZ X b d mi G (pc + 1) L (vi (mem a j) :: S) mem Q) : ZZ X b d mi G pc L (vi j :: vr a :: S) mem Q := by
  intro p l e R s m args below meth c D K ρ A n0 σ0 σ H locs cells slots mc ms ls hK hS hL hl
  have hm : mem a j = 0 ∨ mem a j = 1 := (hK.2.2.2.2.2.2.2.2.2.2.2 a _ hg).2.2 j
  have h : W p l e R s m args below meth c H locs cells slots (MQ below (zQ D K ρ n0 σ0 A Q) args s mc ms A) (F0 m (pc + 1) ls (.int (Int32.ofInt (mem a j)) :: S.map (rv σ ρ))) := kk hm p l e R s m args below meth c D K ρ A n0 σ0 σ H locs cells slots mc ms ls hK (so_cons (show i32 _ by unfold i32; rcases hm with q | q <;> rw [q] <;> omega) (so_tl (so_tl hS))) hL hl
  show W p l e R s m args below meth c H locs cells slots (MQ below (zQ D K ρ n0 σ0 A Q) args s mc ms A) (F0 m (pc) ls (.int (Int32.ofInt j) :: .ref (σ a) :: S.map (rv σ ρ)))
  have hj : i32 j := so_hd hS
  refine va_zald hK.1.1.1 hK.1.1.2.1 hK.2.2.2.2.2.2.1 hK.2.2.2.2.2.2.2.2.1 a 1 (zW_at hg) rfl (zin_of h0 h1 hj) hd ?_
  rw [cl_nat h0 hj, Int.toNat_of_nonneg h0]
  exact h
theorem z_lald {a n : Nat} {rs : List (Option Nat)} {j : Int} (hd : decode mi.2.1 pc = .ok (.laload, 1)) (hg : G[a]? = some (3, n, rs)) (h0 : 0 ≤ j) (h1 : j < (n : Int)) (kk : ZZ X b d mi G (pc + 1) L (vl (mem a j) :: S) mem Q) : ZZ X b d mi G pc L (vi j :: vr a :: S) mem Q := by
  intro p l e R s m args below meth c D K ρ A n0 σ0 σ H locs cells slots mc ms ls hK hS hL hl
  have hm : i64 (mem a j) := (hK.2.2.2.2.2.2.2.2.2.2.2 a _ hg).2.2 j
  have h : W p l e R s m args below meth c H locs cells slots (MQ below (zQ D K ρ n0 σ0 A Q) args s mc ms A) (F0 m (pc + 1) ls (.long (Int64.ofInt (mem a j)) :: S.map (rv σ ρ))) := kk p l e R s m args below meth c D K ρ A n0 σ0 σ H locs cells slots mc ms ls hK (so_cons hm (so_tl (so_tl hS))) hL hl
  show W p l e R s m args below meth c H locs cells slots (MQ below (zQ D K ρ n0 σ0 A Q) args s mc ms A) (F0 m (pc) ls (.int (Int32.ofInt j) :: .ref (σ a) :: S.map (rv σ ρ)))
  have hj : i32 j := so_hd hS
  refine va_lald hK.1.1.1 hK.1.1.2.1 hK.2.2.2.2.2.2.1 hK.2.2.2.2.2.2.2.2.1 a 2 (zW_at hg) rfl (zin_of h0 h1 hj) hd ?_
  rw [cl_nat h0 hj, Int.toNat_of_nonneg h0]
  exact h
theorem z_aald {a n r : Nat} {rs : List (Option Nat)} {j : Int} (hd : decode mi.2.1 pc = .ok (.aaload, 1)) (hg : G[a]? = some (4, n, rs)) (h0 : 0 ≤ j) (h1 : j < (n : Int)) (hr : rs[j.toNat]? = some (some r)) (kk : ZZ X b d mi G (pc + 1) L (vr r :: S) mem Q) : ZZ X b d mi G pc L (vi j :: vr a :: S) mem Q := by
  intro p l e R s m args below meth c D K ρ A n0 σ0 σ H locs cells slots mc ms ls hK hS hL hl
  have hm : r < G.length := (hK.2.2.2.2.2.2.2.2.2.2.2 a _ hg).1 (some r) (List.mem_of_getElem? hr) r rfl
  have h : W p l e R s m args below meth c H locs cells slots (MQ below (zQ D K ρ n0 σ0 A Q) args s mc ms A) (F0 m (pc + 1) ls (.ref (σ r) :: S.map (rv σ ρ))) := kk p l e R s m args below meth c D K ρ A n0 σ0 σ H locs cells slots mc ms ls hK (so_cons hm (so_tl (so_tl hS))) hL hl
  show W p l e R s m args below meth c H locs cells slots (MQ below (zQ D K ρ n0 σ0 A Q) args s mc ms A) (F0 m (pc) ls (.int (Int32.ofInt j) :: .ref (σ a) :: S.map (rv σ ρ)))
  have hj : i32 j := so_hd hS
  have hlt : (Int32.ofInt j).toNatClampNeg < n := by rw [cl_nat h0 hj]; omega
  have hin := zin_of h0 h1 hj
  have hws : (zW K σ G mem)[a]? = some (σ a, .inl (K 4, n, .inr (.inr (.inr (.inr (fun j => (rs.getD j none).map σ)))))) := zW_at hg
  refine W.aald (v := .ref (σ r)) (ty := .array .long) hK.1.1.1 hK.1.1.2.1 (hK.2.2.2.2.2.2.2.2.1 a _ hws) ((hK.2.2.2.2.2.2.1.2 3 _ rfl).1 n (fun j => va_rf ((rs.getD j none).map σ))) rfl (fun q => by cases q) (by show ¬ (_ < 0 ∨ (arrV _ _ _).slots.size ≤ _); rw [arrV_size]; exact hin) (by show (arrV _ _ _).slots[_]? = _; rw [arrV_read _ _ hlt, cl_nat h0 hj]; show some (va_rf (Option.map σ (rs.getD j.toNat none))) = _; rw [List.getD_eq_getElem?_getD, hr]; rfl) rfl rfl hd h
theorem z_sald {r : Nat} {q : Nat × (Int → Int)} {j : Int} (hd : decode mi.2.1 pc = .ok (.iaload, 1)) (hr : roF X r = some q) (h0 : 0 ≤ j) (h1 : j < (q.1 : Int)) (kk : ZZ X b d mi G (pc + 1) L (vi (q.2 j) :: S) mem Q) : ZZ X b d mi G pc L (vi j :: vc r :: S) mem Q := by
  intro p l e R s m args below meth c D K ρ A n0 σ0 σ H locs cells slots mc ms ls hK hS hL hl
  obtain ⟨hi, hn, cell, t1, t2, t3, t4, t5, t6, t7⟩ := hK.2.2.2.2.1.1 r q hr
  have h : W p l e R s m args below meth c H locs cells slots (MQ below (zQ D K ρ n0 σ0 A Q) args s mc ms A) (F0 m (pc + 1) ls (.int (Int32.ofInt (q.2 j)) :: S.map (rv σ ρ))) := kk p l e R s m args below meth c D K ρ A n0 σ0 σ H locs cells slots mc ms ls hK (so_cons (hi j) (so_tl (so_tl hS))) hL hl
  show W p l e R s m args below meth c H locs cells slots (MQ below (zQ D K ρ n0 σ0 A Q) args s mc ms A) (F0 m (pc) ls (.int (Int32.ofInt j) :: .ref (ρ r) :: S.map (rv σ ρ)))
  have hj : i32 j := so_hd hS
  have hH : H[ρ r]? = some cell := by
    rw [hK.2.2.2.2.2.2.2.2.2.2.1.2.1 _ (Array.getElem?_eq_some_iff.mp t1).1 t7]
    exact t1
  refine W.iald hK.1.1.1 hK.1.1.2.1 hH t2 t3 (fun w => ?_) (v := .int (Int32.ofInt (q.2 j))) ?_ rfl rfl hd h
  · rcases w with w | w
    · rw [Int32.lt_iff_toInt_lt, ti32 hj, Int32.toInt_zero] at w
      omega
    · rw [cl_nat h0 hj] at w
      omega
  · rw [cl_nat h0 hj, t6 _ (by omega)]
    show some (Value.int (Int32.ofInt (q.2 ((j.toNat : Nat) : Int)))) = _
    rw [Int.toNat_of_nonneg h0]
theorem z_slen {r : Nat} {q : Nat × (Int → Int)} (hd : decode mi.2.1 pc = .ok (.arraylength, 1)) (hr : roF X r = some q) (kk : ZZ X b d mi G (pc + 1) L (vi (q.1 : Int) :: S) mem Q) : ZZ X b d mi G pc L (vc r :: S) mem Q := by
  intro p l e R s m args below meth c D K ρ A n0 σ0 σ H locs cells slots mc ms ls hK hS hL hl
  obtain ⟨hi, hn, cell, t1, t2, t3, t4, t5, t6, t7⟩ := hK.2.2.2.2.1.1 r q hr
  have h : W p l e R s m args below meth c H locs cells slots (MQ below (zQ D K ρ n0 σ0 A Q) args s mc ms A) (F0 m (pc + 1) ls (.int (Int32.ofInt (q.1 : Int)) :: S.map (rv σ ρ))) := kk p l e R s m args below meth c D K ρ A n0 σ0 σ H locs cells slots mc ms ls hK (so_cons (show i32 _ by unfold i32; omega) (so_tl hS)) hL hl
  show W p l e R s m args below meth c H locs cells slots (MQ below (zQ D K ρ n0 σ0 A Q) args s mc ms A) (F0 m (pc) ls (.ref (ρ r) :: S.map (rv σ ρ)))
  have hH : H[ρ r]? = some cell := by
    rw [hK.2.2.2.2.2.2.2.2.2.2.1.2.1 _ (Array.getElem?_eq_some_iff.mp t1).1 t7]
    exact t1
  refine W.alen (n := Int32.ofInt (q.1 : Int)) hK.1.1.1 hK.1.1.2.1 hH t2 ?_ rfl rfl hd h
  rw [t5]
  rfl
theorem z_alen {a kk0 n : Nat} {rs : List (Option Nat)} (hd : decode mi.2.1 pc = .ok (.arraylength, 1)) (hg : G[a]? = some (kk0, n, rs)) (hk0 : kk0 = 1 ∨ kk0 = 3) (kk : ZZ X b d mi G (pc + 1) L (vi (n : Int) :: S) mem Q) : ZZ X b d mi G pc L (vr a :: S) mem Q := by
  intro p l e R s m args below meth c D K ρ A n0 σ0 σ H locs cells slots mc ms ls hK hS hL hl
  have hm := hK.2.2.2.2.2.2.2.2.2.2.2 a _ hg
  have hn : n < 2147483648 := by
    rcases hk0 with rfl | rfl
    · exact hm.2.1
    · exact hm.2.1
  have h : W p l e R s m args below meth c H locs cells slots (MQ below (zQ D K ρ n0 σ0 A Q) args s mc ms A) (F0 m (pc + 1) ls (.int (Int32.ofInt (n : Int)) :: S.map (rv σ ρ))) := kk p l e R s m args below meth c D K ρ A n0 σ0 σ H locs cells slots mc ms ls hK (so_cons (show i32 _ by unfold i32; omega) (so_tl hS)) hL hl
  show W p l e R s m args below meth c H locs cells slots (MQ below (zQ D K ρ n0 σ0 A Q) args s mc ms A) (F0 m (pc) ls (.ref (σ a) :: S.map (rv σ ρ)))
  rcases hk0 with rfl | rfl
  · exact va_alen hK.1.1.1 hK.1.1.2.1 hK.2.2.2.2.2.2.1 hK.2.2.2.2.2.2.2.2.1 a 0 (zW_at hg) rfl rfl hd h
  · exact va_alen hK.1.1.1 hK.1.1.2.1 hK.2.2.2.2.2.2.1 hK.2.2.2.2.2.2.2.2.1 a 2 (zW_at hg) rfl rfl hd h
theorem gok_arr {n0 k n : Nat} {rs : List (Option Nat)} {mem : Mem} {a : Nat} {j z : Int} (hk : k ≠ 0) (h : gok n0 (k, n, rs) (mem a)) (hz : inr (kty k) z) : gok n0 (k, n, rs) (mset mem a j z a) := by
  match k, hk, h, hz with
  | k + 1, _, h, hz =>
    refine ⟨h.1, h.2.1, fun i => ?_⟩
    by_cases e : i = j
    · subst e
      rw [mset_eq]
      exact hz
    · rw [mset_nej mem a e z]
      exact h.2.2 i
theorem z_iast {a n : Nat} {rs : List (Option Nat)} {j z : Int} (hd : decode mi.2.1 pc = .ok (.iastore, 1)) (hg : G[a]? = some (1, n, rs)) (h0 : 0 ≤ j) (h1 : j < (n : Int)) (kk : ZZ X b d mi G (pc + 1) L S (mset mem a j z) Q) : ZZ X b d mi G pc L (vi z :: vi j :: vr a :: S) mem Q := by
  intro p l e R s m args below meth c D K ρ A n0 σ0 σ H locs cells slots mc ms ls hK hS hL hl
  show W p l e R s m args below meth c H locs cells slots (MQ below (zQ D K ρ n0 σ0 A Q) args s mc ms A) (F0 m (pc) ls (.int (Int32.ofInt z) :: .int (Int32.ofInt j) :: .ref (σ a) :: S.map (rv σ ρ)))
  have hj : i32 j := so_hd (so_tl hS)
  refine va_iast hK.1.1.1 hK.1.1.2.1 hK.2.2.2.2.2.2.1 hK.2.2.2.2.2.2.2.2.1 hK.2.2.2.2.2.2.2.2.2.1 hK.2.2.2.2.2.2.2.2.2.2.1 a 0 (zW_at hg) rfl (zin_of h0 h1 hj) hd (fun H1 locs1 hP1 hD1 hS1 => ?_)
  have ef : upd (fun i : Nat => Int32.ofInt (mem a (i : Int))) (Int32.ofInt j).toNatClampNeg (Int32.ofInt z) = (fun i : Nat => Int32.ofInt (mset mem a j z a (i : Int))) := by
    funext i
    rw [cl_nat h0 hj]
    by_cases e : i = j.toNat
    · subst e
      rw [Int.toNat_of_nonneg h0, mset_eq]
      simp [upd]
    · rw [mset_nej mem a (show (i : Int) ≠ j by omega) z]
      simp [upd, e]
  rw [ef] at hP1 hD1
  exact kk p l e R s m args below meth c D K ρ A n0 σ0 σ H1 locs1 cells slots mc ms ls (ZK_put hK hg rfl (gok_arr (by decide) (hK.2.2.2.2.2.2.2.2.2.2.2 a _ hg) (so_hd hS)) (fun a' ha => mset_ne mem ha _ _) hP1 hD1 hS1) (so_tl (so_tl (so_tl hS))) hL hl
theorem z_last {a n : Nat} {rs : List (Option Nat)} {j z : Int} (hd : decode mi.2.1 pc = .ok (.lastore, 1)) (hg : G[a]? = some (3, n, rs)) (h0 : 0 ≤ j) (h1 : j < (n : Int)) (kk : ZZ X b d mi G (pc + 1) L S (mset mem a j z) Q) : ZZ X b d mi G pc L (vl z :: vi j :: vr a :: S) mem Q := by
  intro p l e R s m args below meth c D K ρ A n0 σ0 σ H locs cells slots mc ms ls hK hS hL hl
  show W p l e R s m args below meth c H locs cells slots (MQ below (zQ D K ρ n0 σ0 A Q) args s mc ms A) (F0 m (pc) ls (.long (Int64.ofInt z) :: .int (Int32.ofInt j) :: .ref (σ a) :: S.map (rv σ ρ)))
  have hj : i32 j := so_hd (so_tl hS)
  refine va_last hK.1.1.1 hK.1.1.2.1 hK.2.2.2.2.2.2.1 hK.2.2.2.2.2.2.2.2.1 hK.2.2.2.2.2.2.2.2.2.1 hK.2.2.2.2.2.2.2.2.2.2.1 a 2 (zW_at hg) rfl (zin_of h0 h1 hj) hd (fun H1 locs1 hP1 hD1 hS1 => ?_)
  have ef : vp_updL (fun i : Nat => Int64.ofInt (mem a (i : Int))) (Int32.ofInt j).toNatClampNeg (Int64.ofInt z) = (fun i : Nat => Int64.ofInt (mset mem a j z a (i : Int))) := by
    funext i
    rw [cl_nat h0 hj]
    by_cases e : i = j.toNat
    · subst e
      rw [Int.toNat_of_nonneg h0, mset_eq]
      simp [vp_updL]
    · rw [mset_nej mem a (show (i : Int) ≠ j by omega) z]
      simp [vp_updL, e]
  rw [ef] at hP1 hD1
  exact kk p l e R s m args below meth c D K ρ A n0 σ0 σ H1 locs1 cells slots mc ms ls (ZK_put hK hg rfl (gok_arr (by decide) (hK.2.2.2.2.2.2.2.2.2.2.2 a _ hg) (so_hd hS)) (fun a' ha => mset_ne mem ha _ _) hP1 hD1 hS1) (so_tl (so_tl (so_tl hS))) hL hl
theorem nar_bool {z : Int} (hz : z = 0 ∨ z = 1) : vp_nar .boolean (Int32.ofInt z) = Int32.ofInt z := by rcases hz with rfl | rfl <;> decide
theorem z_zast {a n : Nat} {rs : List (Option Nat)} {j z : Int} (hd : decode mi.2.1 pc = .ok (.bastore, 1)) (hg : G[a]? = some (2, n, rs)) (h0 : 0 ≤ j) (h1 : j < (n : Int)) (hz : z = 0 ∨ z = 1) (kk : ZZ X b d mi G (pc + 1) L S (mset mem a j z) Q) : ZZ X b d mi G pc L (vi z :: vi j :: vr a :: S) mem Q := by
  intro p l e R s m args below meth c D K ρ A n0 σ0 σ H locs cells slots mc ms ls hK hS hL hl
  show W p l e R s m args below meth c H locs cells slots (MQ below (zQ D K ρ n0 σ0 A Q) args s mc ms A) (F0 m (pc) ls (.int (Int32.ofInt z) :: .int (Int32.ofInt j) :: .ref (σ a) :: S.map (rv σ ρ)))
  have hj : i32 j := so_hd (so_tl hS)
  refine va_zast hK.1.1.1 hK.1.1.2.1 hK.2.2.2.2.2.2.1 hK.2.2.2.2.2.2.2.2.1 hK.2.2.2.2.2.2.2.2.2.1 hK.2.2.2.2.2.2.2.2.2.2.1 a 1 (zW_at hg) rfl (zin_of h0 h1 hj) hd (fun H1 locs1 hP1 hD1 hS1 => ?_)
  have ef : upd (fun i : Nat => Int32.ofInt (mem a (i : Int))) (Int32.ofInt j).toNatClampNeg (vp_nar .boolean (Int32.ofInt z)) = (fun i : Nat => Int32.ofInt (mset mem a j z a (i : Int))) := by
    funext i
    rw [cl_nat h0 hj, nar_bool hz]
    by_cases e : i = j.toNat
    · subst e
      rw [Int.toNat_of_nonneg h0, mset_eq]
      simp [upd]
    · rw [mset_nej mem a (show (i : Int) ≠ j by omega) z]
      simp [upd, e]
  rw [ef] at hP1 hD1
  exact kk p l e R s m args below meth c D K ρ A n0 σ0 σ H1 locs1 cells slots mc ms ls (ZK_put hK hg rfl (gok_arr (by decide) (hK.2.2.2.2.2.2.2.2.2.2.2 a _ hg) hz) (fun a' ha => mset_ne mem ha _ _) hP1 hD1 hS1) (so_tl (so_tl (so_tl hS))) hL hl
-- statics
theorem z_gets {idx : Nat} (r : Nat) (hr : (r = 0 ∧ Cond.fieldLink mi.1.cls idx RX9 "PRIME_POWERS" "[I" ∈ wsG) ∨ (r = 1 ∧ Cond.fieldLink mi.1.cls idx RX10 "ROWS" "[I" ∈ wsG)) (hd : decode mi.2.1 pc = .ok (.getstatic idx, 3)) (kk : ZZ X b d mi G (pc + 3) L (vc r :: S) mem Q) : ZZ X b d mi G pc L S mem Q := by
  intro p l e R s m args below meth c D K ρ A n0 σ0 σ H locs cells slots mc ms ls hK hS hL hl
  have h : W p l e R s m args below meth c H locs cells slots (MQ below (zQ D K ρ n0 σ0 A Q) args s mc ms A) (F0 m (pc + 3) ls (.ref (ρ r) :: S.map (rv σ ρ))) := kk p l e R s m args below meth c D K ρ A n0 σ0 σ H locs cells slots mc ms ls hK (so_cons trivial hS) hL hl
  rcases hr with ⟨rfl, hw⟩ | ⟨rfl, hw⟩
  · exact va_gets hK.1.1.1 hK.1.1.2.1 hK.2.2.2.2.1.2.1 hK.2.2.2.2.2.2.2.2.2.2.1 hK.1.1.2.2.2.1 (hK.1.1.2.2.2.2 _ hw) (fun x h => h) hd h
  · exact va_gets hK.1.1.1 hK.1.1.2.1 hK.2.2.2.2.1.2.2.1 hK.2.2.2.2.2.2.2.2.2.2.1 hK.1.1.2.2.2.1 (hK.1.1.2.2.2.2 _ hw) (fun x h => h) hd h
-- returns
theorem z_iret {z : Int} (hd : decode mi.2.1 pc = .ok (.ireturn, 1)) (hr : mi.2.2.2 = some .int) (hq : Q G (vi z) mem) : ZZ X b d mi G pc L [vi z] mem Q := by
  intro p l e R s m args below meth c D K ρ A n0 σ0 σ H locs cells slots mc ms ls hK hS hL hl
  obtain ⟨⟨⟨hx, hb, hml, hown, hts⟩, hret, hlocks, hnm⟩, ⟨r1, r2, r3, r4⟩, ⟨q1, q2⟩, hA, hro, hnw, hKK, hσ, hP, hD, hSS, hm⟩ := hK
  show W p l e R s m args below meth c H locs cells slots (MQ below (zQ D K ρ n0 σ0 A Q) args s mc ms A) (F0 m (pc) ls (.int (Int32.ofInt z) :: []))
  refine W.widen (k := mc) (n := ms) (by omega) (by omega) ?_
  exact W.iret hx hb (hret.trans hr) (fun t ht hW => ⟨⟨G, σ, vi z, mem, rfl, hq, so_hd hS, hσ, by rw [ht]; exact hP, hD, hm⟩, hSS.F ht⟩) hSS.2.2 hd hlocks
theorem z_zret {z : Int} (hd : decode mi.2.1 pc = .ok (.ireturn, 1)) (hr : mi.2.2.2 = some .boolean) (hz : z = 0 ∨ z = 1) (hq : Q G (vi z) mem) : ZZ X b d mi G pc L [vi z] mem Q := by
  intro p l e R s m args below meth c D K ρ A n0 σ0 σ H locs cells slots mc ms ls hK hS hL hl
  obtain ⟨⟨⟨hx, hb, hml, hown, hts⟩, hret, hlocks, hnm⟩, ⟨r1, r2, r3, r4⟩, ⟨q1, q2⟩, hA, hro, hnw, hKK, hσ, hP, hD, hSS, hm⟩ := hK
  show W p l e R s m args below meth c H locs cells slots (MQ below (zQ D K ρ n0 σ0 A Q) args s mc ms A) (F0 m (pc) ls (.int (Int32.ofInt z) :: []))
  refine W.widen (k := mc) (n := ms) (by omega) (by omega) ?_
  exact W.zret hx hb (hret.trans hr) (by rcases hz with rfl | rfl <;> decide) (fun t ht hW => ⟨⟨G, σ, vi z, mem, rfl, hq, so_hd hS, hσ, by rw [ht]; exact hP, hD, hm⟩, hSS.F ht⟩) hSS.2.2 hd hlocks
theorem z_lret {z : Int} (hd : decode mi.2.1 pc = .ok (.lreturn, 1)) (hr : mi.2.2.2 = some .long) (hq : Q G (vl z) mem) : ZZ X b d mi G pc L [vl z] mem Q := by
  intro p l e R s m args below meth c D K ρ A n0 σ0 σ H locs cells slots mc ms ls hK hS hL hl
  obtain ⟨⟨⟨hx, hb, hml, hown, hts⟩, hret, hlocks, hnm⟩, ⟨r1, r2, r3, r4⟩, ⟨q1, q2⟩, hA, hro, hnw, hKK, hσ, hP, hD, hSS, hm⟩ := hK
  show W p l e R s m args below meth c H locs cells slots (MQ below (zQ D K ρ n0 σ0 A Q) args s mc ms A) (F0 m (pc) ls (.long (Int64.ofInt z) :: []))
  refine W.widen (k := mc) (n := ms) (by omega) (by omega) ?_
  exact W.lret hx hb (hret.trans hr) (fun t ht hW => ⟨⟨G, σ, vl z, mem, rfl, hq, so_hd hS, hσ, by rw [ht]; exact hP, hD, hm⟩, hSS.F ht⟩) hSS.2.2 hd hlocks
theorem z_vret (hd : decode mi.2.1 pc = .ok (.return_, 1)) (hr : mi.2.2.2 = none) (hq : Q G vd mem) : ZZ X b d mi G pc L [] mem Q := by
  intro p l e R s m args below meth c D K ρ A n0 σ0 σ H locs cells slots mc ms ls hK hS hL hl
  obtain ⟨⟨⟨hx, hb, hml, hown, hts⟩, hret, hlocks, hnm⟩, ⟨r1, r2, r3, r4⟩, ⟨q1, q2⟩, hA, hro, hnw, hKK, hσ, hP, hD, hSS, hm⟩ := hK
  show W p l e R s m args below meth c H locs cells slots (MQ below (zQ D K ρ n0 σ0 A Q) args s mc ms A) (F0 m (pc) ls ([]))
  refine W.widen (k := mc) (n := ms) (by omega) (by omega) ?_
  exact W.vret hx hb (hret.trans hr) (fun t ht hW => ⟨⟨G, σ, vd, mem, rfl, hq, trivial, hσ, by rw [ht]; exact hP, hD, hm⟩, hSS.F ht⟩) hSS.2.2 hd hlocks
end RulesB
