/-! ===== making objects and rows ===== -/
def zer (mem : Mem) (n : Nat) : Mem := fun a => if a < n then mem a else fun _ => 0
theorem zer_lt (mem : Mem) {n a : Nat} (h : a < n) : zer mem n a = mem a := if_pos h
theorem zer_ge (mem : Mem) {n a : Nat} (h : n ≤ a) : zer mem n a = fun _ => 0 := if_neg (by omega)
def sgN (σ : Nat → Nat) (n h : Nat) : Nat → Nat := fun a => if a < n then σ a else h + (a - n)
theorem sgN_lt {σ : Nat → Nat} {n h a : Nat} (q : a < n) : sgN σ n h a = σ a := if_pos q
theorem sgN_ge {σ : Nat → Nat} {n h a : Nat} (q : n ≤ a) : sgN σ n h a = h + (a - n) := if_neg (by omega)
theorem getD_some {rs : List (Option Nat)} {k a : Nat} (h : rs.getD k none = some a) : some a ∈ rs := by
  rw [List.getD_eq_getElem?_getD] at h
  cases hq : rs[k]? with
  | none => rw [hq] at h; cases h
  | some v =>
    rw [hq, Option.getD_some] at h
    rw [← h]
    exact List.mem_of_getElem? hq
theorem opt_congr {σ σ' : Nat → Nat} {n : Nat} (h : ∀ a, a < n → σ' a = σ a) {rs : List (Option Nat)} (hr : ∀ r ∈ rs, ∀ a, r = some a → a < n) (k : Nat) : (rs.getD k none).map σ' = (rs.getD k none).map σ := by
  cases hq : rs.getD k none with
  | none => rfl
  | some a =>
    show some (σ' a) = some (σ a)
    rw [h a (hr _ (getD_some hq) a rfl)]
theorem fval_congr {σ σ' : Nat → Nat} {n : Nat} (h : ∀ a, a < n → σ' a = σ a) {rs : List (Option Nat)} (hr : ∀ r ∈ rs, ∀ a, r = some a → a < n) (k : Nat) (ty : FieldType) (z : Int) : fval σ' ty (rs.getD k none) z = fval σ ty (rs.getD k none) z := by
  have e := opt_congr h hr k
  cases ty <;> first | rfl | (show va_rf _ = va_rf _; rw [e])
theorem ent_congr {K : Nat → ClassId} {σ σ' : Nat → Nat} {n : Nat} (h : ∀ a, a < n → σ' a = σ a) {g : GC} (hr : ∀ r ∈ g.2.2, ∀ a, r = some a → a < n) (f : Int → Int) : ent K σ' g f = ent K σ g f := by
  obtain ⟨k, n1, rs⟩ := g
  rcases k with _ | _ | _ | _ | k
  · show (Sum.inr (n1, fvals σ' n1 rs f) : va_E) = Sum.inr (n1, fvals σ n1 rs f)
    have : fvals σ' n1 rs f = fvals σ n1 rs f := List.map_congr_left fun k _ => fval_congr h hr k _ _
    rw [this]
  · rfl
  · rfl
  · rfl
  · show (Sum.inl (K 4, n1, .inr (.inr (.inr (.inr (fun j => (rs.getD j none).map σ'))))) : va_E) = Sum.inl (K 4, n1, .inr (.inr (.inr (.inr (fun j => (rs.getD j none).map σ)))))
    have : (fun j => (rs.getD j none).map σ') = fun j => (rs.getD j none).map σ := funext fun j => opt_congr h hr j
    rw [this]
section Make
variable {X : Nat × (Int → Int)} {b : Nat × Nat} {d : Nat} {mi : MI} {G : List GC} {pc : Nat} {L S : List VV} {mem : Mem} {Q : zPost}
variable {p : Program} {l : Launch} {e : Env} {R : Room} {s : State} {m : MethodId} {args : Array Value} {below : List Frame} {meth : Method} {c : Code} {D : va_G} {K : Nat → ClassId} {ρ : Nat → Nat} {A : Nat → Prop} {n0 : Nat} {σ0 σ : Nat → Nat} {H : Heap} {locs : List Loc} {cells slots mc ms : Nat} {ls : Array Slot}
theorem ZK.grow {b2 : Nat × Nat} {Gn : List GC} {H1 : Heap} {cells' slots' : Nat} (hK : ZK X b d mi G mem p R s m args meth c D K ρ A n0 σ0 σ H locs cells slots mc ms) (hold : ∀ x : Nat, x < H.size → H1[x]? = H[x]?) (hsz : H.size ≤ H1.size) (hnew : ∀ (i : Nat) (g : GC), Gn[i]? = some g → va_at D vwCl (H.size + i, ent K (sgN σ G.length H.size) g (fun _ => 0)) H1) (hgok : ∀ (i : Nat) (g : GC), Gn[i]? = some g → gok (G.length + Gn.length) g (fun _ => 0)) (hb : cells' + b2.1 ≤ mc ∧ slots' + b2.2 ≤ ms) : ZK X b2 d mi (G ++ Gn) (zer mem G.length) p R s m args meth c D K ρ A n0 σ0 (sgN σ G.length H.size) H1 locs cells' slots' mc ms := by
  obtain ⟨hfix, hrm, hbud, hA, hro, hnw, hKK, hσ, hP, hD, hSS, hm⟩ := hK
  have hP1 : va_P D vwCl (zW K σ G mem) H1 := hP.kept (fun k x hx => hold x.1 ((hP k x hx).lt))
  have key : ∀ (k : Nat) (x : Nat × va_E), (zW K (sgN σ G.length H.size) (G ++ Gn) (zer mem G.length))[k]? = some x → (k < G.length ∧ (zW K σ G mem)[k]? = some x) ∨ ∃ (i : Nat) (g : GC), k = G.length + i ∧ Gn[i]? = some g ∧ x = (H.size + i, ent K (sgN σ G.length H.size) g (fun _ => 0)) := by
    intro k x hx
    by_cases hk : k < G.length
    · left
      refine ⟨hk, ?_⟩
      obtain ⟨g, hg⟩ : ∃ g, G[k]? = some g := ⟨G[k], List.getElem?_eq_getElem hk⟩
      have hg' : (G ++ Gn)[k]? = some g := by rw [List.getElem?_append_left hk]; exact hg
      rw [zW_at hg'] at hx
      rw [zW_at hg, ← hx, sgN_lt hk, zer_lt mem hk, ent_congr (fun a ha => sgN_lt ha) (hm k g hg).1]
    · right
      have hkl : k < (G ++ Gn).length := by
        have := (List.getElem?_eq_some_iff.mp hx).1
        rw [zW_len] at this
        exact this
      rw [List.length_append] at hkl
      have hkn : k - G.length < Gn.length := by omega
      have hg : Gn[k - G.length]? = some Gn[k - G.length] := List.getElem?_eq_getElem hkn
      have hg' : (G ++ Gn)[k]? = some Gn[k - G.length] := by rw [List.getElem?_append_right (by omega)]; exact hg
      rw [zW_at hg'] at hx
      refine ⟨k - G.length, _, by omega, hg, ?_⟩
      rw [← Option.some.inj hx, sgN_ge (by omega), zer_ge mem (by omega)]
  refine ⟨hfix, hrm, hb, hA, hro, hnw, hKK, ⟨by rw [List.length_append]; have := hσ.1; omega, fun a ha => (sgN_lt (Nat.lt_of_lt_of_le ha hσ.1)).trans (hσ.2 a ha)⟩, fun k x hx => ?_, ⟨fun i j x y hi hj hxy => ?_, fun k x hx => ?_⟩, ⟨Nat.le_trans hSS.1 hsz, fun x h1 h2 => (hold x (Nat.lt_of_lt_of_le h1 hSS.1)).trans (hSS.2.1 x h1 h2), hSS.2.2⟩, fun a g hg => ?_⟩
  · rcases key k x hx with ⟨-, h⟩ | ⟨i, g, -, hg, rfl⟩
    · exact hP1 k x h
    · exact hnew i g hg
  · rcases key i x hi with ⟨-, h1⟩ | ⟨i1, g1, e1, hg1, f1⟩ <;> rcases key j y hj with ⟨-, h2⟩ | ⟨i2, g2, e2, hg2, f2⟩
    · exact hD.1 i j x y h1 h2 hxy
    · have := (hP i x h1).lt
      rw [f2] at hxy
      dsimp only at hxy
      omega
    · have := (hP j y h2).lt
      rw [f1] at hxy
      dsimp only at hxy
      omega
    · rw [f1, f2] at hxy
      dsimp only at hxy
      omega
  · rcases key k x hx with ⟨-, h⟩ | ⟨i, g, -, hg, rfl⟩
    · exact hD.2 k x h
    · exact hA _ (Nat.le_trans hSS.1 (Nat.le_add_right _ _))
  · by_cases ha : a < G.length
    · rw [List.getElem?_append_left ha] at hg
      have h := hm a g hg
      rw [zer_lt mem ha, List.length_append]
      exact ⟨fun r hr a' e => by have := h.1 r hr a' e; omega, h.2⟩
    · rw [List.getElem?_append_right (by omega)] at hg
      rw [zer_ge mem (by omega), List.length_append]
      exact hgok _ g hg
theorem zz_grow {b2 : Nat × Nat} {Gn : List GC} {H1 : Heap} {cells' slots' pc2 : Nat} (hK : ZK X b d mi G mem p R s m args meth c D K ρ A n0 σ0 σ H locs cells slots mc ms) (hold : ∀ x : Nat, x < H.size → H1[x]? = H[x]?) (hsz : H.size ≤ H1.size) (hnew : ∀ (i : Nat) (g : GC), Gn[i]? = some g → va_at D vwCl (H.size + i, ent K (sgN σ G.length H.size) g (fun _ => 0)) H1) (hgok : ∀ (i : Nat) (g : GC), Gn[i]? = some g → gok (G.length + Gn.length) g (fun _ => 0)) (hne : 0 < Gn.length) (hb : cells' + b2.1 ≤ mc ∧ slots' + b2.2 ≤ ms)
    (hS : ∀ v ∈ S, vok G.length v) (hL : ∀ v ∈ L, vok G.length v) (hl : hasL ls mi.2.2.1 σ ρ L) (kk : ZZ X b2 d mi (G ++ Gn) pc2 L (vr G.length :: S) (zer mem G.length) Q) : W p l e R s m args below meth c H1 locs cells' slots' (MQ below (zQ D K ρ n0 σ0 A Q) args s mc ms A) (F0 m pc2 ls (.ref H.size :: S.map (rv σ ρ))) := by
  have hσ' : ∀ a, a < G.length → sgN σ G.length H.size a = σ a := fun a ha => sgN_lt ha
  have hle : G.length ≤ (G ++ Gn).length := by rw [List.length_append]; omega
  have h := kk p l e R s m args below meth c D K ρ A n0 σ0 (sgN σ G.length H.size) H1 locs cells' slots' mc ms ls (hK.grow hold hsz hnew hgok hb) (so_cons (show G.length < (G ++ Gn).length by rw [List.length_append]; omega) (fun v hv => vok_mono hle (hS v hv))) (fun v hv => vok_mono hle (hL v hv)) ⟨hl.1, hl.2.1, fun i w hi hw => by rw [rv_congr hσ' (hL w (List.mem_of_getElem? hi))]; exact hl.2.2 i w hi hw⟩
  rw [List.map_cons, map_rv_congr hσ' hS] at h
  have e1 : rv (sgN σ G.length H.size) ρ (vr G.length) = .ref H.size := by
    show Value.ref (sgN σ G.length H.size G.length) = _
    rw [sgN_ge (Nat.le_refl _), Nat.sub_self, Nat.add_zero]
  rw [e1] at h
  exact h
def dfOK (ty : FieldType) : Bool := match ty with
  | .int => true
  | .boolean => true
  | .long => true
  | .object _ => true
  | .array _ => true
  | _ => false
theorem df_val {σ : Nat → Nat} {ty : FieldType} (h : dfOK ty = true) : defaultValue ty = fval σ ty none 0 := by
  cases ty <;> first | rfl | cases h
theorem df_in {ty : FieldType} : inr ty 0 := by
  cases ty <;> first | trivial | exact ⟨by decide, by decide⟩ | exact Or.inl rfl
theorem repl_getD (n k : Nat) : (List.replicate n (none : Option Nat)).getD k none = none := by
  rw [List.getD_eq_getElem?_getD, List.getElem?_replicate]
  split <;> rfl
theorem one_at {α : Type} {x y : α} {i : Nat} (h : [x][i]? = some y) : i = 0 ∧ y = x := by
  have h0 := (List.getElem?_eq_some_iff.mp h).1
  have hi : i = 0 := by rw [List.length_singleton] at h0; omega
  subst hi
  exact ⟨rfl, (Option.some.inj h).symm⟩
theorem z_new {idx ci : Nat} {C : String} {T : u_T} {N : Nat} (b2 : Nat × Nat) (hd : decode mi.2.1 pc = .ok (.new idx, 3)) (hcl : clOK ci C T N) (hlk : Cond.classLink mi.1.cls idx C ∈ wsG) (hins : Cond.instantiable C N ∈ wsG) (hini : Cond.initialized C ∈ wsG) (hdf : ∀ j, j < N → dfOK (tyC ci j) = true) (hb : 1 + b2.1 ≤ b.1 ∧ N + b2.2 ≤ b.2) (kk : ZZ X b2 d mi (G ++ [(0, ci, List.replicate N none)]) (pc + 3) L (vr G.length :: S) (zer mem G.length) Q) : ZZ X b d mi G pc L S mem Q := by
  intro p l e R s m args below meth c D K ρ A n0 σ0 σ H locs cells slots mc ms ls hK hS hL hl
  have hK' := hK
  obtain ⟨⟨⟨hx, hbc, hml, hown, hts⟩, hret, hlocks, hnm⟩, ⟨r1, r2, r3, r4⟩, ⟨q1, q2⟩, hA, hro, hnw, hKK, hσ, hP, hD, hSS, hm⟩ := hK'
  have hKn := hKK.1 ci _ hcl.1
  have hnf := nfC_of hcl
  refine W.newcK hx hbc hown (hts _ hlk) (hts _ hins) (hts _ hini) rfl hd (by omega) (by omega) hKn.2.1 rfl fun H1 kC hkC e1 z1 o1 => ?_
  refine zz_grow hK o1 (by omega) (fun i g hg => ?_) (fun i g hg => ?_) (by exact Nat.succ_pos _) ⟨by omega, by omega⟩ hS hL hl kk
  · obtain ⟨rfl, rfl⟩ := one_at hg
    refine ⟨_, hcl.1, (u_born (tyC ci) hts hcl.2.1 hKn hkC e1 hcl.2.2.1).to (fun j hj => ?_)⟩
    unfold vp_V
    rw [List.getD_eq_getElem?_getD, fvals_at (by rw [hnf]; exact hj), Option.getD_some, repl_getD]
    exact df_val (hdf j hj)
  · obtain ⟨rfl, rfl⟩ := one_at hg
    refine ⟨fun r hr a ha => ?_, ?_, fun k _ => df_in⟩
    · rw [(List.mem_replicate.mp hr).2] at ha
      cases ha
    · rw [List.length_replicate, hnf]
theorem n32 {N : Nat} (h : N < 100000) : ¬ Int32.ofInt (N : Int) < 0 ∧ (Int32.ofInt (N : Int)).toNatClampNeg = N := by
  have hi : i32 (N : Int) := ⟨by omega, by omega⟩
  refine ⟨fun q => ?_, by rw [cl_nat (by omega) hi]; rfl⟩
  rw [Int32.lt_iff_toInt_lt, ti32 hi, Int32.toInt_zero] at q
  omega
theorem z_newI {N : Nat} (b2 : Nat × Nat) (hd : decode mi.2.1 pc = .ok (.newarray .int, 2)) (hac : Cond.arrayClass .int ∈ wsG) (hN : N < 100000) (hb : 1 + b2.1 ≤ b.1 ∧ N + b2.2 ≤ b.2) (kk : ZZ X b2 d mi (G ++ [(1, N, [])]) (pc + 2) L (vr G.length :: S) (zer mem G.length) Q) : ZZ X b d mi G pc L (vi (N : Int) :: S) mem Q := by
  intro p l e R s m args below meth c D K ρ A n0 σ0 σ H locs cells slots mc ms ls hK hS hL hl
  have hK' := hK
  obtain ⟨⟨⟨hx, hbc, hml, hown, hts⟩, hret, hlocks, hnm⟩, ⟨r1, r2, r3, r4⟩, ⟨q1, q2⟩, hA, hro, hnw, hKK, hσ, hP, hD, hSS, hm⟩ := hK'
  have hRA : s.vm.findClass ("[" ++ FieldType.int.toString) = some (K 1) := (hKK.2 0 _ rfl).2
  refine va_newaK (atype := .int) hx hbc (hts _ hac) rfl hd rfl (n32 hN).1 (n32 hN).2 (show N * 4 ≤ _ by omega) (by omega) (by omega) rfl fun H1 cA e1 z1 o1 hAr hNm => ?_
  have hc : cA = K 1 := Option.some.inj (hNm.symm.trans hRA)
  subst hc
  refine zz_grow hK o1 (by omega) (fun i g hg => ?_) (fun i g hg => ?_) (by exact Nat.succ_pos _) ⟨by omega, by omega⟩ (so_tl hS) hL hl kk
  · obtain ⟨rfl, rfl⟩ := one_at hg
    exact e1
  · obtain ⟨rfl, rfl⟩ := one_at hg
    exact ⟨fun r hr => absurd hr List.not_mem_nil, by omega, fun _ => df_in⟩
theorem z_newZ {N : Nat} (b2 : Nat × Nat) (hd : decode mi.2.1 pc = .ok (.newarray .boolean, 2)) (hac : Cond.arrayClass .boolean ∈ wsG) (hN : N < 100000) (hb : 1 + b2.1 ≤ b.1 ∧ N + b2.2 ≤ b.2) (kk : ZZ X b2 d mi (G ++ [(2, N, [])]) (pc + 2) L (vr G.length :: S) (zer mem G.length) Q) : ZZ X b d mi G pc L (vi (N : Int) :: S) mem Q := by
  intro p l e R s m args below meth c D K ρ A n0 σ0 σ H locs cells slots mc ms ls hK hS hL hl
  have hK' := hK
  obtain ⟨⟨⟨hx, hbc, hml, hown, hts⟩, hret, hlocks, hnm⟩, ⟨r1, r2, r3, r4⟩, ⟨q1, q2⟩, hA, hro, hnw, hKK, hσ, hP, hD, hSS, hm⟩ := hK'
  have hRA : s.vm.findClass ("[" ++ FieldType.boolean.toString) = some (K 2) := (hKK.2 1 _ rfl).2
  refine va_newaK (atype := .boolean) hx hbc (hts _ hac) rfl hd rfl (n32 hN).1 (n32 hN).2 (show N * 1 ≤ _ by omega) (by omega) (by omega) rfl fun H1 cA e1 z1 o1 hAr hNm => ?_
  have hc : cA = K 2 := Option.some.inj (hNm.symm.trans hRA)
  subst hc
  refine zz_grow hK o1 (by omega) (fun i g hg => ?_) (fun i g hg => ?_) (by exact Nat.succ_pos _) ⟨by omega, by omega⟩ (so_tl hS) hL hl kk
  · obtain ⟨rfl, rfl⟩ := one_at hg
    exact e1
  · obtain ⟨rfl, rfl⟩ := one_at hg
    exact ⟨fun r hr => absurd hr List.not_mem_nil, by omega, fun _ => df_in⟩
theorem z_newJ {N : Nat} (b2 : Nat × Nat) (hd : decode mi.2.1 pc = .ok (.newarray .long, 2)) (hac : Cond.arrayClass .long ∈ wsG) (hN : N < 100000) (hb : 1 + b2.1 ≤ b.1 ∧ N + b2.2 ≤ b.2) (kk : ZZ X b2 d mi (G ++ [(3, N, [])]) (pc + 2) L (vr G.length :: S) (zer mem G.length) Q) : ZZ X b d mi G pc L (vi (N : Int) :: S) mem Q := by
  intro p l e R s m args below meth c D K ρ A n0 σ0 σ H locs cells slots mc ms ls hK hS hL hl
  have hK' := hK
  obtain ⟨⟨⟨hx, hbc, hml, hown, hts⟩, hret, hlocks, hnm⟩, ⟨r1, r2, r3, r4⟩, ⟨q1, q2⟩, hA, hro, hnw, hKK, hσ, hP, hD, hSS, hm⟩ := hK'
  have hRA : s.vm.findClass ("[" ++ FieldType.long.toString) = some (K 3) := (hKK.2 2 _ rfl).2
  refine va_newaK (atype := .long) hx hbc (hts _ hac) rfl hd rfl (n32 hN).1 (n32 hN).2 (show N * 8 ≤ _ by omega) (by omega) (by omega) rfl fun H1 cA e1 z1 o1 hAr hNm => ?_
  have hc : cA = K 3 := Option.some.inj (hNm.symm.trans hRA)
  subst hc
  refine zz_grow hK o1 (by omega) (fun i g hg => ?_) (fun i g hg => ?_) (by exact Nat.succ_pos _) ⟨by omega, by omega⟩ (so_tl hS) hL hl kk
  · obtain ⟨rfl, rfl⟩ := one_at hg
    exact e1
  · obtain ⟨rfl, rfl⟩ := one_at hg
    exact ⟨fun r hr => absurd hr List.not_mem_nil, by omega, fun _ => df_in⟩
/-- a row of 31 rows of 13 longs -/
theorem z_mna {idx : Nat} (b2 : Nat × Nat) (hd : decode mi.2.1 pc = .ok (.multianewarray idx 2, 4)) (hlk : Cond.classLink mi.1.cls idx ("[" ++ (FieldType.array .long).toString) ∈ wsG) (hac : Cond.arrayClass .long ∈ wsG) (hb : 32 + b2.1 ≤ b.1 ∧ 434 + b2.2 ≤ b.2) (kk : ZZ X b2 d mi (G ++ ((4, 31, (List.range 31).map (fun i => some (G.length + 1 + i))) :: List.replicate 31 (3, 13, []))) (pc + 4) L (vr G.length :: S) (zer mem G.length) Q) : ZZ X b d mi G pc L (vi 13 :: vi 31 :: S) mem Q := by
  intro p l e R s m args below meth c D K ρ A n0 σ0 σ H locs cells slots mc ms ls hK hS hL hl
  have hK' := hK
  obtain ⟨⟨⟨hx, hbc, hml, hown, hts⟩, hret, hlocks, hnm⟩, ⟨r1, r2, r3, r4⟩, ⟨q1, q2⟩, hA, hro, hnw, hKK, hσ, hP, hD, hSS, hm⟩ := hK'
  have h31 : (Int32.ofInt 31).toNatClampNeg = 31 := by decide
  have h13 : (Int32.ofInt 13).toNatClampNeg = 13 := by decide
  intro T hT Xs
  obtain ⟨vm₁, cA, comp, -, fA, fC, hO, -, X', step⟩ := Jvm.Stand.multianewarray2F Xs hx hown (hts _ hlk) (aoaL.use hro.2.2.2) (hts _ hac) (g := F0 m pc ls (.int (Int32.ofInt 13) :: .int (Int32.ofInt 31) :: S.map (rv σ ρ))) rfl (by rw [hbc]; exact hd) rfl (by decide) (by decide) (by decide) (by decide) (by decide) (by decide) (by decide) (by rw [h31]; omega) (by rw [h31, h13]; omega)
  rw [h31, h13] at X' step
  have c3 : comp = K 3 := Option.some.inj (fC.symm.trans (hKK.2 2 _ rfl).2)
  have c4 : cA = K 4 := Option.some.inj (fA.symm.trans (hKK.2 3 _ rfl).2)
  subst c3
  subst c4
  generalize hF : Jvm.Free.Multi.fill (T.setVm vm₁) (K 4) (K 3) 31 13 (defaultValue .long) 31 = F at X' step
  have hTh : (T.setVm vm₁).heap = H := hT
  obtain ⟨f1, f2, -, -⟩ := Jvm.Free.Multi.fill_facts (T.setVm vm₁) (K 4) (K 3) 31 13 (defaultValue .long) 31
  rw [hF, hTh] at f1 f2
  have hold : ∀ x : Nat, x < H.size → F.heap[x]? = H[x]? := fun x hx => by
    have := Jvm.Free.Multi.fill_old (T.setVm vm₁) (K 4) (K 3) 31 13 (defaultValue .long) (a := x) (by rw [hTh]; exact hx) 31
    rw [hF, hTh] at this
    exact this
  have hrow : ∀ j : Nat, j < 31 → F.heap[H.size + 1 + j]? = some (vp_cell (K 3) (13, .inr (.inl (fun _ => Int64.ofInt 0)))) := fun j hj => by
    have := Jvm.Free.Multi.fill_inner (T.setVm vm₁) (K 4) (K 3) 31 13 (defaultValue .long) 31 j hj
    rw [hF, hTh] at this
    rw [this, vp_cell_l]
    show some ({ cls := K 3, slots := Array.replicate 13 (defaultValue .long), vm := .none } : Cell) = _
    rw [arrV_new]
    rfl
  rw [zr_outer] at f2
  suffices hnn : (∀ (i : Nat) (g : GC), ((4, 31, (List.range 31).map (fun i => some (G.length + 1 + i))) :: List.replicate 31 ((3, 13, []) : GC))[i]? = some g → va_at D vwCl (H.size + i, ent K (sgN σ G.length H.size) g (fun _ => 0)) F.heap) ∧ ∀ (i : Nat) (g : GC), ((4, 31, (List.range 31).map (fun i => some (G.length + 1 + i))) :: List.replicate 31 ((3, 13, []) : GC))[i]? = some g → gok (G.length + ((4, 31, (List.range 31).map (fun i => some (G.length + 1 + i))) :: List.replicate 31 ((3, 13, []) : GC)).length) g (fun _ => 0) by
    have hw := zz_grow (below := below) (e := e) (l := l) (cells' := cells + 1 + 31) (slots' := slots + 31 + 31 * 13) hK hold (by rw [f1]; omega) hnn.1 hnn.2 (Nat.succ_pos _) ⟨by omega, by omega⟩ (so_tl (so_tl hS)) hL hl kk
    obtain ⟨t, a1, c1⟩ := hw F rfl X'
    refine ⟨t, step t ?_, c1⟩
    have e0 : T.heap.size = H.size := by rw [hT]
    rw [e0]
    exact a1
  refine ⟨fun i g hg => ?_, fun i g hg => ?_⟩
  · rcases i with _ | i
    · cases hg
      show F.heap[H.size]? = some (vp_cell (K 4) (31, .inr (.inr (.inr (.inr (fun j => (((List.range 31).map (fun i => some (G.length + 1 + i))).getD j none).map (sgN σ G.length H.size)))))))
      rw [f2, vp_cell_q]
      refine congrArg some (congrArg (arrV (K 4) 31) (funext fun j => congrArg va_rf ?_))
      rw [List.getD_eq_getElem?_getD, List.getElem?_map]
      by_cases hj : j < 31
      · rw [if_pos hj, List.getElem?_range hj]
        show _ = some (sgN σ G.length H.size (G.length + 1 + j))
        rw [sgN_ge (by omega), show G.length + 1 + j - G.length = 1 + j by omega, Nat.add_assoc]
      · rw [if_neg hj, List.getElem?_eq_none (by rw [List.length_range]; omega)]
        rfl
    · rw [List.getElem?_cons_succ] at hg
      have hi := (List.getElem?_eq_some_iff.mp hg).1
      rw [List.length_replicate] at hi
      rw [List.getElem?_replicate, if_pos hi] at hg
      cases hg
      show F.heap[H.size + (i + 1)]? = some (vp_cell (K 3) (13, .inr (.inl (fun _ => Int64.ofInt 0))))
      rw [show H.size + (i + 1) = H.size + 1 + i by omega]
      exact hrow i hi
  · rcases i with _ | i
    · cases hg
      refine ⟨fun r hr a ha => ?_, by decide, fun _ => df_in⟩
      obtain ⟨i, hi, rfl⟩ := List.mem_map.mp hr
      have := List.mem_range.mp hi
      have e1 : G.length + 1 + i = a := Option.some.inj ha
      show a < G.length + ((4, 31, (List.range 31).map (fun i => some (G.length + 1 + i))) :: List.replicate 31 ((3, 13, []) : GC)).length
      rw [List.length_cons, List.length_replicate]
      omega
    · rw [List.getElem?_cons_succ] at hg
      have hi := (List.getElem?_eq_some_iff.mp hg).1
      rw [List.length_replicate] at hi
      rw [List.getElem?_replicate, if_pos hi] at hg
      cases hg
      exact ⟨fun r hr => absurd hr List.not_mem_nil, by decide, fun _ => df_in⟩
theorem z_objI {idx a : Nat} (hd : decode mi.2.1 pc = .ok (.invokespecial idx, 3)) (hlk : Cond.methodLink mi.1.cls idx Lib.objectInit ∈ wsG) (hin : Cond.instanceMethod Lib.objectInit ∈ wsG) (hco : Cond.code Lib.objectInit ⟨#[0xb1]⟩ 1 none ∈ wsG) (hcat : (S.map vcat).sum ≤ 8) (hd1 : 1 ≤ d) (kk : ZZ X b d mi G (pc + 3) L S mem Q) : ZZ X b d mi G pc L (vr a :: S) mem Q := by
  intro p l e R s m args below meth c D K ρ A n0 σ0 σ H locs cells slots mc ms ls hK hS hL hl
  have hK' := hK
  obtain ⟨⟨⟨hx, hbc, hml, hown, hts⟩, hret, hlocks, hnm⟩, ⟨r1, r2, r3, r4⟩, ⟨q1, q2⟩, hA, hro, hnw, hKK, hσ, hP, hD, hSS, hm⟩ := hK'
  have h := kk p l e R s m args below meth c D K ρ A n0 σ0 σ H locs cells slots mc ms ls hK (so_tl hS) hL hl
  have hrm : 2 * (F0 m pc ls ((vr a :: S).map (rv σ ρ))).monitorRoom + ((S.map (rv σ ρ)).map fun v => v.category).sum ≤ 8 := lv_room (by rw [vcat_map]; exact hcat)
  exact W.objInit hx hbc hown (hts _ hlk) (hts _ hin) (hts _ hco) rfl (hl.1.trans hml.symm) rfl hd (by omega) (by omega) h
theorem zW_setG {a : Nat} {g g' : GC} (hg : G[a]? = some g) : zW K σ (G.set a g') mem = (zW K σ G mem).set a (σ a, ent K σ g' (mem a)) := by
  apply List.ext_getElem?
  intro i
  have ha := (List.getElem?_eq_some_iff.mp hg).1
  rw [List.getElem?_set]
  by_cases hi : a = i
  · subst hi
    rw [if_pos rfl, zW_len, if_pos ha]
    exact zW_at (by rw [List.getElem?_set, if_pos rfl, if_pos ha])
  · rw [if_neg hi]
    by_cases hl : i < G.length
    · have hgi : G[i]? = some G[i] := List.getElem?_eq_getElem hl
      rw [zW_at (g := G[i]) (by rw [List.getElem?_set, if_neg hi]; exact hgi), zW_at hgi]
    · rw [List.getElem?_eq_none (by rw [zW_len, List.length_set]; omega), List.getElem?_eq_none (by rw [zW_len]; omega)]
theorem z_putR {idx ci k a r : Nat} {rs : List (Option Nat)} (hd : decode mi.2.1 pc = .ok (.putfield idx, 3)) (hf : fdF mi.1.cls idx ci k) (hini : mi.1.name = "<init>") (hg : G[a]? = some (0, ci, rs)) (hna : ∀ x : Nat, narrow (tyC ci k) (.ref x) = .ref x ∧ fits (tyC ci k) (.ref x) = true) (hfv : ∀ (σ : Nat → Nat) (o : Option Nat) (z : Int), fval σ (tyC ci k) o z = va_rf (o.map σ)) (hir : ∀ z, inr (tyC ci k) z) (kk : ZZ X b d mi (G.set a (0, ci, rs.set k (some r))) (pc + 3) L S mem Q) : ZZ X b d mi G pc L (vr r :: vr a :: S) mem Q := by
  intro p l e R s m args below meth c D K ρ A n0 σ0 σ H locs cells slots mc ms ls hK hS hL hl
  have hK' := hK
  obtain ⟨⟨⟨hx, hbc, hml, hown, hts⟩, hret, hlocks, hnm⟩, ⟨r1, r2, r3, r4⟩, ⟨q1, q2⟩, hA, hro, hnw, hKK, hσ, hP, hD, hSS, hm⟩ := hK'
  obtain ⟨C, T, N, hcl, hkN, hfin, hdecl, hlk⟩ := hf
  have hnf := nfC_of hcl
  have hgk := hm a _ hg
  have hrr : r < G.length := hS _ List.mem_cons_self
  have hrl : rs.length = nfC ci := hgk.2.1
  have hset : (fvals σ ci rs (mem a)).set k (rv σ ρ (vr r)) = fvals σ ci (rs.set k (some r)) (mem a) := by
    apply List.ext_getElem?
    intro i
    rw [List.getElem?_set]
    by_cases hi : k = i
    · subst hi
      rw [if_pos rfl, fvals_len, if_pos (by omega), fvals_at (by omega), List.getD_eq_getElem?_getD, List.getElem?_set, if_pos rfl, if_pos (by omega), Option.getD_some, hfv]
      rfl
    · rw [if_neg hi]
      by_cases hl : i < nfC ci
      · rw [fvals_at hl, fvals_at hl, List.getD_eq_getElem?_getD, List.getD_eq_getElem?_getD, List.getElem?_set, if_neg hi]
      · rw [List.getElem?_eq_none (by rw [fvals_len]; omega), List.getElem?_eq_none (by rw [fvals_len]; omega)]
  refine va_putF hx hbc hts hcl.2.1 (tyC ci) hcl.2.2.1 hcl.2.2.2 hown hKK hP hD hSS a (fs := fvals σ ci rs (mem a)) (zW_at hg) hcl.1 k hkN (hts _ hlk) (fun x h => h) hfin (hnm.trans hini) hdecl (hcl.2.2.1 k hkN) (hna (σ r)).1 (hna (σ r)).2 (by rw [fvals_len]; omega) hd (fun H1 locs1 hP1 hD1 hS1 => ?_)
  rw [hset] at hP1 hD1
  have hz := zW_setG (K := K) (σ := σ) (mem := mem) (g' := (0, ci, rs.set k (some r))) hg
  have hP2 : va_P D vwCl (zW K σ (G.set a (0, ci, rs.set k (some r))) mem) H1 := by rw [hz]; exact hP1
  have hD2 : va_D A (zW K σ (G.set a (0, ci, rs.set k (some r))) mem) := by rw [hz]; exact hD1
  have hll : (G.set a (0, ci, rs.set k (some r))).length = G.length := List.length_set
  have ha := (List.getElem?_eq_some_iff.mp hg).1
  refine kk p l e R s m args below meth c D K ρ A n0 σ0 σ H1 locs1 cells slots mc ms ls ⟨⟨⟨hx, hbc, hml, hown, hts⟩, hret, hlocks, hnm⟩, ⟨r1, r2, r3, r4⟩, ⟨q1, q2⟩, hA, hro, hnw, hKK, ⟨by rw [hll]; exact hσ.1, hσ.2⟩, hP2, hD2, hS1, fun x g hx => ?_⟩ (fun v hv => by rw [hll]; exact so_tl (so_tl hS) v hv) (fun v hv => by rw [hll]; exact hL v hv) hl
  rw [hll]
  rw [List.getElem?_set] at hx
  by_cases q : a = x
  · subst q
    rw [if_pos rfl, if_pos ha] at hx
    cases hx
    refine ⟨fun o ho a' e => ?_, by rw [List.length_set]; exact hrl, hgk.2.2⟩
    rcases List.mem_or_eq_of_mem_set ho with h | h
    · exact hgk.1 o h a' e
    · rw [h] at e
      cases e
      exact hrr
  · rw [if_neg q] at hx
    exact hm x g hx
end Make
