/-! ===== rows of rows (begun from the printed names): what multianewarray makes; the word that it needs ===== -/
theorem zr_outer (c : ClassId) (N h0 : Nat) : ∀ i : Nat, Jvm.Free.Multi.outerC c N h0 i = arrV c N (fun j => va_rf (if j < i then some (h0 + 1 + j) else none))
  | 0 => by
    show ({ cls := c, slots := Array.replicate N .null, vm := .none } : Cell) = _
    rw [arrV_new]
    refine congrArg (arrV c N) (funext fun j => ?_)
    simp [va_rf]
  | i + 1 => by
    show (Jvm.Free.Multi.outerC c N h0 i).setSlot i (.ref (h0 + 1 + i)) = _
    rw [zr_outer c N h0 i, arrV_store]
    refine congrArg (arrV c N) (funext fun j => ?_)
    by_cases e : j = i
    · subst e
      simp [updV, va_rf]
    · by_cases h : j < i
      · simp [updV, e, h, Nat.lt_succ_of_lt h]
      · simp [updV, e, h, show ¬ j < i + 1 by omega]
def aoaL (U : State) : Prop := (Cond.arrayOver (.array .long)).before #[] U = true
theorem aoaL.of {A : Array Value} {U : State} (h : (Cond.arrayOver (.array .long)).before A U = true) : aoaL U := h
theorem aoaL.use {A : Array Value} {U : State} (h : aoaL U) : (Cond.arrayOver (.array .long)).before A U = true := h
theorem aoaL.moved {u U : State} (hvm : u.vm.Alike U.vm) (h : aoaL u) : aoaL U := by
  obtain ⟨comp, c, k, h1, h2, h3, h4, h5⟩ := arrayOverA_spec h
  obtain ⟨k', hk', he⟩ := hvm.2.2 _ _ h3
  have hi : (U.vm.classes.findIdx? fun (x : Class) => match x.kind with | .array component _ => component == comp | _ => false) = some c := by
    have e1 := va_idx_bare U.vm comp
    have e2 := va_idx_bare u.vm comp
    have hb : U.vm.bare = u.vm.bare := by first | exact hvm.bare_eq | exact hvm.bare_eq.symm
    rw [hb] at e1
    exact e1.symm.trans (e2.trans h2)
  have hkind : k'.kind = .array comp (.array .long) := by rw [he]; exact h4
  have f1 : U.vm.findClass (FieldType.array .long).toString = some comp := by rw [hvm.findClass]; exact h1
  have f2 : U.vm.findClass ("[" ++ (FieldType.array .long).toString) = some c := by rw [hvm.findClass]; exact h5
  unfold aoaL Cond.before Cond.holds
  simp only [Cond.value]
  rw [f1, Option.bind_some]
  refine (congrArg (fun o : Option Nat => (o.bind (fun c => (U.vm.classes[c]?).map fun (k : Class) => match k.kind with | .array _ ty => decide (ty = FieldType.array .long) && decide (U.vm.findClass ("[" ++ (FieldType.array .long).toString) = some c) | _ => false) == some true)) hi).trans ?_
  simp [hk', hkind, f2]
/-! ===== a virtual machine over whole numbers: values, memory, the shape of the heap ===== -/
abbrev VV : Type := Int ⊕ (Int ⊕ (Nat ⊕ (Nat ⊕ Unit)))
abbrev vi (z : Int) : VV := Sum.inl z
abbrev vl (z : Int) : VV := Sum.inr (Sum.inl z)
abbrev vr (a : Nat) : VV := Sum.inr (Sum.inr (Sum.inl a))
abbrev vc (j : Nat) : VV := Sum.inr (Sum.inr (Sum.inr (Sum.inl j)))
abbrev vd : VV := Sum.inr (Sum.inr (Sum.inr (Sum.inr ())))
abbrev Mem : Type := Nat → Int → Int
abbrev GC : Type := Nat × (Nat × List (Option Nat))
abbrev MI : Type := MethodName × (ByteArray × (Nat × Option FieldType))
abbrev zPost : Type := List GC → VV → Mem → Prop
abbrev i32 (z : Int) : Prop := -2147483648 ≤ z ∧ z < 2147483648
abbrev i64 (z : Int) : Prop := -9223372036854775808 ≤ z ∧ z < 9223372036854775808
def w32 (z : Int) : Int := Int.bmod z 4294967296
def w64 (z : Int) : Int := Int.bmod z 18446744073709551616
theorem w32_ok (z : Int) : i32 (w32 z) := by
  unfold i32 w32
  have h1 := Int.le_bmod (x := z) (m := 4294967296) (by decide)
  have h2 := Int.bmod_lt (x := z) (m := 4294967296) (by decide)
  omega
theorem w64_ok (z : Int) : i64 (w64 z) := by
  unfold i64 w64
  have h1 := Int.le_bmod (x := z) (m := 18446744073709551616) (by decide)
  have h2 := Int.bmod_lt (x := z) (m := 18446744073709551616) (by decide)
  omega
theorem w32_id {z : Int} (h : i32 z) : w32 z = z := by
  unfold i32 at h
  unfold w32
  exact Int.bmod_eq_of_le (by omega) (by omega)
theorem w64_id {z : Int} (h : i64 z) : w64 z = z := by
  unfold i64 at h
  unfold w64
  exact Int.bmod_eq_of_le (by omega) (by omega)
theorem ti32 {z : Int} (h : i32 z) : (Int32.ofInt z).toInt = z := Int32.toInt_ofInt_of_le (by unfold i32 at h; omega) (by unfold i32 at h; omega)
theorem ti64 {z : Int} (h : i64 z) : (Int64.ofInt z).toInt = z := Int64.toInt_ofInt_of_le (by unfold i64 at h; omega) (by unfold i64 at h; omega)
theorem oi32 (x : Int32) : i32 x.toInt := ⟨by have := Int32.le_toInt x; omega, by have := Int32.toInt_lt x; omega⟩
theorem oi64 (x : Int64) : i64 x.toInt := ⟨by have := Int64.le_toInt x; omega, by have := Int64.toInt_lt x; omega⟩
theorem ofInt_w32 (z : Int) : Int32.ofInt (w32 z) = Int32.ofInt z := by
  apply Int32.toInt_inj.mp
  rw [ti32 (w32_ok z), Int32.toInt_ofInt]
  rfl
theorem ofInt_w64 (z : Int) : Int64.ofInt (w64 z) = Int64.ofInt z := by
  apply Int64.toInt_inj.mp
  rw [ti64 (w64_ok z), Int64.toInt_ofInt]
  rfl
def rv (σ ρ : Nat → Nat) (v : VV) : Value := match v with
  | .inl z => .int (Int32.ofInt z)
  | .inr (.inl z) => .long (Int64.ofInt z)
  | .inr (.inr (.inl a)) => .ref (σ a)
  | .inr (.inr (.inr (.inl j))) => .ref (ρ j)
  | .inr (.inr (.inr (.inr _))) => .null
def rvo (σ ρ : Nat → Nat) (v : VV) : Option Value := match v with
  | .inl z => some (.int (Int32.ofInt z))
  | .inr (.inl z) => some (.long (Int64.ofInt z))
  | .inr (.inr (.inl a)) => some (.ref (σ a))
  | .inr (.inr (.inr (.inl j))) => some (.ref (ρ j))
  | .inr (.inr (.inr (.inr _))) => none
def stk (v : VV) (S : List VV) : List VV := match v with
  | .inl z => vi z :: S
  | .inr (.inl z) => vl z :: S
  | .inr (.inr (.inl a)) => vr a :: S
  | .inr (.inr (.inr (.inl j))) => vc j :: S
  | .inr (.inr (.inr (.inr _))) => S
def vok (n : Nat) (v : VV) : Prop := match v with
  | .inl z => i32 z
  | .inr (.inl z) => i64 z
  | .inr (.inr (.inl a)) => a < n
  | .inr (.inr (.inr _)) => True
theorem vok_mono {n n' : Nat} {v : VV} (h : n ≤ n') (hv : vok n v) : vok n' v := by
  rcases v with z | z | a | j | u
  · exact hv
  · exact hv
  · exact Nat.lt_of_lt_of_le hv h
  · trivial
  · trivial
theorem rv_congr {σ σ' ρ : Nat → Nat} {n : Nat} (h : ∀ a, a < n → σ' a = σ a) {v : VV} (hv : vok n v) : rv σ' ρ v = rv σ ρ v := by
  rcases v with z | z | a | j | u
  · rfl
  · rfl
  · show Value.ref _ = Value.ref _
    rw [h a hv]
  · rfl
  · rfl
theorem map_rv_congr {σ σ' ρ : Nat → Nat} {n : Nat} (h : ∀ a, a < n → σ' a = σ a) {S : List VV} (hS : ∀ v ∈ S, vok n v) : S.map (rv σ' ρ) = S.map (rv σ ρ) :=
  List.map_congr_left (fun v hv => rv_congr h (hS v hv))
-- memory
def mset (m : Mem) (a : Nat) (j v : Int) : Mem := fun a' => if a' = a then (fun j' => if j' = j then v else m a j') else m a'
theorem mset_eq (m : Mem) (a : Nat) (j v : Int) : mset m a j v a j = v := by simp [mset]
theorem mset_at (m : Mem) (a : Nat) (j v : Int) : mset m a j v a = (fun j' => if j' = j then v else m a j') := by simp [mset]
theorem mset_ne (m : Mem) {a a' : Nat} (h : a' ≠ a) (j v : Int) : mset m a j v a' = m a' := by simp [mset, h]
theorem mset_nej (m : Mem) (a : Nat) {j j' : Int} (h : j' ≠ j) (v : Int) : mset m a j v a j' = m a j' := by simp [mset, h]
-- the whole row of an array at once
def mrow (m : Mem) (a : Nat) (f : Int → Int) : Mem := fun a' => if a' = a then f else m a'
theorem mrow_at (m : Mem) (a : Nat) (f : Int → Int) : mrow m a f a = f := by simp [mrow]
theorem mrow_ne (m : Mem) {a a' : Nat} (h : a' ≠ a) (f : Int → Int) : mrow m a f a' = m a' := by simp [mrow, h]
-- fields' types by the class's number
def tyC (ci : Nat) : Nat → FieldType := match ci with
  | 0 => tyX0
  | 1 => tyX1
  | 2 => tyX2
  | 3 => tyX3
  | 4 => tyX4
  | 5 => tyX5
  | 6 => tyX6
  | 7 => tyX7
  | 8 => tyX8
  | 9 => tyX9
  | 10 => tyX10
  | 11 => tyX11
  | _ => tyX12
def nfC (ci : Nat) : Nat := ((vwCl[ci]?).map (fun q => q.2.2)).getD 0
def kty (k : Nat) : FieldType := match k with
  | 1 => .int
  | 2 => .boolean
  | 3 => .long
  | _ => .array .long
def inr (ty : FieldType) (z : Int) : Prop := match ty with
  | .int => i32 z
  | .boolean => z = 0 ∨ z = 1
  | .long => i64 z
  | _ => True
def fval (σ : Nat → Nat) (ty : FieldType) (r : Option Nat) (z : Int) : Value := match ty with
  | .int => .int (Int32.ofInt z)
  | .boolean => .int (Int32.ofInt z)
  | .long => .long (Int64.ofInt z)
  | _ => va_rf (r.map σ)
def fvals (σ : Nat → Nat) (ci : Nat) (rs : List (Option Nat)) (f : Int → Int) : List Value := (List.range (nfC ci)).map (fun k => fval σ (tyC ci k) (rs.getD k none) (f (k : Int)))
def ent (K : Nat → ClassId) (σ : Nat → Nat) (g : GC) (f : Int → Int) : va_E := match g with
  | (0, ci, rs) => .inr (ci, fvals σ ci rs f)
  | (1, n, _) => .inl (K 1, n, .inl (fun j => Int32.ofInt (f (j : Int))))
  | (2, n, _) => .inl (K 2, n, .inl (fun j => Int32.ofInt (f (j : Int))))
  | (3, n, _) => .inl (K 3, n, .inr (.inl (fun j => Int64.ofInt (f (j : Int)))))
  | (_, n, rs) => .inl (K 4, n, .inr (.inr (.inr (.inr (fun j => (rs.getD j none).map σ)))))
def zW (K : Nat → ClassId) (σ : Nat → Nat) (G : List GC) (mem : Mem) : va_W := (List.range G.length).map (fun a => (σ a, ent K σ (G.getD a (0, 0, [])) (mem a)))
def gok (n : Nat) (g : GC) (f : Int → Int) : Prop := (∀ r ∈ g.2.2, ∀ a, r = some a → a < n) ∧ match g with
  | (0, ci, rs) => rs.length = nfC ci ∧ ∀ k : Nat, k < nfC ci → inr (tyC ci k) (f (k : Int))
  | (k, n, _) => n < 2147483648 ∧ ∀ j : Int, inr (kty k) (f j)
def mok (G : List GC) (mem : Mem) : Prop := ∀ (a : Nat) (g : GC), G[a]? = some g → gok G.length g (mem a)
def tysK (K : Nat → ClassId) : List (ClassId × FieldType) := [(K 1, .int), (K 2, .boolean), (K 3, .long), (K 4, .array .long)]
theorem zW_at {K : Nat → ClassId} {σ : Nat → Nat} {G : List GC} {mem : Mem} {a : Nat} {g : GC} (h : G[a]? = some g) : (zW K σ G mem)[a]? = some (σ a, ent K σ g (mem a)) := by
  have hl : a < G.length := (List.getElem?_eq_some_iff.mp h).1
  unfold zW
  rw [List.getElem?_map, List.getElem?_range hl]
  simp only [Option.map_some, List.getD_eq_getElem?_getD, h, Option.getD_some]
theorem zW_len {K : Nat → ClassId} {σ : Nat → Nat} {G : List GC} {mem : Mem} : (zW K σ G mem).length = G.length := by simp [zW]
theorem zW_get {K : Nat → ClassId} {σ : Nat → Nat} {G : List GC} {mem : Mem} {a : Nat} (h : a < G.length) : (zW K σ G mem)[a]? = some (σ a, ent K σ (G.getD a (0, 0, [])) (mem a)) := by
  unfold zW
  rw [List.getElem?_map, List.getElem?_range h]
  rfl
/-- the world with one cell set is the world over the new memory -/
theorem zW_set {K : Nat → ClassId} {σ : Nat → Nat} {G : List GC} {mem mem' : Mem} {a : Nat} {g : GC} (h : G[a]? = some g) {e : va_E} (he : ent K σ g (mem' a) = e) (ho : ∀ a', a' ≠ a → mem' a' = mem a') : (zW K σ G mem).set a (σ a, e) = zW K σ G mem' := by
  apply List.ext_getElem?
  intro i
  rw [List.getElem?_set]
  by_cases hi : a = i
  · subst hi
    rw [if_pos rfl, zW_len, if_pos (List.getElem?_eq_some_iff.mp h).1, zW_at h, he]
  · rw [if_neg hi]
    by_cases hl : i < G.length
    · rw [zW_get hl, zW_get hl, ho i (fun q => hi q.symm)]
    · rw [List.getElem?_eq_none (by rw [zW_len]; omega), List.getElem?_eq_none (by rw [zW_len]; omega)]
-- what nobody writes: the two static rows and the script
def ppF (i : Int) : Int := ([128, 81, 125, 49, 121, 13, 17, 19, 23, 29, 31, 37, 41, 43, 47, 53, 59, 61, 67, 71, 73, 79, 83, 89, 97, 101, 103, 107, 109, 113, 127, 131, 137, 139, 149] : List Int).getD i.toNat 0
def rwF (i : Int) : Int := ([1, 6, 36, 216, 1296] : List Int).getD i.toNat 0
def roF (X : Nat × (Int → Int)) (j : Nat) : Option (Nat × (Int → Int)) := match j with
  | 0 => some (35, ppF)
  | 1 => some (5, rwF)
  | 2 => some X
  | _ => none
def zro (X : Nat × (Int → Int)) (ρ : Nat → Nat) (A : Nat → Prop) (U : State) (H : Heap) : Prop :=
  (∀ j q, roF X j = some q → (∀ i : Int, i32 (q.2 i)) ∧ q.1 < 2147483648 ∧ va_T .int (ρ j) q.1 (fun i => .int (Int32.ofInt (q.2 (i : Int)))) A U H) ∧ va_Z RX9 "PRIME_POWERS" "[I" (.ref (ρ 0)) A U H ∧ va_Z RX10 "ROWS" "[I" (.ref (ρ 1)) A U H ∧ aoaL U
theorem zro.moved {X : Nat × (Int → Int)} {ρ : Nat → Nat} {A : Nat → Prop} {u U : State} {H : Heap} (hvm : u.vm.Alike U.vm) (h : zro X ρ A u H) : zro X ρ A U H :=
  ⟨fun j q hq => ⟨(h.1 j q hq).1, (h.1 j q hq).2.1, (h.1 j q hq).2.2.moved hvm⟩, h.2.1.moved hvm, h.2.2.1.moved hvm, h.2.2.2.moved hvm⟩
theorem zro.kept {X : Nat × (Int → Int)} {ρ : Nat → Nat} {A : Nat → Prop} {U : State} {H H1 : Heap} (h : zro X ρ A U H) (hq : ∀ a : Nat, a < H.size → ¬ A a → H1[a]? = H[a]?) : zro X ρ A U H1 :=
  ⟨fun j q hj => ⟨(h.1 j q hj).1, (h.1 j q hj).2.1, (h.1 j q hj).2.2.kept hq⟩, h.2.1.kept hq, h.2.2.1.kept hq, h.2.2.2⟩
theorem zro.narrow {X : Nat × (Int → Int)} {ρ : Nat → Nat} {A B : Nat → Prop} {U : State} {H : Heap} (h : zro X ρ A U H) (hAB : ∀ q, B q → A q) : zro X ρ B U H :=
  ⟨fun j q hj => ⟨(h.1 j q hj).1, (h.1 j q hj).2.1, (h.1 j q hj).2.2.narrow hAB⟩, h.2.1.narrow hAB, h.2.2.1.narrow hAB, h.2.2.2⟩
-- words among nest mates
def isNest (w : Cond) : Bool := match w with
  | .fieldLinkNest .. => true
  | .methodLinkNest .. => true
  | _ => false
def nwL : List Cond := tables_1.filter isNest
def nwOK (U : State) : Prop := ∀ w ∈ nwL, va_Nw w U
theorem nwOK.warm {s U : State} (hW : s.WarmedH U.vm) (h : nwOK s) : nwOK U := by
  intro w hw
  have h1 := h w hw
  have h2 : isNest w = true := (List.mem_filter.mp hw).2
  unfold isNest at h2
  split at h2
  · exact va_Nw.warmF hW h1
  · exact va_Nw.warmM hW h1
  · cases h2
-- locals
def hasL (ls : Array Slot) (nL : Nat) (σ ρ : Nat → Nat) (L : List VV) : Prop := ls.size = nL ∧ lv_wf ls ∧ ∀ (i : Nat) (v : VV), L[i]? = some v → v ≠ vd → ls[i]? = some (.val (rv σ ρ v))
/-- what a frame of ours stands in, apart from stack and locals -/
def ZK (X : Nat × (Int → Int)) (b : Nat × Nat) (d : Nat) (mi : MI) (G : List GC) (mem : Mem) (p : Program) (R : Room) (s : State) (m : MethodId) (args : Array Value) (meth : Method) (c : Code) (D : va_G) (K : Nat → ClassId) (ρ : Nat → Nat) (A : Nat → Prop) (n0 : Nat) (σ0 σ : Nat → Nat) (H : Heap) (locs : List Loc) (cells slots mc ms : Nat) : Prop :=
  (CallFix p m c mi.2.1 mi.2.2.1 s args wsG mi.1.cls ∧ meth.sig.returnType = mi.2.2.2 ∧ meth.locks = false ∧ meth.name = mi.1.name) ∧
  (d ≤ R.frames ∧ 60 * d ≤ R.locals ∧ mc ≤ R.cells ∧ ms ≤ R.slots) ∧ (cells + b.1 ≤ mc ∧ slots + b.2 ≤ ms) ∧
  (∀ q, s.heap.size ≤ q → A q) ∧ zro X ρ A s s.heap ∧ nwOK s ∧ va_K D vwCl (tysK K) s ∧ (n0 ≤ G.length ∧ ∀ a, a < n0 → σ a = σ0 a) ∧
  va_P D vwCl (zW K σ G mem) H ∧ va_D A (zW K σ G mem) ∧ va_S A s.heap H locs ∧ mok G mem
def zQ (D : va_G) (K : Nat → ClassId) (ρ : Nat → Nat) (n0 : Nat) (σ0 : Nat → Nat) (A : Nat → Prop) (Q : zPost) : Array Value → State → Outcome → State → Prop := fun _ st oc t =>
  (∃ (G' : List GC) (σ' : Nat → Nat) (v : VV) (mem' : Mem), oc = .returned (rvo σ' ρ v) ∧ Q G' v mem' ∧ vok G'.length v ∧ (n0 ≤ G'.length ∧ ∀ a, a < n0 → σ' a = σ0 a) ∧ va_P D vwCl (zW K σ' G' mem') t.heap ∧ va_D A (zW K σ' G' mem') ∧ mok G' mem') ∧ va_F A st t
/-- THE JUDGEMENT: from this frame of the method mi over the virtual heap (G, mem) the method returns, and Q holds of the shape, the answer and the memory -/
def ZZ (X : Nat × (Int → Int)) (b : Nat × Nat) (d : Nat) (mi : MI) (G : List GC) (pc : Nat) (L S : List VV) (mem : Mem) (Q : zPost) : Prop :=
  ∀ (p : Program) (l : Launch) (e : Env) (R : Room) (s : State) (m : MethodId) (args : Array Value) (below : List Frame) (meth : Method) (c : Code) (D : va_G) (K : Nat → ClassId) (ρ : Nat → Nat) (A : Nat → Prop) (n0 : Nat) (σ0 σ : Nat → Nat) (H : Heap) (locs : List Loc) (cells slots mc ms : Nat) (ls : Array Slot),
    ZK X b d mi G mem p R s m args meth c D K ρ A n0 σ0 σ H locs cells slots mc ms → (∀ v ∈ S, vok G.length v) → (∀ v ∈ L, vok G.length v) → hasL ls mi.2.2.1 σ ρ L →
    W p l e R s m args below meth c H locs cells slots (MQ below (zQ D K ρ n0 σ0 A Q) args s mc ms A) (F0 m pc ls (S.map (rv σ ρ)))
def zPc (X : Nat × (Int → Int)) (D : va_G) (K : Nat → ClassId) (ρ σ : Nat → Nat) (G : List GC) (mem : Mem) (sz : Nat) (vs : List VV) : Array Value → State → Prop := fun v U =>
  v = (vs.map (rv σ ρ)).toArray ∧ U.heap.size = sz ∧ va_P D vwCl (zW K σ G mem) U.heap ∧ va_D (fun _ => True) (zW K σ G mem) ∧ va_K D vwCl (tysK K) U ∧ mok G mem ∧ zro X ρ (va_A (zW K σ G mem) sz) U U.heap ∧ nwOK U
def wsM (mi : MI) : List Cond := Cond.code mi.1 mi.2.1 mi.2.2.1 mi.2.2.2 :: wsG
/-- THE CONTRACT: method mi, called with the values vs over (G, mem), returns with Q -/
def CM (X : Nat × (Int → Int)) (b : Nat × Nat) (d : Nat) (mi : MI) (G : List GC) (vs : List VV) (mem : Mem) (Q : zPost) : Prop :=
  ∀ (l : Launch) (D : va_G) (K : Nat → ClassId) (ρ σ : Nat → Nat) (sz : Nat), (∀ v ∈ vs, vok G.length v) →
    Met l mi.1 (wsM mi) { frames := d, cells := b.1, slots := b.2, locals := 60 * d } (zPc X D K ρ σ G mem sz vs) (zQ D K ρ G.length σ (va_A (zW K σ G mem) sz) Q) b.1 b.2 (va_A (zW K σ G mem) sz)
