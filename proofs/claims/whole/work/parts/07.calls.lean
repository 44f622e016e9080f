theorem nwOK.same {u U : State} (h : u.vm = U.vm) (hn : nwOK u) : nwOK U := by
  intro w hw
  have h2 : isNest w = true := (List.mem_filter.mp hw).2
  refine va_Nw.same ?_ h (hn w hw)
  unfold isNest at h2
  split at h2
  · rfl
  · rfl
  · cases h2
theorem zPc_blind {X : Nat × (Int → Int)} {D : va_G} {K : Nat → ClassId} {ρ σ : Nat → Nat} {G : List GC} {mem : Mem} {sz : Nat} {vs : List VV} : FrameBlind (zPc X D K ρ σ G mem sz vs) := by
  intro a U g mk h
  obtain ⟨h1, h2, h3, h4, h5, h6, h7, h8⟩ := h
  exact ⟨h1, h2, h3, h4, va_K.moved (u := U) (U := U.calling g mk a) (Vm.Alike.refl U.vm) h5, h6, zro.moved (u := U) (U := U.calling g mk a) (Vm.Alike.refl U.vm) h7, nwOK.same (u := U) (U := U.calling g mk a) rfl h8⟩
-- the locals at a method's entry
def zent (vs : List VV) : List VV := match vs with
  | [] => []
  | .inr (.inl z) :: r => vl z :: vd :: zent r
  | v :: r => v :: zent r
theorem zent_args {σ ρ : Nat → Nat} : ∀ (vs : List VV) (off i : Nat) (v : VV), (zent vs)[i]? = some v → v ≠ vd → (off + i, rv σ ρ v) ∈ lv_args off (vs.map (rv σ ρ))
  | [], off, i, v, h, _ => by simp [zent] at h
  | w :: r, off, i, v, h, hv => by
    by_cases hw : ∃ z, w = vl z
    · obtain ⟨z, rfl⟩ := hw
      have e : zent (vl z :: r) = vl z :: vd :: zent r := rfl
      rw [e] at h
      show _ ∈ (off, Value.long (Int64.ofInt z)) :: lv_args (off + 2) (r.map (rv σ ρ))
      match i, h with
      | 0, h => cases h; exact List.mem_cons_self
      | 1, h => cases h; exact absurd rfl hv
      | j + 2, h =>
        have := zent_args (σ := σ) (ρ := ρ) r (off + 2) j v h hv
        refine List.mem_cons_of_mem _ ?_
        rw [show off + (j + 2) = off + 2 + j by omega]
        exact this
    · have e : zent (w :: r) = w :: zent r := by
        rcases w with z | z | a | j | u
        · rfl
        · exact absurd ⟨z, rfl⟩ hw
        · rfl
        · rfl
        · rfl
      rw [e] at h
      have hc : ¬ (rv σ ρ w).category = 2 := fun q => hw (cat_rv q)
      show _ ∈ (off, rv σ ρ w) :: lv_args (if (rv σ ρ w).category = 2 then off + 2 else off + 1) (r.map (rv σ ρ))
      rw [if_neg hc]
      match i, h with
      | 0, h => cases h; exact List.mem_cons_self
      | j + 1, h =>
        have := zent_args (σ := σ) (ρ := ρ) r (off + 1) j v h hv
        refine List.mem_cons_of_mem _ ?_
        rw [show off + (j + 1) = off + 1 + j by omega]
        exact this
theorem zent_len {σ ρ : Nat → Nat} : ∀ (vs : List VV), (lg_sl (vs.map (rv σ ρ))).length = (zent vs).length
  | [] => rfl
  | w :: r => by
    have ih := zent_len (σ := σ) (ρ := ρ) r
    unfold lg_sl at ih ⊢
    rcases w with z | z | a | j | u
    · simp only [List.map_cons, List.flatMap_cons, List.length_append, ih]
      simp [rv, Value.category, zent]; omega
    · simp only [List.map_cons, List.flatMap_cons, List.length_append, ih]
      simp [rv, Value.category, zent]; omega
    · simp only [List.map_cons, List.flatMap_cons, List.length_append, ih]
      simp [rv, Value.category, zent]; omega
    · simp only [List.map_cons, List.flatMap_cons, List.length_append, ih]
      simp [rv, Value.category, zent]; omega
    · simp only [List.map_cons, List.flatMap_cons, List.length_append, ih]
      simp [rv, Value.category, zent]; omega
theorem zent_vok {n : Nat} : ∀ (vs : List VV), (∀ v ∈ vs, vok n v) → ∀ v ∈ zent vs, vok n v
  | [], _, v, h => by simp [zent] at h
  | w :: r, hs, v, h => by
    have ih := zent_vok r (so_tl hs)
    rcases w with z | z | a | j | u
    · exact so_cons (so_hd hs) ih v h
    · exact so_cons (so_hd hs) (so_cons (v := vd) trivial ih) v h
    · exact so_cons (so_hd hs) ih v h
    · exact so_cons (so_hd hs) ih v h
    · exact so_cons (so_hd hs) ih v h
/-- a contract out of the walk from the entry -/
theorem CM.of {X : Nat × (Int → Int)} {b : Nat × Nat} {d : Nat} {mi : MI} {G : List GC} {vs : List VV} {mem : Mem} {Q : zPost} (hy : plainName mi.1.cls = true) (k : Nat) (hn : (zent vs).length ≤ mi.2.2.1) (h : ZZ X b d mi G 0 (zent vs ++ List.replicate k vd) [] mem Q) : CM X b d mi G vs mem Q := by
  intro l D K ρ σ sz hvs
  refine Met.ofW (cc := mi.2.1) (maxL := mi.2.2.1) (ret := mi.2.2.2) hy rfl ?_
  intro p e s m args below meth c s₁ B hml hv
  obtain ⟨rfl, hsz, hP, hD0, hK, hm, hro, hnw⟩ := hv
  have hts := atoms_spec (ws := wsM mi) B.pre
  have hown : s.vm.findClass mi.1.cls = some m.cls := findClass_of_methodNamed B.named
  have hin : meth.name = mi.1.name := (name_of_methodNamed B.named B.method).1
  subst hsz
  have hD := hD0.self (sz := s.heap.size)
  have hl := lv_entry (vs.map (rv σ ρ)) (n := mi.2.2.1) (by rw [zent_len]; exact hn)
  rw [lg_entry_eq]
  generalize (lg_sl (vs.map (rv σ ρ)) ++ List.replicate (mi.2.2.1 - (lg_sl (vs.map (rv σ ρ))).length) Slot.unset).toArray = ls at hl ⊢
  refine h p l e _ s m _ below meth c D K ρ _ G.length σ σ s.heap [] 0 0 b.1 b.2 ls ⟨⟨⟨B.exec, B.bytes, hml, hown, fun w hw => hts w (List.mem_cons_of_mem _ hw)⟩, B.returns, B.notSynchronized, hin⟩, ⟨Nat.le_refl _, Nat.le_refl _, Nat.le_refl _, Nat.le_refl _⟩, ⟨by omega, by omega⟩, fun q h => Or.inr h, hro, hnw, hK, ⟨Nat.le_refl _, fun _ _ => rfl⟩, hP, hD, va_S.rf, hm⟩ (fun v h => by cases h) ?_ ⟨hl.1, hl.2.1, ?_⟩
  · intro v hv
    rcases List.mem_append.mp hv with q | q
    · exact zent_vok vs hvs v q
    · rw [(List.mem_replicate.mp q).2]; trivial
  · intro i v hi hv
    by_cases hlt : i < (zent vs).length
    · rw [List.getElem?_append_left hlt] at hi
      have := hl.2.2 _ (zent_args vs 0 i v hi hv)
      rw [Nat.zero_add] at this
      exact this
    · rw [List.getElem?_append_right (by omega)] at hi
      exact absurd (List.mem_replicate.mp (List.mem_of_getElem? hi)).2 hv
section Calls2
variable {X : Nat × (Int → Int)} {b : Nat × Nat} {d : Nat} {mi : MI} {G : List GC} {pc : Nat} {L S : List VV} {mem : Mem} {Q : zPost}
theorem stk_map {σ' ρ : Nat → Nat} {S : List VV} (v : VV) : (stk v S).map (rv σ' ρ) = (rvo σ' ρ v).toList ++ S.map (rv σ' ρ) := by
  rcases v with z | z | a | j | u <;> rfl
theorem stk_vok {n : Nat} {v : VV} {S : List VV} (hv : vok n v) (hS : ∀ x ∈ S, vok n x) : ∀ x ∈ stk v S, vok n x := by
  rcases v with z | z | a | j | u
  · exact so_cons hv hS
  · exact so_cons hv hS
  · exact so_cons hv hS
  · exact so_cons hv hS
  · exact hS
/-- what comes behind a call -/
theorem z_cont {Q1 : zPost} {b1 b2 : Nat × Nat} {p : Program} {l : Launch} {e : Env} {R : Room} {s : State} {m : MethodId} {args : Array Value} {below : List Frame} {meth : Method} {c : Code} {D : va_G} {K : Nat → ClassId} {ρ : Nat → Nat} {A : Nat → Prop} {n0 : Nat} {σ0 σ : Nat → Nat} {H : Heap} {locs : List Loc} {cells slots mc ms : Nat} {ls : Array Slot} {a : Array Value} {st0 : List Value}
    (hr : va_Run p l e R s m args below meth c H locs cells slots b1.1 b1.2 (F0 m pc ls st0) (S.map (rv σ ρ)) (zQ D K ρ G.length σ (va_A (zW K σ G mem) H.size) Q1 a) (va_A (zW K σ G mem) H.size))
    (hK : ZK X b d mi G mem p R s m args meth c D K ρ A n0 σ0 σ H locs cells slots mc ms) (hS : ∀ v ∈ S, vok G.length v) (hL : ∀ v ∈ L, vok G.length v) (hl : hasL ls mi.2.2.1 σ ρ L)
    (hb : b1.1 + b2.1 ≤ b.1 ∧ b1.2 + b2.2 ≤ b.2) (kk : ∀ (G' : List GC) (v : VV) (mem' : Mem), Q1 G' v mem' → G.length ≤ G'.length → ZZ X b2 d mi G' (pc + 3) L (stk v S) mem' Q) :
    W p l e R s m args below meth c H locs cells slots (MQ below (zQ D K ρ n0 σ0 A Q) args s mc ms A) (F0 m (pc) ls (st0)) := by
  obtain ⟨hfix, hrm, hbud, hA, hro, hnw, hKK, hσ, hP, hD, hSS, hm⟩ := hK
  have hF : ∀ q, va_A (zW K σ G mem) H.size q → A q := by
    intro q h
    rcases h with ⟨k, w, h⟩ | h
    · exact hD.2 k (q, w) h
    · exact hA q (Nat.le_trans hSS.1 h)
  intro T hT Xs
  obtain ⟨v, st₀, t, T', Lc, h0, X', hLf, e1, e2, ⟨⟨G', σ', vv, mem', hv, hq, hvok, ⟨hn, hσ'⟩, hP', hD', hm'⟩, hz, hkk⟩, st⟩ := hr T hT Xs
  cases hv
  rw [h0] at hz hkk
  have hSn : va_S A s.heap T'.heap (locs ++ Lc) := by
    refine ⟨Nat.le_trans hSS.1 (by rw [e1]; exact hz), fun q h1 h2 => ?_, fun q hq => ?_⟩
    · rw [e1, hkk q (Nat.lt_of_lt_of_le h1 hSS.1) (fun z => h2 (hF q z))]
      exact hSS.2.1 q h1 h2
    · rcases List.mem_append.mp hq with h | h
      · exact hSS.2.2 q h
      · exact hF _ (hLf q h)
  have hKn : ZK X b2 d mi G' mem' p R s m args meth c D K ρ A n0 σ0 σ' T'.heap (locs ++ Lc) (cells + b1.1) (slots + b1.2) mc ms :=
    ⟨hfix, hrm, ⟨by omega, by omega⟩, hA, hro, hnw, hKK, ⟨Nat.le_trans hσ.1 hn, fun a ha => (hσ' a (Nat.lt_of_lt_of_le ha hσ.1)).trans (hσ.2 a ha)⟩, by rw [e1]; exact hP', ⟨hD'.1, fun k q hk => hF _ (hD'.2 k q hk)⟩, hSn, hm'⟩
  have h := kk G' vv mem' hq hn p l e R s m args below meth c D K ρ A n0 σ0 σ' T'.heap (locs ++ Lc) (cells + b1.1) (slots + b1.2) mc ms ls hKn (stk_vok hvok (fun x hx => vok_mono hn (hS x hx))) (fun x hx => vok_mono hn (hL x hx))
    ⟨hl.1, hl.2.1, fun i w hi hw => by rw [rv_congr hσ' (hL w (List.mem_of_getElem? hi))]; exact hl.2.2 i w hi hw⟩
  rw [stk_map, map_rv_congr hσ' hS] at h
  obtain ⟨t2, a1, c1⟩ := h T' rfl X'
  exact ⟨t2, st t2 a1, c1⟩
def vcat (v : VV) : Nat := match v with
  | .inr (.inl _) => 2
  | _ => 1
theorem vcat_map {σ ρ : Nat → Nat} (S : List VV) : ((S.map (rv σ ρ)).map fun v => v.category).sum = (S.map vcat).sum := by
  induction S with
  | nil => rfl
  | cons v r ih =>
    simp only [List.map_cons, List.sum_cons, ih]
    congr 1
    rcases v with z | z | a | j | u <;> rfl
def mOK (mi : MI) (n : Nat) : Prop := Cond.code mi.1 mi.2.1 mi.2.2.1 mi.2.2.2 ∈ wsG ∧ Cond.initialized mi.1.cls ∈ wsG ∧ (mi.1.cls ≠ "java/lang/invoke/MethodHandle" ∧ mi.1.cls ≠ "java/lang/invoke/VarHandle" ∧ (parseMethodDescriptor mi.1.desc).map (fun d => d.parameters.length) = some n) ∧ mi.2.2.1 ≤ 41
def lkM (own : String) (idx : Nat) (mi : MI) : Prop := Cond.methodLink own idx mi.1 ∈ wsG ∨ ∃ host, Cond.methodLinkNest own idx mi.1 host ∈ nwL
def lkV (own : String) (idx : Nat) (mi : MI) : Prop := lkM own idx mi ∧ Cond.instanceMethod mi.1 ∈ wsG ∧ Cond.selects mi.1.cls mi.1 mi.1 ∈ wsG
def lkS (own : String) (idx : Nat) (mi : MI) : Prop := lkM own idx mi ∧ Cond.static mi.1 ∈ wsG
def lkI (own : String) (idx : Nat) (mi : MI) : Prop := lkM own idx mi ∧ mi.1.name = "<init>" ∧ Cond.instanceMethod mi.1 ∈ wsG
theorem goodM {mi : MI} {n : Nat} (h : mOK mi n) : GoodIn wsG (wsM mi) := by
  intro w hw
  rcases List.mem_cons.mp hw with e | e
  · rw [e]; exact ⟨h.1, good_wsG _ h.1⟩
  · exact ⟨e, good_wsG _ e⟩
theorem zPc_of {p : Program} {R : Room} {s : State} {m : MethodId} {args : Array Value} {meth : Method} {c : Code} {D : va_G} {K : Nat → ClassId} {ρ : Nat → Nat} {A : Nat → Prop} {n0 : Nat} {σ0 σ : Nat → Nat} {H : Heap} {locs : List Loc} {cells slots mc ms : Nat} {vs : List VV}
    (hK : ZK X b d mi G mem p R s m args meth c D K ρ A n0 σ0 σ H locs cells slots mc ms) (U : State) (hU : U.heap = H) (hW : s.WarmedH U.vm) {av : Array Value} (hav : av = (vs.map (rv σ ρ)).toArray) : zPc X D K ρ σ G mem H.size vs av U := by
  obtain ⟨hfix, hrm, hbud, hA, hro, hnw, hKK, hσ, hP, hD, hSS, hm⟩ := hK
  have hF : ∀ q, va_A (zW K σ G mem) H.size q → A q := by
    intro q h
    rcases h with ⟨k, w, h⟩ | h
    · exact hD.2 k (q, w) h
    · exact hA q (Nat.le_trans hSS.1 h)
  refine ⟨hav, by rw [hU], by rw [hU]; exact hP, ⟨hD.1, fun _ _ _ => trivial⟩, hKK.moved hW.alike, hm, ?_, nwOK.warm hW hnw⟩
  rw [hU]
  exact ((hro.kept hSS.2.1).narrow hF).moved hW.alike
/-- a method of an object of ours -/
theorem z_callV {mi1 : MI} {idx ci a d1 : Nat} {rs : List (Option Nat)} {C : String} {T : u_T} {N : Nat} {As st : List VV} {Q1 : zPost} {b1 b2 : Nat × Nat} (hd : decode mi.2.1 pc = .ok (.invokevirtual idx, 3)) (hM : mOK mi1 As.length) (hlk : lkV mi.1.cls idx mi1)
    (hg : G[a]? = some (0, ci, rs)) (hc : vwCl[ci]? = some (C, T, N)) (hC : mi1.1.cls = C) (hst : st = As.reverse ++ vr a :: S) (hcat : (S.map vcat).sum ≤ 8) (hdd : d1 + 1 ≤ d) (hb : b1.1 + b2.1 ≤ b.1 ∧ b1.2 + b2.2 ≤ b.2)
    (hcm : CM X b1 d1 mi1 G (vr a :: As) mem Q1) (kk : ∀ (G' : List GC) (v : VV) (mem' : Mem), Q1 G' v mem' → G.length ≤ G'.length → ZZ X b2 d mi G' (pc + 3) L (stk v S) mem' Q) : ZZ X b d mi G pc L st mem Q := by
  intro p l e R s m args below meth c D K ρ A n0 σ0 σ H locs cells slots mc ms ls hK hS hL hl
  subst hst
  have hSr : ∀ v ∈ S, vok G.length v := fun v hv => hS v (List.mem_append_right _ (List.mem_cons_of_mem _ hv))
  have hvs : ∀ v ∈ vr a :: As, vok G.length v := so_cons (hS _ (List.mem_append_right _ List.mem_cons_self)) (fun v hv => hS v (List.mem_append_left _ (List.mem_reverse.mpr hv)))
  have hts := hK.1.1.2.2.2.2
  have hrm := hK.2.1
  have hmL := hM.2.2.2
  have hst2 : (As.reverse ++ vr a :: S).map (rv σ ρ) = (As.map (rv σ ρ)).reverse ++ .ref (σ a) :: S.map (rv σ ρ) := by
    rw [List.map_append, List.map_reverse]; rfl
  have hp : PreV s H C (σ a) (zPc X D K ρ σ G mem H.size (vr a :: As)) (As.map (rv σ ρ)) := ⟨zPc_blind, va_recv hK.2.2.2.2.2.2.1 hK.2.2.2.2.2.2.2.2.1 hc (zW_at hg), fun U hU hW => zPc_of hK U hU hW rfl⟩
  have hbud := hK.2.2.1
  refine z_cont (b1 := b1) (b2 := b2) (Q1 := Q1) (a := (Value.ref (σ a) :: As.map (rv σ ρ)).toArray) ?_ hK hSr hL hl hb kk
  rw [hst2]
  rcases hlk with ⟨hlk | ⟨host, hlk⟩, hin, hse⟩
  · exact va_runV hK.1.1 (hcm l D K ρ σ H.size hvs) ⟨callB_of As.length hts (goodM hM) rfl rfl rfl (hts _ hM.2.1) (hts _ hlk) hM.2.2.1 ⟨by show d1 + 1 ≤ _; omega, by show 8 + (_ + 11) + 60 * d1 ≤ _; omega⟩, hts _ hin, by rw [← hC]; exact hts _ hse⟩ hp rfl (by simp) hl.1 rfl (lv_room (by rw [vcat_map]; exact hcat)) hd ⟨by omega, by omega⟩
  · exact va_runVN hK.1.1 (hcm l D K ρ σ H.size hvs) ⟨va_cnB As.length hts (goodM hM) rfl rfl rfl (hK.2.2.2.2.2.1 _ hlk) (hts _ hM.2.1) hM.2.2.1 ⟨by show d1 + 1 ≤ _; omega, by show 8 + (_ + 11) + 60 * d1 ≤ _; omega⟩, hts _ hin, by rw [← hC]; exact hts _ hse⟩ hp rfl (by simp) hl.1 rfl (lv_room (by rw [vcat_map]; exact hcat)) hd ⟨by omega, by omega⟩
/-- a constructor of an object of ours -/
theorem z_callI {mi1 : MI} {idx a d1 : Nat} {As st : List VV} {Q1 : zPost} {b1 b2 : Nat × Nat} (hd : decode mi.2.1 pc = .ok (.invokespecial idx, 3)) (hM : mOK mi1 As.length) (hret : mi1.2.2.2 = none) (hlk : lkI mi.1.cls idx mi1)
    (hst : st = As.reverse ++ vr a :: S) (hcat : (S.map vcat).sum ≤ 8) (hdd : d1 + 1 ≤ d) (hb : b1.1 + b2.1 ≤ b.1 ∧ b1.2 + b2.2 ≤ b.2)
    (hcm : CM X b1 d1 mi1 G (vr a :: As) mem Q1) (kk : ∀ (G' : List GC) (v : VV) (mem' : Mem), Q1 G' v mem' → G.length ≤ G'.length → ZZ X b2 d mi G' (pc + 3) L (stk v S) mem' Q) : ZZ X b d mi G pc L st mem Q := by
  intro p l e R s m args below meth c D K ρ A n0 σ0 σ H locs cells slots mc ms ls hK hS hL hl
  subst hst
  have hSr : ∀ v ∈ S, vok G.length v := fun v hv => hS v (List.mem_append_right _ (List.mem_cons_of_mem _ hv))
  have hvs : ∀ v ∈ vr a :: As, vok G.length v := so_cons (hS _ (List.mem_append_right _ List.mem_cons_self)) (fun v hv => hS v (List.mem_append_left _ (List.mem_reverse.mpr hv)))
  have hts := hK.1.1.2.2.2.2
  have hrm := hK.2.1
  have hmL := hM.2.2.2
  have hbud := hK.2.2.1
  obtain ⟨y1, c1, n1, r1⟩ := mi1
  cases hret
  have hst2 : (As.reverse ++ vr a :: S).map (rv σ ρ) = (As.map (rv σ ρ)).reverse ++ .ref (σ a) :: S.map (rv σ ρ) := by
    rw [List.map_append, List.map_reverse]; rfl
  have hp : PreS s H (zPc X D K ρ σ G mem H.size (vr a :: As)) (.ref (σ a) :: As.map (rv σ ρ)) := ⟨zPc_blind, fun U hU hW => zPc_of hK U hU hW rfl⟩
  refine z_cont (b1 := b1) (b2 := b2) (Q1 := Q1) (a := (Value.ref (σ a) :: As.map (rv σ ρ)).toArray) ?_ hK hSr hL hl hb kk
  rw [hst2]
  rcases hlk with ⟨hlk | ⟨host, hlk⟩, hy1, hin⟩
  · exact va_runI hK.1.1 (hcm l D K ρ σ H.size hvs) ⟨callB_of As.length hts (goodM hM) rfl rfl rfl (hts _ hM.2.1) (hts _ hlk) hM.2.2.1 ⟨by show d1 + 1 ≤ _; omega, by show 8 + (n1 + 11) + 60 * d1 ≤ _; have : n1 ≤ 41 := hmL; omega⟩, hy1, hts _ hin⟩ hp rfl (by simp) hl.1 rfl (lv_room (by rw [vcat_map]; exact hcat)) hd ⟨by omega, by omega⟩
  · exact va_runIN hK.1.1 (hcm l D K ρ σ H.size hvs) ⟨va_cnB As.length hts (goodM hM) rfl rfl rfl (hK.2.2.2.2.2.1 _ hlk) (hts _ hM.2.1) hM.2.2.1 ⟨by show d1 + 1 ≤ _; omega, by show 8 + (n1 + 11) + 60 * d1 ≤ _; have : n1 ≤ 41 := hmL; omega⟩, hy1, hts _ hin⟩ hp rfl (by simp) hl.1 rfl (lv_room (by rw [vcat_map]; exact hcat)) hd ⟨by omega, by omega⟩
/-- a static method -/
theorem z_callS {mi1 : MI} {idx d1 : Nat} {As st : List VV} {Q1 : zPost} {b1 b2 : Nat × Nat} (hd : decode mi.2.1 pc = .ok (.invokestatic idx, 3)) (hM : mOK mi1 As.length) (hlk : lkS mi.1.cls idx mi1)
    (hst : st = As.reverse ++ S) (hcat : (S.map vcat).sum ≤ 8) (hdd : d1 + 1 ≤ d) (hb : b1.1 + b2.1 ≤ b.1 ∧ b1.2 + b2.2 ≤ b.2)
    (hcm : CM X b1 d1 mi1 G As mem Q1) (kk : ∀ (G' : List GC) (v : VV) (mem' : Mem), Q1 G' v mem' → G.length ≤ G'.length → ZZ X b2 d mi G' (pc + 3) L (stk v S) mem' Q) : ZZ X b d mi G pc L st mem Q := by
  intro p l e R s m args below meth c D K ρ A n0 σ0 σ H locs cells slots mc ms ls hK hS hL hl
  subst hst
  have hSr : ∀ v ∈ S, vok G.length v := fun v hv => hS v (List.mem_append_right _ hv)
  have hvs : ∀ v ∈ As, vok G.length v := fun v hv => hS v (List.mem_append_left _ (List.mem_reverse.mpr hv))
  have hts := hK.1.1.2.2.2.2
  have hrm := hK.2.1
  have hmL := hM.2.2.2
  have hbud := hK.2.2.1
  have hst2 : (As.reverse ++ S).map (rv σ ρ) = (As.map (rv σ ρ)).reverse ++ S.map (rv σ ρ) := by
    rw [List.map_append, List.map_reverse]
  have hp : PreS s H (zPc X D K ρ σ G mem H.size As) (As.map (rv σ ρ)) := ⟨zPc_blind, fun U hU hW => zPc_of hK U hU hW rfl⟩
  refine z_cont (b1 := b1) (b2 := b2) (Q1 := Q1) (a := (As.map (rv σ ρ)).toArray) ?_ hK hSr hL hl hb kk
  rw [hst2]
  rcases hlk with ⟨hlk | ⟨host, hlk⟩, hstt⟩
  · exact va_runS hK.1.1 (hcm l D K ρ σ H.size hvs) ⟨callB_of As.length hts (goodM hM) rfl rfl rfl (hts _ hM.2.1) (hts _ hlk) hM.2.2.1 ⟨by show d1 + 1 ≤ _; omega, by show 8 + (_ + 11) + 60 * d1 ≤ _; omega⟩, hts _ hstt⟩ hp rfl (by simp) hl.1 rfl (lv_room (by rw [vcat_map]; exact hcat)) hd ⟨by omega, by omega⟩
  · exact va_runSN hK.1.1 (hcm l D K ρ σ H.size hvs) ⟨va_cnB As.length hts (goodM hM) rfl rfl rfl (hK.2.2.2.2.2.1 _ hlk) (hts _ hM.2.1) hM.2.2.1 ⟨by show d1 + 1 ≤ _; omega, by show 8 + (_ + 11) + 60 * d1 ≤ _; omega⟩, hts _ hstt, trivial⟩ hp rfl (by simp) hl.1 rfl (lv_room (by rw [vcat_map]; exact hcat)) hd ⟨by omega, by omega⟩
end Calls2
